/-! ===== X4_sizeOf ===== -/
def f_X4_sizeOf_4 (σ : St) (x1 : Int32) : Nat → Int32 → Int32 → Option RV
  | 0, _, _ => none
  | n + 1, x2, x3 =>
    if (σ 8 2) ≤ x3 then
      some (.inl (some (.inl x2)))
    else
      if x3 < 0 ∨ 16 ≤ x3.toNatClampNeg then none
      else
        if (σ 13 x3.toNatClampNeg) = x1 then
          f_X4_sizeOf_4 σ x1 n (x2 + 1) (x3 + 1)
        else
          f_X4_sizeOf_4 σ x1 n (x2 + 0) (x3 + 1)
set_option maxHeartbeats 4000000 in
set_option maxRecDepth 100000 in
theorem w_X4_sizeOf_4 {p : Program} {l : Launch} {e : Env} {s : State} {m : MethodId} {args : Array Value} {below : List Frame} {meth : Method} {c : Code} {G : GT} {lo : Nat → Int64} (F : Fx p l s args m meth c G cX4_sizeOf 4 (some .int) RX4) {σ : St} {x1 : Int32} : ∀ (n : Nat) {x2 : Int32} {x3 : Int32} {r : RV}, f_X4_sizeOf_4 σ x1 n x2 x3 = some r → ∀ {H : Heap} {locs : List Loc}, va_P (gD G) vwCl (wld G lo σ) H → va_S (gF G) s.heap H locs → ∀ {ls : Array Slot}, lv_has ls 4 [(0, .ref (gA G 8)), (1, .int x1), (2, .int x2), (3, .int x3)] → W p l e (RM 0 0 0 0) s m args below meth c H locs 0 0 (vx_MQ below (QCr G lo (r, σ)) (XCr G lo (r, σ)) args s 0 0 (gF G)) (F0 m 4 ls []) := by
  obtain ⟨hx, hb, hrt, hml, hown, hts, hlocks, hC, htab, hst⟩ := id F
  intro n
  induction n with
  | zero =>
    intro x2 x3 r hm
    simp only [f_X4_sizeOf_4] at hm
    cases hm
  | succ n ih =>
    intro x2 x3 r hm H locs hP hS ls hl
    rw [f_X4_sizeOf_4] at hm
    refine lv_iload_n hx hb dX4_sizeOf_4 rfl (lv_at hl 3 rfl) ?_
    refine lv_aload_n hx hb dX4_sizeOf_5 rfl (lv_at hl 0 rfl) ?_
    refine xg F 2 inX4 hP (kd_k kdc_8 (by decide)) (wc4 kdc_8) rfl (by decide) tk_555 rfl rfl dX4_sizeOf_6 ?_
    refine lv_icmp_ge (tgt := 36) hx hb dX4_sizeOf_9 (by decide) (fun b1 => ?_) (fun b1 => ?_)
    · rw [if_pos b1] at hm
      refine lv_iload_n hx hb dX4_sizeOf_36 rfl (lv_at hl 2 rfl) ?_
      exact xir F hP hS (congrArg (fun z => (z, σ)) (Option.some.inj hm).symm) (by decide) (by decide) dX4_sizeOf_37
    · rw [if_neg b1] at hm
      refine lv_iload_n hx hb dX4_sizeOf_12 rfl (lv_at hl 2 rfl) ?_
      refine lv_aload_n hx hb dX4_sizeOf_13 rfl (lv_at hl 0 rfl) ?_
      refine xg F 7 inX4 hP (kd_k kdc_8 (by decide)) (wc4 kdc_8) rfl (by decide) tk_560 rfl rfl dX4_sizeOf_14 ?_
      refine lv_iload_n hx hb dX4_sizeOf_17 rfl (lv_at hl 3 rfl) ?_
      by_cases b2 : (x3 < 0 ∨ 16 ≤ x3.toNatClampNeg)
      · rw [if_pos b2] at hm
        cases hm
      · rw [if_neg b2] at hm
        refine xil F hP kdc_13 lnc_13 b2 dX4_sizeOf_18 ?_
        refine lv_iload_n hx hb dX4_sizeOf_19 rfl (lv_at hl 1 rfl) ?_
        refine lv_icmp_ne (tgt := 27) hx hb dX4_sizeOf_20 (by decide) (fun b3 => ?_) (fun b3 => ?_)
        · rw [if_neg b3] at hm
          refine lv_iconst (v := 0) hx hb dX4_sizeOf_27 (by decide) ?_
          refine lv_iadd hx hb dX4_sizeOf_28 ?_
          refine lv_istore_n (lv' := [(2, .int (x2 + 0)), (0, .ref (gA G 8)), (1, .int x1), (3, .int x3)]) hx hb dX4_sizeOf_29 rfl hl (by decide) rfl (fun ls hl => ?_)
          refine lv_iinc (v := (x3 + 1)) (lv' := [(3, .int (x3 + 1)), (2, .int (x2 + 0)), (0, .ref (gA G 8)), (1, .int x1)]) hx hb dX4_sizeOf_30 hl (k := 3) rfl rfl (by decide) rfl (fun ls hl => ?_)
          refine lv_goto (tgt := 4) hx hb dX4_sizeOf_33 (by decide) ?_
          exact ih hm hP hS (lv_sub hl [2, 3, 1, 0] rfl)
        · rw [if_pos b3] at hm
          refine lv_iconst (v := 1) hx hb dX4_sizeOf_23 (by decide) ?_
          refine lv_goto (tgt := 28) hx hb dX4_sizeOf_24 (by decide) ?_
          refine lv_iadd hx hb dX4_sizeOf_28 ?_
          refine lv_istore_n (lv' := [(2, .int (x2 + 1)), (0, .ref (gA G 8)), (1, .int x1), (3, .int x3)]) hx hb dX4_sizeOf_29 rfl hl (by decide) rfl (fun ls hl => ?_)
          refine lv_iinc (v := (x3 + 1)) (lv' := [(3, .int (x3 + 1)), (2, .int (x2 + 1)), (0, .ref (gA G 8)), (1, .int x1)]) hx hb dX4_sizeOf_30 hl (k := 3) rfl rfl (by decide) rfl (fun ls hl => ?_)
          refine lv_goto (tgt := 4) hx hb dX4_sizeOf_33 (by decide) ?_
          exact ih hm hP hS (lv_sub hl [2, 3, 1, 0] rfl)
def f_X4_sizeOf (σ : St) (x1 : Int32) : Option RV :=
  f_X4_sizeOf_4 σ x1 40 0 0
set_option maxHeartbeats 4000000 in
set_option maxRecDepth 100000 in
theorem c_X4_sizeOf {l : Launch} {G : GT} {σ : St} {x1 : Int32} {r : RV} (hm : f_X4_sizeOf σ x1 = some r) : MC l G yX4_sizeOf cX4_sizeOf 4 (some .int) 0 0 0 0 [.inr 8, .inl x1] σ (r, σ) := by
  refine xbody (by decide) (Nat.le_of_ble_eq_true rfl) ?_
  intro lo p e s m args below meth c F hP ls hl
  have F : Fx p l s args m meth c G cX4_sizeOf 4 (some .int) RX4 := F
  obtain ⟨hx, hb, hrt, hml, hown, hts, hlocks, hC, htab, hst⟩ := id F
  have hS : va_S (gF G) s.heap s.heap [] := va_S.rf
  have hl : lv_has ls 4 [(0, .ref (gA G 8)), (1, .int x1)] := hl
  unfold f_X4_sizeOf at hm
  refine lv_iconst (v := 0) hx hb dX4_sizeOf_0 (by decide) ?_
  refine lv_istore_n (lv' := [(2, .int 0), (0, .ref (gA G 8)), (1, .int x1)]) hx hb dX4_sizeOf_1 rfl hl (by decide) rfl (fun ls hl => ?_)
  refine lv_iconst (v := 0) hx hb dX4_sizeOf_2 (by decide) ?_
  refine lv_istore_n (lv' := [(3, .int 0), (2, .int 0), (0, .ref (gA G 8)), (1, .int x1)]) hx hb dX4_sizeOf_3 rfl hl (by decide) rfl (fun ls hl => ?_)
  exact w_X4_sizeOf_4 F 40 hm hP hS (lv_sub hl [2, 3, 1, 0] rfl)
/-! ===== X4_secondsOf ===== -/
def f_X4_secondsOf_4 (σ : St) (x1 : Int32) : Nat → Int32 → Int32 → Option RV
  | 0, _, _ => none
  | n + 1, x2, x3 =>
    if (σ 8 2) ≤ x3 then
      ri (f_X4_savedOf σ x1) (fun x2_ =>
        some (.inl (some (.inl (x2 - x2_)))))
    else
      if x3 < 0 ∨ 16 ≤ x3.toNatClampNeg then none
      else
        if (σ 13 x3.toNatClampNeg) = x1 then
          f_X4_secondsOf_4 σ x1 n (x2 + (σ 11 x3.toNatClampNeg)) (x3 + 1)
        else
          f_X4_secondsOf_4 σ x1 n (x2 + 0) (x3 + 1)
set_option maxHeartbeats 4000000 in
set_option maxRecDepth 100000 in
theorem w_X4_secondsOf_4 {p : Program} {l : Launch} {e : Env} {s : State} {m : MethodId} {args : Array Value} {below : List Frame} {meth : Method} {c : Code} {G : GT} {lo : Nat → Int64} (F : Fx p l s args m meth c G cX4_secondsOf 4 (some .int) RX4) {σ : St} {x1 : Int32} : ∀ (n : Nat) {x2 : Int32} {x3 : Int32} {r : RV}, f_X4_secondsOf_4 σ x1 n x2 x3 = some r → ∀ {H : Heap} {locs : List Loc}, va_P (gD G) vwCl (wld G lo σ) H → va_S (gF G) s.heap H locs → ∀ {ls : Array Slot}, lv_has ls 4 [(0, .ref (gA G 8)), (1, .int x1), (2, .int x2), (3, .int x3)] → W p l e (RM 3 71 0 0) s m args below meth c H locs 0 0 (vx_MQ below (QCr G lo (r, σ)) (XCr G lo (r, σ)) args s 0 0 (gF G)) (F0 m 4 ls []) := by
  obtain ⟨hx, hb, hrt, hml, hown, hts, hlocks, hC, htab, hst⟩ := id F
  intro n
  induction n with
  | zero =>
    intro x2 x3 r hm
    simp only [f_X4_secondsOf_4] at hm
    cases hm
  | succ n ih =>
    intro x2 x3 r hm H locs hP hS ls hl
    rw [f_X4_secondsOf_4] at hm
    refine lv_iload_n hx hb dX4_secondsOf_4 rfl (lv_at hl 3 rfl) ?_
    refine lv_aload_n hx hb dX4_secondsOf_5 rfl (lv_at hl 0 rfl) ?_
    refine xg F 2 inX4 hP (kd_k kdc_8 (by decide)) (wc4 kdc_8) rfl (by decide) tk_555 rfl rfl dX4_secondsOf_6 ?_
    refine lv_icmp_ge (tgt := 41) hx hb dX4_secondsOf_9 (by decide) (fun b1 => ?_) (fun b1 => ?_)
    · rw [if_pos b1] at hm
      refine lv_iload_n hx hb dX4_secondsOf_41 rfl (lv_at hl 2 rfl) ?_
      refine lv_aload_n hx hb dX4_secondsOf_42 rfl (lv_at hl 0 rfl) ?_
      refine lv_iload_n hx hb dX4_secondsOf_43 rfl (lv_at hl 1 rfl) ?_
      obtain ⟨x2_, h2, hm⟩ := ri_inv hm
      refine xV F (c_X4_savedOf h2) tk_723 tk_720 tk_722 tu_48 tk_6 rfl 1 (by decide +kernel) rfl ⟨Nat.le_of_ble_eq_true rfl, Nat.le_of_ble_eq_true rfl⟩ hP hS (kd_k kdc_8 (by decide)) (wc4 kdc_8) rfl hl.1 rfl (Nat.le_of_ble_eq_true rfl) dX4_secondsOf_44 ⟨Nat.le_of_ble_eq_true rfl, Nat.le_of_ble_eq_true rfl⟩ (fun v hv H locs hP hS => ?_) (fun E hE => by cases hE)
      cases hv
      replace hP : va_P (gD G) vwCl (wld G lo σ) H := hP
      refine W.eq (g2 := F0 m 47 ls [.int x2_, .int x2]) rfl ?_
      refine lv_isub hx hb dX4_secondsOf_47 ?_
      exact xir F hP hS (congrArg (fun z => (z, σ)) (Option.some.inj hm).symm) (by decide) (by decide) dX4_secondsOf_48
    · rw [if_neg b1] at hm
      refine lv_iload_n hx hb dX4_secondsOf_12 rfl (lv_at hl 2 rfl) ?_
      refine lv_aload_n hx hb dX4_secondsOf_13 rfl (lv_at hl 0 rfl) ?_
      refine xg F 7 inX4 hP (kd_k kdc_8 (by decide)) (wc4 kdc_8) rfl (by decide) tk_560 rfl rfl dX4_secondsOf_14 ?_
      refine lv_iload_n hx hb dX4_secondsOf_17 rfl (lv_at hl 3 rfl) ?_
      by_cases b3 : (x3 < 0 ∨ 16 ≤ x3.toNatClampNeg)
      · rw [if_pos b3] at hm
        cases hm
      · rw [if_neg b3] at hm
        refine xil F hP kdc_13 lnc_13 b3 dX4_secondsOf_18 ?_
        refine lv_iload_n hx hb dX4_secondsOf_19 rfl (lv_at hl 1 rfl) ?_
        refine lv_icmp_ne (tgt := 32) hx hb dX4_secondsOf_20 (by decide) (fun b4 => ?_) (fun b4 => ?_)
        · rw [if_neg b4] at hm
          refine lv_iconst (v := 0) hx hb dX4_secondsOf_32 (by decide) ?_
          refine lv_iadd hx hb dX4_secondsOf_33 ?_
          refine lv_istore_n (lv' := [(2, .int (x2 + 0)), (0, .ref (gA G 8)), (1, .int x1), (3, .int x3)]) hx hb dX4_secondsOf_34 rfl hl (by decide) rfl (fun ls hl => ?_)
          refine lv_iinc (v := (x3 + 1)) (lv' := [(3, .int (x3 + 1)), (2, .int (x2 + 0)), (0, .ref (gA G 8)), (1, .int x1)]) hx hb dX4_secondsOf_35 hl (k := 3) rfl rfl (by decide) rfl (fun ls hl => ?_)
          refine lv_goto (tgt := 4) hx hb dX4_secondsOf_38 (by decide) ?_
          exact ih hm hP hS (lv_sub hl [2, 3, 1, 0] rfl)
        · rw [if_pos b4] at hm
          refine lv_aload_n hx hb dX4_secondsOf_23 rfl (lv_at hl 0 rfl) ?_
          refine xg F 5 inX4 hP (kd_k kdc_8 (by decide)) (wc4 kdc_8) rfl (by decide) tk_558 rfl rfl dX4_secondsOf_24 ?_
          refine lv_iload_n hx hb dX4_secondsOf_27 rfl (lv_at hl 3 rfl) ?_
          refine xil F hP kdc_11 lnc_11 b3 dX4_secondsOf_28 ?_
          refine lv_goto (tgt := 33) hx hb dX4_secondsOf_29 (by decide) ?_
          refine lv_iadd hx hb dX4_secondsOf_33 ?_
          refine lv_istore_n (lv' := [(2, .int (x2 + (σ 11 x3.toNatClampNeg))), (0, .ref (gA G 8)), (1, .int x1), (3, .int x3)]) hx hb dX4_secondsOf_34 rfl hl (by decide) rfl (fun ls hl => ?_)
          refine lv_iinc (v := (x3 + 1)) (lv' := [(3, .int (x3 + 1)), (2, .int (x2 + (σ 11 x3.toNatClampNeg))), (0, .ref (gA G 8)), (1, .int x1)]) hx hb dX4_secondsOf_35 hl (k := 3) rfl rfl (by decide) rfl (fun ls hl => ?_)
          refine lv_goto (tgt := 4) hx hb dX4_secondsOf_38 (by decide) ?_
          exact ih hm hP hS (lv_sub hl [2, 3, 1, 0] rfl)
def f_X4_secondsOf (σ : St) (x1 : Int32) : Option RV :=
  f_X4_secondsOf_4 σ x1 40 0 0
set_option maxHeartbeats 4000000 in
set_option maxRecDepth 100000 in
theorem c_X4_secondsOf {l : Launch} {G : GT} {σ : St} {x1 : Int32} {r : RV} (hm : f_X4_secondsOf σ x1 = some r) : MC l G yX4_secondsOf cX4_secondsOf 4 (some .int) 3 71 0 0 [.inr 8, .inl x1] σ (r, σ) := by
  refine xbody (by decide) (Nat.le_of_ble_eq_true rfl) ?_
  intro lo p e s m args below meth c F hP ls hl
  have F : Fx p l s args m meth c G cX4_secondsOf 4 (some .int) RX4 := F
  obtain ⟨hx, hb, hrt, hml, hown, hts, hlocks, hC, htab, hst⟩ := id F
  have hS : va_S (gF G) s.heap s.heap [] := va_S.rf
  have hl : lv_has ls 4 [(0, .ref (gA G 8)), (1, .int x1)] := hl
  unfold f_X4_secondsOf at hm
  refine lv_iconst (v := 0) hx hb dX4_secondsOf_0 (by decide) ?_
  refine lv_istore_n (lv' := [(2, .int 0), (0, .ref (gA G 8)), (1, .int x1)]) hx hb dX4_secondsOf_1 rfl hl (by decide) rfl (fun ls hl => ?_)
  refine lv_iconst (v := 0) hx hb dX4_secondsOf_2 (by decide) ?_
  refine lv_istore_n (lv' := [(3, .int 0), (2, .int 0), (0, .ref (gA G 8)), (1, .int x1)]) hx hb dX4_secondsOf_3 rfl hl (by decide) rfl (fun ls hl => ?_)
  exact w_X4_secondsOf_4 F 40 hm hP hS (lv_sub hl [2, 3, 1, 0] rfl)
/-! ===== X4_isWave ===== -/
def f_X4_isWave (σ : St) (x1 : Int32) : Option RV :=
  ri (f_X4_in σ x1 1 (σ 8 16)) (fun x1_ =>
    if x1_ = 0 then
      some (.inl (some (.inl 0)))
    else
      ri (f_X4_sizeOf σ x1) (fun x3_ =>
        if x3_ ≤ 0 then
          some (.inl (some (.inl 0)))
        else
          some (.inl (some (.inl 1)))))
set_option maxHeartbeats 4000000 in
set_option maxRecDepth 100000 in
theorem c_X4_isWave {l : Launch} {G : GT} {σ : St} {x1 : Int32} {r : RV} (hm : f_X4_isWave σ x1 = some r) : MC l G yX4_isWave cX4_isWave 2 (some .boolean) 1 23 0 0 [.inr 8, .inl x1] σ (r, σ) := by
  refine xbody (by decide) (Nat.le_of_ble_eq_true rfl) ?_
  intro lo p e s m args below meth c F hP ls hl
  have F : Fx p l s args m meth c G cX4_isWave 2 (some .boolean) RX4 := F
  obtain ⟨hx, hb, hrt, hml, hown, hts, hlocks, hC, htab, hst⟩ := id F
  have hS : va_S (gF G) s.heap s.heap [] := va_S.rf
  have hl : lv_has ls 2 [(0, .ref (gA G 8)), (1, .int x1)] := hl
  unfold f_X4_isWave at hm
  refine lv_iload_n hx hb dX4_isWave_0 rfl (lv_at hl 1 rfl) ?_
  refine lv_iconst (v := 1) hx hb dX4_isWave_1 (by decide) ?_
  refine lv_aload_n hx hb dX4_isWave_2 rfl (lv_at hl 0 rfl) ?_
  refine xg F 16 inX4 hP (kd_k kdc_8 (by decide)) (wc4 kdc_8) rfl (by decide) tk_569 rfl rfl dX4_isWave_3 ?_
  obtain ⟨x1_, h1, hm⟩ := ri_inv hm
  refine xSt F (c_X4_in h1) tk_635 tk_633 tk_634 tk_6 rfl 3 (by decide +kernel) rfl ⟨Nat.le_of_ble_eq_true rfl, Nat.le_of_ble_eq_true rfl⟩ hP hS hl.1 rfl (Nat.le_of_ble_eq_true rfl) dX4_isWave_6 ⟨Nat.le_of_ble_eq_true rfl, Nat.le_of_ble_eq_true rfl⟩ (fun v hv H locs hP hS => ?_) (fun E hE => by cases hE)
  cases hv
  replace hP : va_P (gD G) vwCl (wld G lo σ) H := hP
  refine W.eq (g2 := F0 m 9 ls [.int x1_]) rfl ?_
  refine lv_if_eq (tgt := 24) hx hb dX4_isWave_9 (by decide) (fun b2 => ?_) (fun b2 => ?_)
  · rw [if_pos b2] at hm
    refine lv_iconst (v := 0) hx hb dX4_isWave_24 (by decide) ?_
    exact xzr F hP hS rfl (congrArg (fun z => (z, σ)) (Option.some.inj hm).symm) (by decide) (by decide) dX4_isWave_25
  · rw [if_neg b2] at hm
    refine lv_aload_n hx hb dX4_isWave_12 rfl (lv_at hl 0 rfl) ?_
    refine lv_iload_n hx hb dX4_isWave_13 rfl (lv_at hl 1 rfl) ?_
    obtain ⟨x3_, h3, hm⟩ := ri_inv hm
    refine xV F (c_X4_sizeOf h3) tk_715 tk_712 tk_714 tu_46 tk_6 rfl 1 (by decide +kernel) rfl ⟨Nat.le_of_ble_eq_true rfl, Nat.le_of_ble_eq_true rfl⟩ hP hS (kd_k kdc_8 (by decide)) (wc4 kdc_8) rfl hl.1 rfl (Nat.le_of_ble_eq_true rfl) dX4_isWave_14 ⟨Nat.le_of_ble_eq_true rfl, Nat.le_of_ble_eq_true rfl⟩ (fun v hv H locs hP hS => ?_) (fun E hE => by cases hE)
    cases hv
    replace hP : va_P (gD G) vwCl (wld G lo σ) H := hP
    refine W.eq (g2 := F0 m 17 ls [.int x3_]) rfl ?_
    refine lv_if_le (tgt := 24) hx hb dX4_isWave_17 (by decide) (fun b4 => ?_) (fun b4 => ?_)
    · rw [if_pos b4] at hm
      refine lv_iconst (v := 0) hx hb dX4_isWave_24 (by decide) ?_
      exact xzr F hP hS rfl (congrArg (fun z => (z, σ)) (Option.some.inj hm).symm) (by decide) (by decide) dX4_isWave_25
    · rw [if_neg b4] at hm
      refine lv_iconst (v := 1) hx hb dX4_isWave_20 (by decide) ?_
      refine lv_goto (tgt := 25) hx hb dX4_isWave_21 (by decide) ?_
      exact xzr F hP hS rfl (congrArg (fun z => (z, σ)) (Option.some.inj hm).symm) (by decide) (by decide) dX4_isWave_25
/-! ===== X4_isOpen ===== -/
def f_X4_isOpen (σ : St) (x1 : Int32) : Option RV :=
  if x1 < 0 ∨ 16 ≤ x1.toNatClampNeg then none
  else
    if (σ 13 x1.toNatClampNeg) = 0 then
      if (σ 22 x1.toNatClampNeg) = 0 then
        ri (f_X4_fits σ (σ 12 x1.toNatClampNeg) (σ 9 x1.toNatClampNeg)) (fun x4_ =>
          if x4_ = 0 then
            some (.inl (some (.inl 0)))
          else
            some (.inl (some (.inl 1))))
      else
        some (.inl (some (.inl 0)))
    else
      some (.inl (some (.inl 0)))
set_option maxHeartbeats 4000000 in
set_option maxRecDepth 100000 in
theorem c_X4_isOpen {l : Launch} {G : GT} {σ : St} {x1 : Int32} {r : RV} (hm : f_X4_isOpen σ x1 = some r) : MC l G yX4_isOpen cX4_isOpen 2 (some .boolean) 1 23 0 0 [.inr 8, .inl x1] σ (r, σ) := by
  refine xbody (by decide) (Nat.le_of_ble_eq_true rfl) ?_
  intro lo p e s m args below meth c F hP ls hl
  have F : Fx p l s args m meth c G cX4_isOpen 2 (some .boolean) RX4 := F
  obtain ⟨hx, hb, hrt, hml, hown, hts, hlocks, hC, htab, hst⟩ := id F
  have hS : va_S (gF G) s.heap s.heap [] := va_S.rf
  have hl : lv_has ls 2 [(0, .ref (gA G 8)), (1, .int x1)] := hl
  unfold f_X4_isOpen at hm
  refine lv_aload_n hx hb dX4_isOpen_0 rfl (lv_at hl 0 rfl) ?_
  refine xg F 7 inX4 hP (kd_k kdc_8 (by decide)) (wc4 kdc_8) rfl (by decide) tk_560 rfl rfl dX4_isOpen_1 ?_
  refine lv_iload_n hx hb dX4_isOpen_4 rfl (lv_at hl 1 rfl) ?_
  by_cases b1 : (x1 < 0 ∨ 16 ≤ x1.toNatClampNeg)
  · rw [if_pos b1] at hm
    cases hm
  · rw [if_neg b1] at hm
    refine xil F hP kdc_13 lnc_13 b1 dX4_isOpen_5 ?_
    refine lv_if_ne (tgt := 41) hx hb dX4_isOpen_6 (by decide) (fun b2 => ?_) (fun b2 => ?_)
    · rw [if_neg b2] at hm
      refine lv_iconst (v := 0) hx hb dX4_isOpen_41 (by decide) ?_
      exact xzr F hP hS rfl (congrArg (fun z => (z, σ)) (Option.some.inj hm).symm) (by decide) (by decide) dX4_isOpen_42
    · rw [if_pos b2] at hm
      refine lv_aload_n hx hb dX4_isOpen_9 rfl (lv_at hl 0 rfl) ?_
      refine xg F 19 inX4 hP (kd_k kdc_8 (by decide)) (wc4 kdc_8) rfl (by decide) tk_572 rfl rfl dX4_isOpen_10 ?_
      refine lv_iload_n hx hb dX4_isOpen_13 rfl (lv_at hl 1 rfl) ?_
      refine xil F hP kdc_22 lnc_22 b1 dX4_isOpen_14 ?_
      refine lv_if_ne (tgt := 41) hx hb dX4_isOpen_15 (by decide) (fun b3 => ?_) (fun b3 => ?_)
      · rw [if_neg b3] at hm
        refine lv_iconst (v := 0) hx hb dX4_isOpen_41 (by decide) ?_
        exact xzr F hP hS rfl (congrArg (fun z => (z, σ)) (Option.some.inj hm).symm) (by decide) (by decide) dX4_isOpen_42
      · rw [if_pos b3] at hm
        refine lv_aload_n hx hb dX4_isOpen_18 rfl (lv_at hl 0 rfl) ?_
        refine lv_aload_n hx hb dX4_isOpen_19 rfl (lv_at hl 0 rfl) ?_
        refine xg F 6 inX4 hP (kd_k kdc_8 (by decide)) (wc4 kdc_8) rfl (by decide) tk_559 rfl rfl dX4_isOpen_20 ?_
        refine lv_iload_n hx hb dX4_isOpen_23 rfl (lv_at hl 1 rfl) ?_
        refine xil F hP kdc_12 lnc_12 b1 dX4_isOpen_24 ?_
        refine lv_aload_n hx hb dX4_isOpen_25 rfl (lv_at hl 0 rfl) ?_
        refine xg F 3 inX4 hP (kd_k kdc_8 (by decide)) (wc4 kdc_8) rfl (by decide) tk_556 rfl rfl dX4_isOpen_26 ?_
        refine lv_iload_n hx hb dX4_isOpen_29 rfl (lv_at hl 1 rfl) ?_
        refine xil F hP kdc_9 lnc_9 b1 dX4_isOpen_30 ?_
        obtain ⟨x4_, h4, hm⟩ := ri_inv hm
        refine xV F (c_X4_fits h4) tk_675 tk_672 tk_674 tu_38 tk_6 rfl 2 (by decide +kernel) rfl ⟨Nat.le_of_ble_eq_true rfl, Nat.le_of_ble_eq_true rfl⟩ hP hS (kd_k kdc_8 (by decide)) (wc4 kdc_8) rfl hl.1 rfl (Nat.le_of_ble_eq_true rfl) dX4_isOpen_31 ⟨Nat.le_of_ble_eq_true rfl, Nat.le_of_ble_eq_true rfl⟩ (fun v hv H locs hP hS => ?_) (fun E hE => by cases hE)
        cases hv
        replace hP : va_P (gD G) vwCl (wld G lo σ) H := hP
        refine W.eq (g2 := F0 m 34 ls [.int x4_]) rfl ?_
        refine lv_if_eq (tgt := 41) hx hb dX4_isOpen_34 (by decide) (fun b5 => ?_) (fun b5 => ?_)
        · rw [if_pos b5] at hm
          refine lv_iconst (v := 0) hx hb dX4_isOpen_41 (by decide) ?_
          exact xzr F hP hS rfl (congrArg (fun z => (z, σ)) (Option.some.inj hm).symm) (by decide) (by decide) dX4_isOpen_42
        · rw [if_neg b5] at hm
          refine lv_iconst (v := 1) hx hb dX4_isOpen_37 (by decide) ?_
          refine lv_goto (tgt := 42) hx hb dX4_isOpen_38 (by decide) ?_
          exact xzr F hP hS rfl (congrArg (fun z => (z, σ)) (Option.some.inj hm).symm) (by decide) (by decide) dX4_isOpen_42
/-! ===== X4_isEarlier ===== -/
def f_X4_isEarlier (σ : St) (x1 : Int32) (x2 : Int32) : Option RV :=
  if x2 = (-1) then
    some (.inl (some (.inl 1)))
  else
    if x1 < 0 ∨ 16 ≤ x1.toNatClampNeg then none
    else
      if x2 < 0 ∨ 16 ≤ x2.toNatClampNeg then none
      else
        if (σ 9 x1.toNatClampNeg) < (σ 9 x2.toNatClampNeg) then
          some (.inl (some (.inl 1)))
        else
          if (σ 9 x1.toNatClampNeg) = (σ 9 x2.toNatClampNeg) then
            if x2 ≤ x1 then
              some (.inl (some (.inl 0)))
            else
              some (.inl (some (.inl 1)))
          else
            some (.inl (some (.inl 0)))
set_option maxHeartbeats 4000000 in
set_option maxRecDepth 100000 in
theorem c_X4_isEarlier {l : Launch} {G : GT} {σ : St} {x1 : Int32} {x2 : Int32} {r : RV} (hm : f_X4_isEarlier σ x1 x2 = some r) : MC l G yX4_isEarlier cX4_isEarlier 3 (some .boolean) 0 0 0 0 [.inr 8, .inl x1, .inl x2] σ (r, σ) := by
  refine xbody (by decide) (Nat.le_of_ble_eq_true rfl) ?_
  intro lo p e s m args below meth c F hP ls hl
  have F : Fx p l s args m meth c G cX4_isEarlier 3 (some .boolean) RX4 := F
  obtain ⟨hx, hb, hrt, hml, hown, hts, hlocks, hC, htab, hst⟩ := id F
  have hS : va_S (gF G) s.heap s.heap [] := va_S.rf
  have hl : lv_has ls 3 [(0, .ref (gA G 8)), (1, .int x1), (2, .int x2)] := hl
  unfold f_X4_isEarlier at hm
  refine lv_iload_n hx hb dX4_isEarlier_0 rfl (lv_at hl 2 rfl) ?_
  refine lv_iconst (v := (-1)) hx hb dX4_isEarlier_1 (by decide) ?_
  refine lv_icmp_eq (tgt := 40) hx hb dX4_isEarlier_2 (by decide) (fun b1 => ?_) (fun b1 => ?_)
  · rw [if_pos b1] at hm
    refine lv_iconst (v := 1) hx hb dX4_isEarlier_40 (by decide) ?_
    refine lv_goto (tgt := 45) hx hb dX4_isEarlier_41 (by decide) ?_
    exact xzr F hP hS rfl (congrArg (fun z => (z, σ)) (Option.some.inj hm).symm) (by decide) (by decide) dX4_isEarlier_45
  · rw [if_neg b1] at hm
    refine lv_aload_n hx hb dX4_isEarlier_5 rfl (lv_at hl 0 rfl) ?_
    refine xg F 3 inX4 hP (kd_k kdc_8 (by decide)) (wc4 kdc_8) rfl (by decide) tk_556 rfl rfl dX4_isEarlier_6 ?_
    refine lv_iload_n hx hb dX4_isEarlier_9 rfl (lv_at hl 1 rfl) ?_
    by_cases b2 : (x1 < 0 ∨ 16 ≤ x1.toNatClampNeg)
    · rw [if_pos b2] at hm
      cases hm
    · rw [if_neg b2] at hm
      refine xil F hP kdc_9 lnc_9 b2 dX4_isEarlier_10 ?_
      refine lv_aload_n hx hb dX4_isEarlier_11 rfl (lv_at hl 0 rfl) ?_
      refine xg F 3 inX4 hP (kd_k kdc_8 (by decide)) (wc4 kdc_8) rfl (by decide) tk_556 rfl rfl dX4_isEarlier_12 ?_
      refine lv_iload_n hx hb dX4_isEarlier_15 rfl (lv_at hl 2 rfl) ?_
      by_cases b3 : (x2 < 0 ∨ 16 ≤ x2.toNatClampNeg)
      · rw [if_pos b3] at hm
        cases hm
      · rw [if_neg b3] at hm
        refine xil F hP kdc_9 lnc_9 b3 dX4_isEarlier_16 ?_
        refine lv_icmp_lt (tgt := 40) hx hb dX4_isEarlier_17 (by decide) (fun b4 => ?_) (fun b4 => ?_)
        · rw [if_pos b4] at hm
          refine lv_iconst (v := 1) hx hb dX4_isEarlier_40 (by decide) ?_
          refine lv_goto (tgt := 45) hx hb dX4_isEarlier_41 (by decide) ?_
          exact xzr F hP hS rfl (congrArg (fun z => (z, σ)) (Option.some.inj hm).symm) (by decide) (by decide) dX4_isEarlier_45
        · rw [if_neg b4] at hm
          refine lv_aload_n hx hb dX4_isEarlier_20 rfl (lv_at hl 0 rfl) ?_
          refine xg F 3 inX4 hP (kd_k kdc_8 (by decide)) (wc4 kdc_8) rfl (by decide) tk_556 rfl rfl dX4_isEarlier_21 ?_
          refine lv_iload_n hx hb dX4_isEarlier_24 rfl (lv_at hl 1 rfl) ?_
          refine xil F hP kdc_9 lnc_9 b2 dX4_isEarlier_25 ?_
          refine lv_aload_n hx hb dX4_isEarlier_26 rfl (lv_at hl 0 rfl) ?_
          refine xg F 3 inX4 hP (kd_k kdc_8 (by decide)) (wc4 kdc_8) rfl (by decide) tk_556 rfl rfl dX4_isEarlier_27 ?_
          refine lv_iload_n hx hb dX4_isEarlier_30 rfl (lv_at hl 2 rfl) ?_
          refine xil F hP kdc_9 lnc_9 b3 dX4_isEarlier_31 ?_
          refine lv_icmp_ne (tgt := 44) hx hb dX4_isEarlier_32 (by decide) (fun b5 => ?_) (fun b5 => ?_)
          · rw [if_neg b5] at hm
            refine lv_iconst (v := 0) hx hb dX4_isEarlier_44 (by decide) ?_
            exact xzr F hP hS rfl (congrArg (fun z => (z, σ)) (Option.some.inj hm).symm) (by decide) (by decide) dX4_isEarlier_45
          · rw [if_pos b5] at hm
            refine lv_iload_n hx hb dX4_isEarlier_35 rfl (lv_at hl 1 rfl) ?_
            refine lv_iload_n hx hb dX4_isEarlier_36 rfl (lv_at hl 2 rfl) ?_
            refine lv_icmp_ge (tgt := 44) hx hb dX4_isEarlier_37 (by decide) (fun b6 => ?_) (fun b6 => ?_)
            · rw [if_pos b6] at hm
              refine lv_iconst (v := 0) hx hb dX4_isEarlier_44 (by decide) ?_
              exact xzr F hP hS rfl (congrArg (fun z => (z, σ)) (Option.some.inj hm).symm) (by decide) (by decide) dX4_isEarlier_45
            · rw [if_neg b6] at hm
              refine lv_iconst (v := 1) hx hb dX4_isEarlier_40 (by decide) ?_
              refine lv_goto (tgt := 45) hx hb dX4_isEarlier_41 (by decide) ?_
              exact xzr F hP hS rfl (congrArg (fun z => (z, σ)) (Option.some.inj hm).symm) (by decide) (by decide) dX4_isEarlier_45
/-! ===== X4_begin ===== -/
def f_X4_begin_4 (σ : St) : Nat → Int32 → Int32 → Option RV
  | 0, _, _ => none
  | n + 1, x1, x2 =>
    if (σ 8 2) ≤ x2 then
      some (.inl (some (.inl x1)))
    else
      ri (f_X4_isOpen σ x2) (fun x2_ =>
        if x2_ = 0 then
          f_X4_begin_4 σ n x1 (x2 + 1)
        else
          if x2 < 0 ∨ 16 ≤ x2.toNatClampNeg then none
          else
            if (σ 24 x2.toNatClampNeg) = 0 then
              ri (f_X4_isEarlier σ x2 x1) (fun x6_ =>
                if x6_ = 0 then
                  f_X4_begin_4 σ n x1 (x2 + 1)
                else
                  f_X4_begin_4 σ n x2 (x2 + 1))
            else
              f_X4_begin_4 σ n x1 (x2 + 1))
set_option maxHeartbeats 4000000 in
set_option maxRecDepth 100000 in
theorem w_X4_begin_4 {p : Program} {l : Launch} {e : Env} {s : State} {m : MethodId} {args : Array Value} {below : List Frame} {meth : Method} {c : Code} {G : GT} {lo : Nat → Int64} (F : Fx p l s args m meth c G cX4_begin 3 (some .int) RX4) {σ : St} : ∀ (n : Nat) {x1 : Int32} {x2 : Int32} {r : RV}, f_X4_begin_4 σ n x1 x2 = some r → ∀ {H : Heap} {locs : List Loc}, va_P (gD G) vwCl (wld G lo σ) H → va_S (gF G) s.heap H locs → ∀ {ls : Array Slot}, lv_has ls 3 [(0, .ref (gA G 8)), (1, .int x1), (2, .int x2)] → W p l e (RM 2 44 0 0) s m args below meth c H locs 0 0 (vx_MQ below (QCr G lo (r, σ)) (XCr G lo (r, σ)) args s 0 0 (gF G)) (F0 m 4 ls []) := by
  obtain ⟨hx, hb, hrt, hml, hown, hts, hlocks, hC, htab, hst⟩ := id F
  intro n
  induction n with
  | zero =>
    intro x1 x2 r hm
    simp only [f_X4_begin_4] at hm
    cases hm
  | succ n ih =>
    intro x1 x2 r hm H locs hP hS ls hl
    rw [f_X4_begin_4] at hm
    refine lv_iload_n hx hb dX4_begin_4 rfl (lv_at hl 2 rfl) ?_
    refine lv_aload_n hx hb dX4_begin_5 rfl (lv_at hl 0 rfl) ?_
    refine xg F 2 inX4 hP (kd_k kdc_8 (by decide)) (wc4 kdc_8) rfl (by decide) tk_555 rfl rfl dX4_begin_6 ?_
    refine lv_icmp_ge (tgt := 46) hx hb dX4_begin_9 (by decide) (fun b1 => ?_) (fun b1 => ?_)
    · rw [if_pos b1] at hm
      refine lv_iload_n hx hb dX4_begin_46 rfl (lv_at hl 1 rfl) ?_
      exact xir F hP hS (congrArg (fun z => (z, σ)) (Option.some.inj hm).symm) (by decide) (by decide) dX4_begin_47
    · rw [if_neg b1] at hm
      refine lv_aload_n hx hb dX4_begin_12 rfl (lv_at hl 0 rfl) ?_
      refine lv_iload_n hx hb dX4_begin_13 rfl (lv_at hl 2 rfl) ?_
      obtain ⟨x2_, h2, hm⟩ := ri_inv hm
      refine xV F (c_X4_isOpen h2) tk_671 tk_668 tk_670 tu_37 tk_6 rfl 1 (by decide +kernel) rfl ⟨Nat.le_of_ble_eq_true rfl, Nat.le_of_ble_eq_true rfl⟩ hP hS (kd_k kdc_8 (by decide)) (wc4 kdc_8) rfl hl.1 rfl (Nat.le_of_ble_eq_true rfl) dX4_begin_14 ⟨Nat.le_of_ble_eq_true rfl, Nat.le_of_ble_eq_true rfl⟩ (fun v hv H locs hP hS => ?_) (fun E hE => by cases hE)
      cases hv
      replace hP : va_P (gD G) vwCl (wld G lo σ) H := hP
      refine W.eq (g2 := F0 m 17 ls [.int x2_]) rfl ?_
      refine lv_if_eq (tgt := 40) hx hb dX4_begin_17 (by decide) (fun b3 => ?_) (fun b3 => ?_)
      · rw [if_pos b3] at hm
        refine lv_iinc (v := (x2 + 1)) (lv' := [(2, .int (x2 + 1)), (0, .ref (gA G 8)), (1, .int x1)]) hx hb dX4_begin_40 hl (k := 2) rfl rfl (by decide) rfl (fun ls hl => ?_)
        refine lv_goto (tgt := 4) hx hb dX4_begin_43 (by decide) ?_
        exact ih hm hP hS (lv_sub hl [1, 2, 0] rfl)
      · rw [if_neg b3] at hm
        refine lv_aload_n hx hb dX4_begin_20 rfl (lv_at hl 0 rfl) ?_
        refine xg F 21 inX4 hP (kd_k kdc_8 (by decide)) (wc4 kdc_8) rfl (by decide) tk_574 rfl rfl dX4_begin_21 ?_
        refine lv_iload_n hx hb dX4_begin_24 rfl (lv_at hl 2 rfl) ?_
        by_cases b4 : (x2 < 0 ∨ 16 ≤ x2.toNatClampNeg)
        · rw [if_pos b4] at hm
          cases hm
        · rw [if_neg b4] at hm
          refine xzl F hP kdc_24 lnc_24 b4 dX4_begin_25 ?_
          refine lv_if_ne (tgt := 40) hx hb dX4_begin_26 (by decide) (fun b5 => ?_) (fun b5 => ?_)
          · rw [if_neg b5] at hm
            refine lv_iinc (v := (x2 + 1)) (lv' := [(2, .int (x2 + 1)), (0, .ref (gA G 8)), (1, .int x1)]) hx hb dX4_begin_40 hl (k := 2) rfl rfl (by decide) rfl (fun ls hl => ?_)
            refine lv_goto (tgt := 4) hx hb dX4_begin_43 (by decide) ?_
            exact ih hm hP hS (lv_sub hl [1, 2, 0] rfl)
          · rw [if_pos b5] at hm
            refine lv_aload_n hx hb dX4_begin_29 rfl (lv_at hl 0 rfl) ?_
            refine lv_iload_n hx hb dX4_begin_30 rfl (lv_at hl 2 rfl) ?_
            refine lv_iload_n hx hb dX4_begin_31 rfl (lv_at hl 1 rfl) ?_
            obtain ⟨x6_, h6, hm⟩ := ri_inv hm
            refine xV F (c_X4_isEarlier h6) tk_679 tk_676 tk_678 tu_39 tk_6 rfl 2 (by decide +kernel) rfl ⟨Nat.le_of_ble_eq_true rfl, Nat.le_of_ble_eq_true rfl⟩ hP hS (kd_k kdc_8 (by decide)) (wc4 kdc_8) rfl hl.1 rfl (Nat.le_of_ble_eq_true rfl) dX4_begin_32 ⟨Nat.le_of_ble_eq_true rfl, Nat.le_of_ble_eq_true rfl⟩ (fun v hv H locs hP hS => ?_) (fun E hE => by cases hE)
            cases hv
            replace hP : va_P (gD G) vwCl (wld G lo σ) H := hP
            refine W.eq (g2 := F0 m 35 ls [.int x6_]) rfl ?_
            refine lv_if_eq (tgt := 40) hx hb dX4_begin_35 (by decide) (fun b7 => ?_) (fun b7 => ?_)
            · rw [if_pos b7] at hm
              refine lv_iinc (v := (x2 + 1)) (lv' := [(2, .int (x2 + 1)), (0, .ref (gA G 8)), (1, .int x1)]) hx hb dX4_begin_40 hl (k := 2) rfl rfl (by decide) rfl (fun ls hl => ?_)
              refine lv_goto (tgt := 4) hx hb dX4_begin_43 (by decide) ?_
              exact ih hm hP hS (lv_sub hl [1, 2, 0] rfl)
            · rw [if_neg b7] at hm
              refine lv_iload_n hx hb dX4_begin_38 rfl (lv_at hl 2 rfl) ?_
              refine lv_istore_n (lv' := [(1, .int x2), (0, .ref (gA G 8)), (2, .int x2)]) hx hb dX4_begin_39 rfl hl (by decide) rfl (fun ls hl => ?_)
              refine lv_iinc (v := (x2 + 1)) (lv' := [(2, .int (x2 + 1)), (1, .int x2), (0, .ref (gA G 8))]) hx hb dX4_begin_40 hl (k := 2) rfl rfl (by decide) rfl (fun ls hl => ?_)
              refine lv_goto (tgt := 4) hx hb dX4_begin_43 (by decide) ?_
              exact ih hm hP hS (lv_sub hl [2, 1, 0] rfl)
def f_X4_begin (σ : St) : Option RV :=
  f_X4_begin_4 σ 40 (-1) 0
set_option maxHeartbeats 4000000 in
set_option maxRecDepth 100000 in
theorem c_X4_begin {l : Launch} {G : GT} {σ : St} {r : RV} (hm : f_X4_begin σ = some r) : MC l G yX4_begin cX4_begin 3 (some .int) 2 44 0 0 [.inr 8] σ (r, σ) := by
  refine xbody (by decide) (Nat.le_of_ble_eq_true rfl) ?_
  intro lo p e s m args below meth c F hP ls hl
  have F : Fx p l s args m meth c G cX4_begin 3 (some .int) RX4 := F
  obtain ⟨hx, hb, hrt, hml, hown, hts, hlocks, hC, htab, hst⟩ := id F
  have hS : va_S (gF G) s.heap s.heap [] := va_S.rf
  have hl : lv_has ls 3 [(0, .ref (gA G 8))] := hl
  unfold f_X4_begin at hm
  refine lv_iconst (v := (-1)) hx hb dX4_begin_0 (by decide) ?_
  refine lv_istore_n (lv' := [(1, .int (-1)), (0, .ref (gA G 8))]) hx hb dX4_begin_1 rfl hl (by decide) rfl (fun ls hl => ?_)
  refine lv_iconst (v := 0) hx hb dX4_begin_2 (by decide) ?_
  refine lv_istore_n (lv' := [(2, .int 0), (1, .int (-1)), (0, .ref (gA G 8))]) hx hb dX4_begin_3 rfl hl (by decide) rfl (fun ls hl => ?_)
  exact w_X4_begin_4 F 40 hm hP hS (lv_sub hl [2, 1, 0] rfl)
/-! ===== X4_put ===== -/
def f_X4_put (σ : St) (x1 : Int32) (x2 : Int32) : Option (RV × St) :=
  if x1 < 0 ∨ 16 ≤ x1.toNatClampNeg then none
  else
    some (.inl none, (up2 (up2 (up2 σ 22 x1.toNatClampNeg x2) 23 x1.toNatClampNeg ((up2 σ 22 x1.toNatClampNeg x2) 8 11)) 8 11 (((up2 (up2 σ 22 x1.toNatClampNeg x2) 23 x1.toNatClampNeg ((up2 σ 22 x1.toNatClampNeg x2) 8 11)) 8 11) + 1)))
set_option maxHeartbeats 4000000 in
set_option maxRecDepth 100000 in
theorem c_X4_put {l : Launch} {G : GT} {σ : St} {x1 : Int32} {x2 : Int32} {r : RV × St} (hm : f_X4_put σ x1 x2 = some r) : MC l G yX4_put cX4_put 3 none 0 0 0 0 [.inr 8, .inl x1, .inl x2] σ r := by
  refine xbody (by decide) (Nat.le_of_ble_eq_true rfl) ?_
  intro lo p e s m args below meth c F hP ls hl
  have F : Fx p l s args m meth c G cX4_put 3 none RX4 := F
  obtain ⟨hx, hb, hrt, hml, hown, hts, hlocks, hC, htab, hst⟩ := id F
  have hS : va_S (gF G) s.heap s.heap [] := va_S.rf
  have hl : lv_has ls 3 [(0, .ref (gA G 8)), (1, .int x1), (2, .int x2)] := hl
  unfold f_X4_put at hm
  refine lv_aload_n hx hb dX4_put_0 rfl (lv_at hl 0 rfl) ?_
  refine xg F 19 inX4 hP (kd_k kdc_8 (by decide)) (wc4 kdc_8) rfl (by decide) tk_572 rfl rfl dX4_put_1 ?_
  refine lv_iload_n hx hb dX4_put_4 rfl (lv_at hl 1 rfl) ?_
  refine lv_iload_n hx hb dX4_put_5 rfl (lv_at hl 2 rfl) ?_
  by_cases b1 : (x1 < 0 ∨ 16 ≤ x1.toNatClampNeg)
  · rw [if_pos b1] at hm
    cases hm
  · rw [if_neg b1] at hm
    refine xis F (v := x2) hP hS kdc_22 lnc_22 b1 dX4_put_6 (fun H locs hP hS => ?_)
    refine lv_aload_n hx hb dX4_put_7 rfl (lv_at hl 0 rfl) ?_
    refine xg F 20 inX4 hP (kd_k kdc_8 (by decide)) (wc4 kdc_8) rfl (by decide) tk_573 rfl rfl dX4_put_8 ?_
    refine lv_iload_n hx hb dX4_put_11 rfl (lv_at hl 1 rfl) ?_
    refine lv_aload_n hx hb dX4_put_12 rfl (lv_at hl 0 rfl) ?_
    refine xg F 11 inX4 hP (kd_k kdc_8 (by decide)) (wc4 kdc_8) rfl (by decide) tk_564 rfl rfl dX4_put_13 ?_
    refine xis F (v := ((up2 σ 22 x1.toNatClampNeg x2) 8 11)) hP hS kdc_23 lnc_23 b1 dX4_put_16 (fun H locs hP hS => ?_)
    refine lv_aload_n hx hb dX4_put_17 rfl (lv_at hl 0 rfl) ?_
    refine lv_dup hx hb dX4_put_18 rfl ?_
    refine xg F 11 inX4 hP (kd_k kdc_8 (by decide)) (wc4 kdc_8) rfl (by decide) tk_564 rfl rfl dX4_put_19 ?_
    refine lv_iconst (v := 1) hx hb dX4_put_22 (by decide) ?_
    refine lv_iadd hx hb dX4_put_23 ?_
    refine xp F (v := (((up2 (up2 σ 22 x1.toNatClampNeg x2) 23 x1.toNatClampNeg ((up2 σ 22 x1.toNatClampNeg x2) 8 11)) 8 11) + 1)) (ty := .int) 11 inX4 tyX4_ok nmX4 hP hS (kd_k kdc_8 (by decide)) (wc4 kdc_8) (wu4_11 kdc_8) rfl (by decide) tk_564 rfl rfl rfl rfl rfl (Nat.le_of_ble_eq_true rfl) dX4_put_24 (fun H locs hP hS => ?_)
    exact xvr F hP hS (Option.some.inj hm).symm (by decide) (by decide) dX4_put_27
/-! ===== X4_most ===== -/
def f_X4_most_5 (σ : St) (x1 : Int32) (x2 : Int32) : Nat → Int32 → Int32 → Option RV
  | 0, _, _ => none
  | n + 1, x3, x4 =>
    if (σ 8 2) ≤ x4 then
      some (.inl (some (.inl x3)))
    else
      if x4 < 0 ∨ 16 ≤ x4.toNatClampNeg then none
      else
        if (σ 22 x4.toNatClampNeg) = x2 then
          ri (f_X4_saving σ x4 x1) (fun x4_ =>
            if x4_ ≤ x3 then
              f_X4_most_5 σ x1 x2 n x3 (x4 + 1)
            else
              ri (f_X4_saving σ x4 x1) (fun x6_ =>
                f_X4_most_5 σ x1 x2 n x6_ (x4 + 1)))
        else
          f_X4_most_5 σ x1 x2 n x3 (x4 + 1)
set_option maxHeartbeats 4000000 in
set_option maxRecDepth 100000 in
theorem w_X4_most_5 {p : Program} {l : Launch} {e : Env} {s : State} {m : MethodId} {args : Array Value} {below : List Frame} {meth : Method} {c : Code} {G : GT} {lo : Nat → Int64} (F : Fx p l s args m meth c G cX4_most 5 (some .int) RX4) {σ : St} {x1 : Int32} {x2 : Int32} : ∀ (n : Nat) {x3 : Int32} {x4 : Int32} {r : RV}, f_X4_most_5 σ x1 x2 n x3 x4 = some r → ∀ {H : Heap} {locs : List Loc}, va_P (gD G) vwCl (wld G lo σ) H → va_S (gF G) s.heap H locs → ∀ {ls : Array Slot}, lv_has ls 5 [(0, .ref (gA G 8)), (1, .int x1), (2, .int x2), (3, .int x3), (4, .int x4)] → W p l e (RM 1 25 0 0) s m args below meth c H locs 0 0 (vx_MQ below (QCr G lo (r, σ)) (XCr G lo (r, σ)) args s 0 0 (gF G)) (F0 m 5 ls []) := by
  obtain ⟨hx, hb, hrt, hml, hown, hts, hlocks, hC, htab, hst⟩ := id F
  intro n
  induction n with
  | zero =>
    intro x3 x4 r hm
    simp only [f_X4_most_5] at hm
    cases hm
  | succ n ih =>
    intro x3 x4 r hm H locs hP hS ls hl
    rw [f_X4_most_5] at hm
    refine lv_iload hx hb dX4_most_5 (lv_at hl 4 rfl) ?_
    refine lv_aload_n hx hb dX4_most_7 rfl (lv_at hl 0 rfl) ?_
    refine xg F 2 inX4 hP (kd_k kdc_8 (by decide)) (wc4 kdc_8) rfl (by decide) tk_555 rfl rfl dX4_most_8 ?_
    refine lv_icmp_ge (tgt := 50) hx hb dX4_most_11 (by decide) (fun b1 => ?_) (fun b1 => ?_)
    · rw [if_pos b1] at hm
      refine lv_iload_n hx hb dX4_most_50 rfl (lv_at hl 3 rfl) ?_
      exact xir F hP hS (congrArg (fun z => (z, σ)) (Option.some.inj hm).symm) (by decide) (by decide) dX4_most_51
    · rw [if_neg b1] at hm
      refine lv_aload_n hx hb dX4_most_14 rfl (lv_at hl 0 rfl) ?_
      refine xg F 19 inX4 hP (kd_k kdc_8 (by decide)) (wc4 kdc_8) rfl (by decide) tk_572 rfl rfl dX4_most_15 ?_
      refine lv_iload hx hb dX4_most_18 (lv_at hl 4 rfl) ?_
      by_cases b2 : (x4 < 0 ∨ 16 ≤ x4.toNatClampNeg)
      · rw [if_pos b2] at hm
        cases hm
      · rw [if_neg b2] at hm
        refine xil F hP kdc_22 lnc_22 b2 dX4_most_20 ?_
        refine lv_iload_n hx hb dX4_most_21 rfl (lv_at hl 2 rfl) ?_
        refine lv_icmp_ne (tgt := 44) hx hb dX4_most_22 (by decide) (fun b3 => ?_) (fun b3 => ?_)
        · rw [if_neg b3] at hm
          refine lv_iinc (v := (x4 + 1)) (lv' := [(4, .int (x4 + 1)), (0, .ref (gA G 8)), (1, .int x1), (2, .int x2), (3, .int x3)]) hx hb dX4_most_44 hl (k := 4) rfl rfl (by decide) rfl (fun ls hl => ?_)
          refine lv_goto (tgt := 5) hx hb dX4_most_47 (by decide) ?_
          exact ih hm hP hS (lv_sub hl [1, 2, 3, 4, 0] rfl)
        · rw [if_pos b3] at hm
          refine lv_aload_n hx hb dX4_most_25 rfl (lv_at hl 0 rfl) ?_
          refine lv_iload hx hb dX4_most_26 (lv_at hl 4 rfl) ?_
          refine lv_iload_n hx hb dX4_most_28 rfl (lv_at hl 1 rfl) ?_
          obtain ⟨x4_, h4, hm⟩ := ri_inv hm
          refine xV F (c_X4_saving h4) tk_699 tk_696 tk_698 tu_44 tk_6 rfl 2 (by decide +kernel) rfl ⟨Nat.le_of_ble_eq_true rfl, Nat.le_of_ble_eq_true rfl⟩ hP hS (kd_k kdc_8 (by decide)) (wc4 kdc_8) rfl hl.1 rfl (Nat.le_of_ble_eq_true rfl) dX4_most_29 ⟨Nat.le_of_ble_eq_true rfl, Nat.le_of_ble_eq_true rfl⟩ (fun v hv H locs hP hS => ?_) (fun E hE => by cases hE)
          cases hv
          replace hP : va_P (gD G) vwCl (wld G lo σ) H := hP
          refine W.eq (g2 := F0 m 32 ls [.int x4_]) rfl ?_
          refine lv_iload_n hx hb dX4_most_32 rfl (lv_at hl 3 rfl) ?_
          refine lv_icmp_le (tgt := 44) hx hb dX4_most_33 (by decide) (fun b5 => ?_) (fun b5 => ?_)
          · rw [if_pos b5] at hm
            refine lv_iinc (v := (x4 + 1)) (lv' := [(4, .int (x4 + 1)), (0, .ref (gA G 8)), (1, .int x1), (2, .int x2), (3, .int x3)]) hx hb dX4_most_44 hl (k := 4) rfl rfl (by decide) rfl (fun ls hl => ?_)
            refine lv_goto (tgt := 5) hx hb dX4_most_47 (by decide) ?_
            exact ih hm hP hS (lv_sub hl [1, 2, 3, 4, 0] rfl)
          · rw [if_neg b5] at hm
            refine lv_aload_n hx hb dX4_most_36 rfl (lv_at hl 0 rfl) ?_
            refine lv_iload hx hb dX4_most_37 (lv_at hl 4 rfl) ?_
            refine lv_iload_n hx hb dX4_most_39 rfl (lv_at hl 1 rfl) ?_
            obtain ⟨x6_, h6, hm⟩ := ri_inv hm
            refine xV F (c_X4_saving h6) tk_699 tk_696 tk_698 tu_44 tk_6 rfl 2 (by decide +kernel) rfl ⟨Nat.le_of_ble_eq_true rfl, Nat.le_of_ble_eq_true rfl⟩ hP hS (kd_k kdc_8 (by decide)) (wc4 kdc_8) rfl hl.1 rfl (Nat.le_of_ble_eq_true rfl) dX4_most_40 ⟨Nat.le_of_ble_eq_true rfl, Nat.le_of_ble_eq_true rfl⟩ (fun v hv H locs hP hS => ?_) (fun E hE => by cases hE)
            cases hv
            replace hP : va_P (gD G) vwCl (wld G lo σ) H := hP
            refine W.eq (g2 := F0 m 43 ls [.int x6_]) rfl ?_
            refine lv_istore_n (lv' := [(3, .int x6_), (0, .ref (gA G 8)), (1, .int x1), (2, .int x2), (4, .int x4)]) hx hb dX4_most_43 rfl hl (by decide) rfl (fun ls hl => ?_)
            refine lv_iinc (v := (x4 + 1)) (lv' := [(4, .int (x4 + 1)), (3, .int x6_), (0, .ref (gA G 8)), (1, .int x1), (2, .int x2)]) hx hb dX4_most_44 hl (k := 4) rfl rfl (by decide) rfl (fun ls hl => ?_)
            refine lv_goto (tgt := 5) hx hb dX4_most_47 (by decide) ?_
            exact ih hm hP hS (lv_sub hl [2, 3, 4, 1, 0] rfl)
def f_X4_most (σ : St) (x1 : Int32) (x2 : Int32) : Option RV :=
  f_X4_most_5 σ x1 x2 40 0 0
set_option maxHeartbeats 4000000 in
set_option maxRecDepth 100000 in
theorem c_X4_most {l : Launch} {G : GT} {σ : St} {x1 : Int32} {x2 : Int32} {r : RV} (hm : f_X4_most σ x1 x2 = some r) : MC l G yX4_most cX4_most 5 (some .int) 1 25 0 0 [.inr 8, .inl x1, .inl x2] σ (r, σ) := by
  refine xbody (by decide) (Nat.le_of_ble_eq_true rfl) ?_
  intro lo p e s m args below meth c F hP ls hl
  have F : Fx p l s args m meth c G cX4_most 5 (some .int) RX4 := F
  obtain ⟨hx, hb, hrt, hml, hown, hts, hlocks, hC, htab, hst⟩ := id F
  have hS : va_S (gF G) s.heap s.heap [] := va_S.rf
  have hl : lv_has ls 5 [(0, .ref (gA G 8)), (1, .int x1), (2, .int x2)] := hl
  unfold f_X4_most at hm
  refine lv_iconst (v := 0) hx hb dX4_most_0 (by decide) ?_
  refine lv_istore_n (lv' := [(3, .int 0), (0, .ref (gA G 8)), (1, .int x1), (2, .int x2)]) hx hb dX4_most_1 rfl hl (by decide) rfl (fun ls hl => ?_)
  refine lv_iconst (v := 0) hx hb dX4_most_2 (by decide) ?_
  refine lv_istore (lv' := [(4, .int 0), (3, .int 0), (0, .ref (gA G 8)), (1, .int x1), (2, .int x2)]) hx hb dX4_most_3 hl (by decide) rfl (fun ls hl => ?_)
  exact w_X4_most_5 F 40 hm hP hS (lv_sub hl [2, 3, 4, 1, 0] rfl)
/-! ===== X4_best ===== -/
def f_X4_best_6 (σ : St) (x1 : Int32) (x2 : Int32) (x3 : Int32) : Nat → Int32 → Int32 → Option RV
  | 0, _, _ => none
  | n + 1, x4, x5 =>
    if (σ 8 2) ≤ x5 then
      some (.inl (some (.inl x4)))
    else
      ri (f_X4_isOpen σ x5) (fun x2_ =>
        if x2_ = 0 then
          f_X4_best_6 σ x1 x2 x3 n x4 (x5 + 1)
        else
          if x5 < 0 ∨ 16 ≤ x5.toNatClampNeg then none
          else
            if (σ 12 x5.toNatClampNeg) = x2 then
              ri (f_X4_most σ x5 x1) (fun x6_ =>
                if ((x3 + (σ 11 x5.toNatClampNeg)) - x6_) ≤ (σ 8 1) then
                  if x4 = (-1) then
                    f_X4_best_6 σ x1 x2 x3 n x5 (x5 + 1)
                  else
                    ri (f_X4_most σ x5 x1) (fun x9_ =>
                      ri (f_X4_most σ x4 x1) (fun x10_ =>
                        if x10_ < x9_ then
                          f_X4_best_6 σ x1 x2 x3 n x5 (x5 + 1)
                        else
                          ri (f_X4_most σ x5 x1) (fun x12_ =>
                            ri (f_X4_most σ x4 x1) (fun x13_ =>
                              if x12_ = x13_ then
                                ri (f_X4_isEarlier σ x5 x4) (fun x15_ =>
                                  if x15_ = 0 then
                                    f_X4_best_6 σ x1 x2 x3 n x4 (x5 + 1)
                                  else
                                    f_X4_best_6 σ x1 x2 x3 n x5 (x5 + 1))
                              else
                                f_X4_best_6 σ x1 x2 x3 n x4 (x5 + 1)))))
                else
                  f_X4_best_6 σ x1 x2 x3 n x4 (x5 + 1))
            else
              f_X4_best_6 σ x1 x2 x3 n x4 (x5 + 1))
set_option maxHeartbeats 4000000 in
set_option maxRecDepth 100000 in
theorem w_X4_best_6 {p : Program} {l : Launch} {e : Env} {s : State} {m : MethodId} {args : Array Value} {below : List Frame} {meth : Method} {c : Code} {G : GT} {lo : Nat → Int64} (F : Fx p l s args m meth c G cX4_best 6 (some .int) RX4) {σ : St} {x1 : Int32} {x2 : Int32} {x3 : Int32} : ∀ (n : Nat) {x4 : Int32} {x5 : Int32} {r : RV}, f_X4_best_6 σ x1 x2 x3 n x4 x5 = some r → ∀ {H : Heap} {locs : List Loc}, va_P (gD G) vwCl (wld G lo σ) H → va_S (gF G) s.heap H locs → ∀ {ls : Array Slot}, lv_has ls 6 [(0, .ref (gA G 8)), (1, .int x1), (2, .int x2), (3, .int x3), (4, .int x4), (5, .int x5)] → W p l e (RM 2 49 0 0) s m args below meth c H locs 0 0 (vx_MQ below (QCr G lo (r, σ)) (XCr G lo (r, σ)) args s 0 0 (gF G)) (F0 m 6 ls []) := by
  obtain ⟨hx, hb, hrt, hml, hown, hts, hlocks, hC, htab, hst⟩ := id F
  intro n
  induction n with
  | zero =>
    intro x4 x5 r hm
    simp only [f_X4_best_6] at hm
    cases hm
  | succ n ih =>
    intro x4 x5 r hm H locs hP hS ls hl
    rw [f_X4_best_6] at hm
    refine lv_iload hx hb dX4_best_6 (lv_at hl 5 rfl) ?_
    refine lv_aload_n hx hb dX4_best_8 rfl (lv_at hl 0 rfl) ?_
    refine xg F 2 inX4 hP (kd_k kdc_8 (by decide)) (wc4 kdc_8) rfl (by decide) tk_555 rfl rfl dX4_best_9 ?_
    refine lv_icmp_ge (tgt := 123) hx hb dX4_best_12 (by decide) (fun b1 => ?_) (fun b1 => ?_)
    · rw [if_pos b1] at hm
      refine lv_iload hx hb dX4_best_123 (lv_at hl 4 rfl) ?_
      exact xir F hP hS (congrArg (fun z => (z, σ)) (Option.some.inj hm).symm) (by decide) (by decide) dX4_best_125
    · rw [if_neg b1] at hm
      refine lv_aload_n hx hb dX4_best_15 rfl (lv_at hl 0 rfl) ?_
      refine lv_iload hx hb dX4_best_16 (lv_at hl 5 rfl) ?_
      obtain ⟨x2_, h2, hm⟩ := ri_inv hm
      refine xV F (c_X4_isOpen h2) tk_671 tk_668 tk_670 tu_37 tk_6 rfl 1 (by decide +kernel) rfl ⟨Nat.le_of_ble_eq_true rfl, Nat.le_of_ble_eq_true rfl⟩ hP hS (kd_k kdc_8 (by decide)) (wc4 kdc_8) rfl hl.1 rfl (Nat.le_of_ble_eq_true rfl) dX4_best_18 ⟨Nat.le_of_ble_eq_true rfl, Nat.le_of_ble_eq_true rfl⟩ (fun v hv H locs hP hS => ?_) (fun E hE => by cases hE)
      cases hv
      replace hP : va_P (gD G) vwCl (wld G lo σ) H := hP
      refine W.eq (g2 := F0 m 21 ls [.int x2_]) rfl ?_
      refine lv_if_eq (tgt := 117) hx hb dX4_best_21 (by decide) (fun b3 => ?_) (fun b3 => ?_)
      · rw [if_pos b3] at hm
        refine lv_iinc (v := (x5 + 1)) (lv' := [(5, .int (x5 + 1)), (0, .ref (gA G 8)), (1, .int x1), (2, .int x2), (3, .int x3), (4, .int x4)]) hx hb dX4_best_117 hl (k := 5) rfl rfl (by decide) rfl (fun ls hl => ?_)
        refine lv_goto (tgt := 6) hx hb dX4_best_120 (by decide) ?_
        exact ih hm hP hS (lv_sub hl [1, 2, 3, 4, 5, 0] rfl)
      · rw [if_neg b3] at hm
        refine lv_aload_n hx hb dX4_best_24 rfl (lv_at hl 0 rfl) ?_
        refine xg F 6 inX4 hP (kd_k kdc_8 (by decide)) (wc4 kdc_8) rfl (by decide) tk_559 rfl rfl dX4_best_25 ?_
        refine lv_iload hx hb dX4_best_28 (lv_at hl 5 rfl) ?_
        by_cases b4 : (x5 < 0 ∨ 16 ≤ x5.toNatClampNeg)
        · rw [if_pos b4] at hm
          cases hm
        · rw [if_neg b4] at hm
          refine xil F hP kdc_12 lnc_12 b4 dX4_best_30 ?_
          refine lv_iload_n hx hb dX4_best_31 rfl (lv_at hl 2 rfl) ?_
          refine lv_icmp_ne (tgt := 117) hx hb dX4_best_32 (by decide) (fun b5 => ?_) (fun b5 => ?_)
          · rw [if_neg b5] at hm
            refine lv_iinc (v := (x5 + 1)) (lv' := [(5, .int (x5 + 1)), (0, .ref (gA G 8)), (1, .int x1), (2, .int x2), (3, .int x3), (4, .int x4)]) hx hb dX4_best_117 hl (k := 5) rfl rfl (by decide) rfl (fun ls hl => ?_)
            refine lv_goto (tgt := 6) hx hb dX4_best_120 (by decide) ?_
            exact ih hm hP hS (lv_sub hl [1, 2, 3, 4, 5, 0] rfl)
          · rw [if_pos b5] at hm
            refine lv_iload_n hx hb dX4_best_35 rfl (lv_at hl 3 rfl) ?_
            refine lv_aload_n hx hb dX4_best_36 rfl (lv_at hl 0 rfl) ?_
            refine xg F 5 inX4 hP (kd_k kdc_8 (by decide)) (wc4 kdc_8) rfl (by decide) tk_558 rfl rfl dX4_best_37 ?_
            refine lv_iload hx hb dX4_best_40 (lv_at hl 5 rfl) ?_
            refine xil F hP kdc_11 lnc_11 b4 dX4_best_42 ?_
            refine lv_iadd hx hb dX4_best_43 ?_
            refine lv_aload_n hx hb dX4_best_44 rfl (lv_at hl 0 rfl) ?_
            refine lv_iload hx hb dX4_best_45 (lv_at hl 5 rfl) ?_
            refine lv_iload_n hx hb dX4_best_47 rfl (lv_at hl 1 rfl) ?_
            obtain ⟨x6_, h6, hm⟩ := ri_inv hm
            refine xV F (c_X4_most h6) tk_695 tk_692 tk_694 tu_43 tk_6 rfl 2 (by decide +kernel) rfl ⟨Nat.le_of_ble_eq_true rfl, Nat.le_of_ble_eq_true rfl⟩ hP hS (kd_k kdc_8 (by decide)) (wc4 kdc_8) rfl hl.1 rfl (Nat.le_of_ble_eq_true rfl) dX4_best_48 ⟨Nat.le_of_ble_eq_true rfl, Nat.le_of_ble_eq_true rfl⟩ (fun v hv H locs hP hS => ?_) (fun E hE => by cases hE)
            cases hv
            replace hP : va_P (gD G) vwCl (wld G lo σ) H := hP
            refine W.eq (g2 := F0 m 51 ls [.int x6_, .int (x3 + (σ 11 x5.toNatClampNeg))]) rfl ?_
            refine lv_isub hx hb dX4_best_51 ?_
            refine lv_aload_n hx hb dX4_best_52 rfl (lv_at hl 0 rfl) ?_
            refine xg F 1 inX4 hP (kd_k kdc_8 (by decide)) (wc4 kdc_8) rfl (by decide) tk_554 rfl rfl dX4_best_53 ?_
            refine lv_icmp_le (tgt := 62) hx hb dX4_best_56 (by decide) (fun b7 => ?_) (fun b7 => ?_)
            · rw [if_pos b7] at hm
              refine lv_iload hx hb dX4_best_62 (lv_at hl 4 rfl) ?_
              refine lv_iconst (v := (-1)) hx hb dX4_best_64 (by decide) ?_
              refine lv_icmp_eq (tgt := 113) hx hb dX4_best_65 (by decide) (fun b8 => ?_) (fun b8 => ?_)
              · rw [if_pos b8] at hm
                refine lv_iload hx hb dX4_best_113 (lv_at hl 5 rfl) ?_
                refine lv_istore (lv' := [(4, .int x5), (0, .ref (gA G 8)), (1, .int x1), (2, .int x2), (3, .int x3), (5, .int x5)]) hx hb dX4_best_115 hl (by decide) rfl (fun ls hl => ?_)
                refine lv_iinc (v := (x5 + 1)) (lv' := [(5, .int (x5 + 1)), (4, .int x5), (0, .ref (gA G 8)), (1, .int x1), (2, .int x2), (3, .int x3)]) hx hb dX4_best_117 hl (k := 5) rfl rfl (by decide) rfl (fun ls hl => ?_)
                refine lv_goto (tgt := 6) hx hb dX4_best_120 (by decide) ?_
                exact ih hm hP hS (lv_sub hl [2, 3, 4, 5, 1, 0] rfl)
              · rw [if_neg b8] at hm
                refine lv_aload_n hx hb dX4_best_68 rfl (lv_at hl 0 rfl) ?_
                refine lv_iload hx hb dX4_best_69 (lv_at hl 5 rfl) ?_
                refine lv_iload_n hx hb dX4_best_71 rfl (lv_at hl 1 rfl) ?_
                obtain ⟨x9_, h9, hm⟩ := ri_inv hm
                refine xV F (c_X4_most h9) tk_695 tk_692 tk_694 tu_43 tk_6 rfl 2 (by decide +kernel) rfl ⟨Nat.le_of_ble_eq_true rfl, Nat.le_of_ble_eq_true rfl⟩ hP hS (kd_k kdc_8 (by decide)) (wc4 kdc_8) rfl hl.1 rfl (Nat.le_of_ble_eq_true rfl) dX4_best_72 ⟨Nat.le_of_ble_eq_true rfl, Nat.le_of_ble_eq_true rfl⟩ (fun v hv H locs hP hS => ?_) (fun E hE => by cases hE)
                cases hv
                replace hP : va_P (gD G) vwCl (wld G lo σ) H := hP
                refine W.eq (g2 := F0 m 75 ls [.int x9_]) rfl ?_
                refine lv_aload_n hx hb dX4_best_75 rfl (lv_at hl 0 rfl) ?_
                refine lv_iload hx hb dX4_best_76 (lv_at hl 4 rfl) ?_
                refine lv_iload_n hx hb dX4_best_78 rfl (lv_at hl 1 rfl) ?_
                obtain ⟨x10_, h10, hm⟩ := ri_inv hm
                refine xV F (c_X4_most h10) tk_695 tk_692 tk_694 tu_43 tk_6 rfl 2 (by decide +kernel) rfl ⟨Nat.le_of_ble_eq_true rfl, Nat.le_of_ble_eq_true rfl⟩ hP hS (kd_k kdc_8 (by decide)) (wc4 kdc_8) rfl hl.1 rfl (Nat.le_of_ble_eq_true rfl) dX4_best_79 ⟨Nat.le_of_ble_eq_true rfl, Nat.le_of_ble_eq_true rfl⟩ (fun v hv H locs hP hS => ?_) (fun E hE => by cases hE)
                cases hv
                replace hP : va_P (gD G) vwCl (wld G lo σ) H := hP
                refine W.eq (g2 := F0 m 82 ls [.int x10_, .int x9_]) rfl ?_
                refine lv_icmp_gt (tgt := 113) hx hb dX4_best_82 (by decide) (fun b11 => ?_) (fun b11 => ?_)
                · rw [if_pos b11] at hm
                  refine lv_iload hx hb dX4_best_113 (lv_at hl 5 rfl) ?_
                  refine lv_istore (lv' := [(4, .int x5), (0, .ref (gA G 8)), (1, .int x1), (2, .int x2), (3, .int x3), (5, .int x5)]) hx hb dX4_best_115 hl (by decide) rfl (fun ls hl => ?_)
                  refine lv_iinc (v := (x5 + 1)) (lv' := [(5, .int (x5 + 1)), (4, .int x5), (0, .ref (gA G 8)), (1, .int x1), (2, .int x2), (3, .int x3)]) hx hb dX4_best_117 hl (k := 5) rfl rfl (by decide) rfl (fun ls hl => ?_)
                  refine lv_goto (tgt := 6) hx hb dX4_best_120 (by decide) ?_
                  exact ih hm hP hS (lv_sub hl [2, 3, 4, 5, 1, 0] rfl)
                · rw [if_neg b11] at hm
                  refine lv_aload_n hx hb dX4_best_85 rfl (lv_at hl 0 rfl) ?_
                  refine lv_iload hx hb dX4_best_86 (lv_at hl 5 rfl) ?_
                  refine lv_iload_n hx hb dX4_best_88 rfl (lv_at hl 1 rfl) ?_
                  obtain ⟨x12_, h12, hm⟩ := ri_inv hm
                  refine xV F (c_X4_most h12) tk_695 tk_692 tk_694 tu_43 tk_6 rfl 2 (by decide +kernel) rfl ⟨Nat.le_of_ble_eq_true rfl, Nat.le_of_ble_eq_true rfl⟩ hP hS (kd_k kdc_8 (by decide)) (wc4 kdc_8) rfl hl.1 rfl (Nat.le_of_ble_eq_true rfl) dX4_best_89 ⟨Nat.le_of_ble_eq_true rfl, Nat.le_of_ble_eq_true rfl⟩ (fun v hv H locs hP hS => ?_) (fun E hE => by cases hE)
                  cases hv
                  replace hP : va_P (gD G) vwCl (wld G lo σ) H := hP
                  refine W.eq (g2 := F0 m 92 ls [.int x12_]) rfl ?_
                  refine lv_aload_n hx hb dX4_best_92 rfl (lv_at hl 0 rfl) ?_
                  refine lv_iload hx hb dX4_best_93 (lv_at hl 4 rfl) ?_
                  refine lv_iload_n hx hb dX4_best_95 rfl (lv_at hl 1 rfl) ?_
                  obtain ⟨x13_, h13, hm⟩ := ri_inv hm
                  refine xV F (c_X4_most h13) tk_695 tk_692 tk_694 tu_43 tk_6 rfl 2 (by decide +kernel) rfl ⟨Nat.le_of_ble_eq_true rfl, Nat.le_of_ble_eq_true rfl⟩ hP hS (kd_k kdc_8 (by decide)) (wc4 kdc_8) rfl hl.1 rfl (Nat.le_of_ble_eq_true rfl) dX4_best_96 ⟨Nat.le_of_ble_eq_true rfl, Nat.le_of_ble_eq_true rfl⟩ (fun v hv H locs hP hS => ?_) (fun E hE => by cases hE)
                  cases hv
                  replace hP : va_P (gD G) vwCl (wld G lo σ) H := hP
                  refine W.eq (g2 := F0 m 99 ls [.int x13_, .int x12_]) rfl ?_
                  refine lv_icmp_ne (tgt := 117) hx hb dX4_best_99 (by decide) (fun b14 => ?_) (fun b14 => ?_)
                  · rw [if_neg b14] at hm
                    refine lv_iinc (v := (x5 + 1)) (lv' := [(5, .int (x5 + 1)), (0, .ref (gA G 8)), (1, .int x1), (2, .int x2), (3, .int x3), (4, .int x4)]) hx hb dX4_best_117 hl (k := 5) rfl rfl (by decide) rfl (fun ls hl => ?_)
                    refine lv_goto (tgt := 6) hx hb dX4_best_120 (by decide) ?_
                    exact ih hm hP hS (lv_sub hl [1, 2, 3, 4, 5, 0] rfl)
                  · rw [if_pos b14] at hm
                    refine lv_aload_n hx hb dX4_best_102 rfl (lv_at hl 0 rfl) ?_
                    refine lv_iload hx hb dX4_best_103 (lv_at hl 5 rfl) ?_
                    refine lv_iload hx hb dX4_best_105 (lv_at hl 4 rfl) ?_
                    obtain ⟨x15_, h15, hm⟩ := ri_inv hm
                    refine xV F (c_X4_isEarlier h15) tk_679 tk_676 tk_678 tu_39 tk_6 rfl 2 (by decide +kernel) rfl ⟨Nat.le_of_ble_eq_true rfl, Nat.le_of_ble_eq_true rfl⟩ hP hS (kd_k kdc_8 (by decide)) (wc4 kdc_8) rfl hl.1 rfl (Nat.le_of_ble_eq_true rfl) dX4_best_107 ⟨Nat.le_of_ble_eq_true rfl, Nat.le_of_ble_eq_true rfl⟩ (fun v hv H locs hP hS => ?_) (fun E hE => by cases hE)
                    cases hv
                    replace hP : va_P (gD G) vwCl (wld G lo σ) H := hP
                    refine W.eq (g2 := F0 m 110 ls [.int x15_]) rfl ?_
                    refine lv_if_eq (tgt := 117) hx hb dX4_best_110 (by decide) (fun b16 => ?_) (fun b16 => ?_)
                    · rw [if_pos b16] at hm
                      refine lv_iinc (v := (x5 + 1)) (lv' := [(5, .int (x5 + 1)), (0, .ref (gA G 8)), (1, .int x1), (2, .int x2), (3, .int x3), (4, .int x4)]) hx hb dX4_best_117 hl (k := 5) rfl rfl (by decide) rfl (fun ls hl => ?_)
                      refine lv_goto (tgt := 6) hx hb dX4_best_120 (by decide) ?_
                      exact ih hm hP hS (lv_sub hl [1, 2, 3, 4, 5, 0] rfl)
                    · rw [if_neg b16] at hm
                      refine lv_iload hx hb dX4_best_113 (lv_at hl 5 rfl) ?_
                      refine lv_istore (lv' := [(4, .int x5), (0, .ref (gA G 8)), (1, .int x1), (2, .int x2), (3, .int x3), (5, .int x5)]) hx hb dX4_best_115 hl (by decide) rfl (fun ls hl => ?_)
                      refine lv_iinc (v := (x5 + 1)) (lv' := [(5, .int (x5 + 1)), (4, .int x5), (0, .ref (gA G 8)), (1, .int x1), (2, .int x2), (3, .int x3)]) hx hb dX4_best_117 hl (k := 5) rfl rfl (by decide) rfl (fun ls hl => ?_)
                      refine lv_goto (tgt := 6) hx hb dX4_best_120 (by decide) ?_
                      exact ih hm hP hS (lv_sub hl [2, 3, 4, 5, 1, 0] rfl)
            · rw [if_neg b7] at hm
              refine lv_goto (tgt := 117) hx hb dX4_best_59 (by decide) ?_
              refine lv_iinc (v := (x5 + 1)) (lv' := [(5, .int (x5 + 1)), (0, .ref (gA G 8)), (1, .int x1), (2, .int x2), (3, .int x3), (4, .int x4)]) hx hb dX4_best_117 hl (k := 5) rfl rfl (by decide) rfl (fun ls hl => ?_)
              refine lv_goto (tgt := 6) hx hb dX4_best_120 (by decide) ?_
              exact ih hm hP hS (lv_sub hl [1, 2, 3, 4, 5, 0] rfl)
def f_X4_best (σ : St) (x1 : Int32) (x2 : Int32) (x3 : Int32) : Option RV :=
  f_X4_best_6 σ x1 x2 x3 40 (-1) 0
set_option maxHeartbeats 4000000 in
set_option maxRecDepth 100000 in
theorem c_X4_best {l : Launch} {G : GT} {σ : St} {x1 : Int32} {x2 : Int32} {x3 : Int32} {r : RV} (hm : f_X4_best σ x1 x2 x3 = some r) : MC l G yX4_best cX4_best 6 (some .int) 2 49 0 0 [.inr 8, .inl x1, .inl x2, .inl x3] σ (r, σ) := by
  refine xbody (by decide) (Nat.le_of_ble_eq_true rfl) ?_
  intro lo p e s m args below meth c F hP ls hl
  have F : Fx p l s args m meth c G cX4_best 6 (some .int) RX4 := F
  obtain ⟨hx, hb, hrt, hml, hown, hts, hlocks, hC, htab, hst⟩ := id F
  have hS : va_S (gF G) s.heap s.heap [] := va_S.rf
  have hl : lv_has ls 6 [(0, .ref (gA G 8)), (1, .int x1), (2, .int x2), (3, .int x3)] := hl
  unfold f_X4_best at hm
  refine lv_iconst (v := (-1)) hx hb dX4_best_0 (by decide) ?_
  refine lv_istore (lv' := [(4, .int (-1)), (0, .ref (gA G 8)), (1, .int x1), (2, .int x2), (3, .int x3)]) hx hb dX4_best_1 hl (by decide) rfl (fun ls hl => ?_)
  refine lv_iconst (v := 0) hx hb dX4_best_3 (by decide) ?_
  refine lv_istore (lv' := [(5, .int 0), (4, .int (-1)), (0, .ref (gA G 8)), (1, .int x1), (2, .int x2), (3, .int x3)]) hx hb dX4_best_4 hl (by decide) rfl (fun ls hl => ?_)
  exact w_X4_best_6 F 40 hm hP hS (lv_sub hl [2, 3, 4, 5, 1, 0] rfl)
/-! ===== X4_fill ===== -/
def f_X4_fill_24 (x1 : Int32) (x2 : Int32) : Nat → St → Int32 → Int32 → Int32 → Option (RV × St)
  | 0, _, _, _, _ => none
  | n + 1, σ, x3, x4, x5 =>
    if x5 = (-1) then
      some (.inl (some (.inl x4)), σ)
    else
      ri (f_X4_most σ x5 x2) (fun x2_ =>
        nv (f_X4_put σ x5 x2) (fun σ3 =>
          if x5 < 0 ∨ 16 ≤ x5.toNatClampNeg then none
          else
            if x1 < 0 ∨ 16 ≤ x1.toNatClampNeg then none
            else
              ri (f_X4_best σ3 x2 (σ3 12 x1.toNatClampNeg) (x3 + ((σ3 11 x5.toNatClampNeg) - x2_))) (fun x6_ =>
                f_X4_fill_24 x1 x2 n σ3 (x3 + ((σ3 11 x5.toNatClampNeg) - x2_)) (x4 + x2_) x6_)))
set_option maxHeartbeats 4000000 in
set_option maxRecDepth 100000 in
theorem w_X4_fill_24 {p : Program} {l : Launch} {e : Env} {s : State} {m : MethodId} {args : Array Value} {below : List Frame} {meth : Method} {c : Code} {G : GT} {lo : Nat → Int64} (F : Fx p l s args m meth c G cX4_fill 7 (some .int) RX4) {x1 : Int32} {x2 : Int32} : ∀ (n : Nat) {σ : St} {x3 : Int32} {x4 : Int32} {x5 : Int32} {r : RV × St}, f_X4_fill_24 x1 x2 n σ x3 x4 x5 = some r → ∀ {H : Heap} {locs : List Loc}, va_P (gD G) vwCl (wld G lo σ) H → va_S (gF G) s.heap H locs → ∀ {ls : Array Slot}, lv_has ls 7 [(0, .ref (gA G 8)), (1, .int x1), (2, .int x2), (3, .int x3), (4, .int x4), (5, .int x5)] → W p l e (RM 3 74 0 0) s m args below meth c H locs 0 0 (vx_MQ below (QCr G lo r) (XCr G lo r) args s 0 0 (gF G)) (F0 m 24 ls []) := by
  obtain ⟨hx, hb, hrt, hml, hown, hts, hlocks, hC, htab, hst⟩ := id F
  intro n
  induction n with
  | zero =>
    intro σ x3 x4 x5 r hm
    simp only [f_X4_fill_24] at hm
    cases hm
  | succ n ih =>
    intro σ x3 x4 x5 r hm H locs hP hS ls hl
    rw [f_X4_fill_24] at hm
    refine lv_iload hx hb dX4_fill_24 (lv_at hl 5 rfl) ?_
    refine lv_iconst (v := (-1)) hx hb dX4_fill_26 (by decide) ?_
    refine lv_icmp_eq (tgt := 83) hx hb dX4_fill_27 (by decide) (fun b1 => ?_) (fun b1 => ?_)
    · rw [if_pos b1] at hm
      refine lv_iload hx hb dX4_fill_83 (lv_at hl 4 rfl) ?_
      exact xir F hP hS (Option.some.inj hm).symm (by decide) (by decide) dX4_fill_85
    · rw [if_neg b1] at hm
      refine lv_aload_n hx hb dX4_fill_30 rfl (lv_at hl 0 rfl) ?_
      refine lv_iload hx hb dX4_fill_31 (lv_at hl 5 rfl) ?_
      refine lv_iload_n hx hb dX4_fill_33 rfl (lv_at hl 2 rfl) ?_
      obtain ⟨x2_, h2, hm⟩ := ri_inv hm
      refine xV F (c_X4_most h2) tk_695 tk_692 tk_694 tu_43 tk_6 rfl 2 (by decide +kernel) rfl ⟨Nat.le_of_ble_eq_true rfl, Nat.le_of_ble_eq_true rfl⟩ hP hS (kd_k kdc_8 (by decide)) (wc4 kdc_8) rfl hl.1 rfl (Nat.le_of_ble_eq_true rfl) dX4_fill_34 ⟨Nat.le_of_ble_eq_true rfl, Nat.le_of_ble_eq_true rfl⟩ (fun v hv H locs hP hS => ?_) (fun E hE => by cases hE)
      cases hv
      replace hP : va_P (gD G) vwCl (wld G lo σ) H := hP
      refine W.eq (g2 := F0 m 37 ls [.int x2_]) rfl ?_
      refine lv_istore (lv' := [(6, .int x2_), (0, .ref (gA G 8)), (1, .int x1), (2, .int x2), (3, .int x3), (4, .int x4), (5, .int x5)]) hx hb dX4_fill_37 hl (by decide) rfl (fun ls hl => ?_)
      refine lv_aload_n hx hb dX4_fill_39 rfl (lv_at hl 1 rfl) ?_
      refine lv_iload hx hb dX4_fill_40 (lv_at hl 6 rfl) ?_
      refine lv_iload_n hx hb dX4_fill_42 rfl (lv_at hl 3 rfl) ?_
      obtain ⟨σ3, h3, hm⟩ := nv_inv hm
      refine xV F (c_X4_put h3) tk_683 tk_680 tk_682 tu_40 tk_6 rfl 2 (by decide +kernel) rfl ⟨Nat.le_of_ble_eq_true rfl, Nat.le_of_ble_eq_true rfl⟩ hP hS (kd_k kdc_8 (by decide)) (wc4 kdc_8) rfl hl.1 rfl (Nat.le_of_ble_eq_true rfl) dX4_fill_43 ⟨Nat.le_of_ble_eq_true rfl, Nat.le_of_ble_eq_true rfl⟩ (fun v hv H locs hP hS => ?_) (fun E hE => by cases hE)
      cases hv
      replace hP : va_P (gD G) vwCl (wld G lo σ3) H := hP
      refine W.eq (g2 := F0 m 46 ls []) rfl ?_
      refine lv_iload_n hx hb dX4_fill_46 rfl (lv_at hl 4 rfl) ?_
      refine lv_aload_n hx hb dX4_fill_47 rfl (lv_at hl 1 rfl) ?_
      refine xg F 5 inX4 hP (kd_k kdc_8 (by decide)) (wc4 kdc_8) rfl (by decide) tk_558 rfl rfl dX4_fill_48 ?_
      refine lv_iload hx hb dX4_fill_51 (lv_at hl 6 rfl) ?_
      by_cases b4 : (x5 < 0 ∨ 16 ≤ x5.toNatClampNeg)
      · rw [if_pos b4] at hm
        cases hm
      · rw [if_neg b4] at hm
        refine xil F hP kdc_11 lnc_11 b4 dX4_fill_53 ?_
        refine lv_iload hx hb dX4_fill_54 (lv_at hl 0 rfl) ?_
        refine lv_isub hx hb dX4_fill_56 ?_
        refine lv_iadd hx hb dX4_fill_57 ?_
        refine lv_istore_n (lv' := [(3, .int (x3 + ((σ3 11 x5.toNatClampNeg) - x2_))), (6, .int x2_), (0, .ref (gA G 8)), (1, .int x1), (2, .int x2), (4, .int x4), (5, .int x5)]) hx hb dX4_fill_58 rfl hl (by decide) rfl (fun ls hl => ?_)
        refine lv_iload hx hb dX4_fill_59 (lv_at hl 5 rfl) ?_
        refine lv_iload hx hb dX4_fill_61 (lv_at hl 1 rfl) ?_
        refine lv_iadd hx hb dX4_fill_63 ?_
        refine lv_istore (lv' := [(4, .int (x4 + x2_)), (3, .int (x3 + ((σ3 11 x5.toNatClampNeg) - x2_))), (6, .int x2_), (0, .ref (gA G 8)), (1, .int x1), (2, .int x2), (5, .int x5)]) hx hb dX4_fill_64 hl (by decide) rfl (fun ls hl => ?_)
        refine lv_aload_n hx hb dX4_fill_66 rfl (lv_at hl 3 rfl) ?_
        refine lv_iload_n hx hb dX4_fill_67 rfl (lv_at hl 5 rfl) ?_
        refine lv_aload_n hx hb dX4_fill_68 rfl (lv_at hl 3 rfl) ?_
        refine xg F 6 inX4 hP (kd_k kdc_8 (by decide)) (wc4 kdc_8) rfl (by decide) tk_559 rfl rfl dX4_fill_69 ?_
        refine lv_iload_n hx hb dX4_fill_72 rfl (lv_at hl 4 rfl) ?_
        by_cases b5 : (x1 < 0 ∨ 16 ≤ x1.toNatClampNeg)
        · rw [if_pos b5] at hm
          cases hm
        · rw [if_neg b5] at hm
          refine xil F hP kdc_12 lnc_12 b5 dX4_fill_73 ?_
          refine lv_iload_n hx hb dX4_fill_74 rfl (lv_at hl 1 rfl) ?_
          obtain ⟨x6_, h6, hm⟩ := ri_inv hm
          refine xV F (c_X4_best h6) tk_691 tk_688 tk_690 tu_42 tk_6 rfl 3 (by decide +kernel) rfl ⟨Nat.le_of_ble_eq_true rfl, Nat.le_of_ble_eq_true rfl⟩ hP hS (kd_k kdc_8 (by decide)) (wc4 kdc_8) rfl hl.1 rfl (Nat.le_of_ble_eq_true rfl) dX4_fill_75 ⟨Nat.le_of_ble_eq_true rfl, Nat.le_of_ble_eq_true rfl⟩ (fun v hv H locs hP hS => ?_) (fun E hE => by cases hE)
          cases hv
          replace hP : va_P (gD G) vwCl (wld G lo σ3) H := hP
          refine W.eq (g2 := F0 m 78 ls [.int x6_]) rfl ?_
          refine lv_istore (lv' := [(5, .int x6_), (4, .int (x4 + x2_)), (3, .int (x3 + ((σ3 11 x5.toNatClampNeg) - x2_))), (6, .int x2_), (0, .ref (gA G 8)), (1, .int x1), (2, .int x2)]) hx hb dX4_fill_78 hl (by decide) rfl (fun ls hl => ?_)
          refine lv_goto (tgt := 24) hx hb dX4_fill_80 (by decide) ?_
          exact ih hm hP hS (lv_sub hl [4, 5, 6, 2, 1, 0] rfl)
def f_X4_fill (σ : St) (x1 : Int32) (x2 : Int32) : Option (RV × St) :=
  if x1 < 0 ∨ 16 ≤ x1.toNatClampNeg then none
  else
    ri (f_X4_best σ x2 (σ 12 x1.toNatClampNeg) (σ 11 x1.toNatClampNeg)) (fun x2_ =>
      f_X4_fill_24 x1 x2 40 σ (σ 11 x1.toNatClampNeg) 0 x2_)
set_option maxHeartbeats 4000000 in
set_option maxRecDepth 100000 in
theorem c_X4_fill {l : Launch} {G : GT} {σ : St} {x1 : Int32} {x2 : Int32} {r : RV × St} (hm : f_X4_fill σ x1 x2 = some r) : MC l G yX4_fill cX4_fill 7 (some .int) 3 74 0 0 [.inr 8, .inl x1, .inl x2] σ r := by
  refine xbody (by decide) (Nat.le_of_ble_eq_true rfl) ?_
  intro lo p e s m args below meth c F hP ls hl
  have F : Fx p l s args m meth c G cX4_fill 7 (some .int) RX4 := F
  obtain ⟨hx, hb, hrt, hml, hown, hts, hlocks, hC, htab, hst⟩ := id F
  have hS : va_S (gF G) s.heap s.heap [] := va_S.rf
  have hl : lv_has ls 7 [(0, .ref (gA G 8)), (1, .int x1), (2, .int x2)] := hl
  unfold f_X4_fill at hm
  refine lv_aload_n hx hb dX4_fill_0 rfl (lv_at hl 0 rfl) ?_
  refine xg F 5 inX4 hP (kd_k kdc_8 (by decide)) (wc4 kdc_8) rfl (by decide) tk_558 rfl rfl dX4_fill_1 ?_
  refine lv_iload_n hx hb dX4_fill_4 rfl (lv_at hl 1 rfl) ?_
  by_cases b1 : (x1 < 0 ∨ 16 ≤ x1.toNatClampNeg)
  · rw [if_pos b1] at hm
    cases hm
  · rw [if_neg b1] at hm
    refine xil F hP kdc_11 lnc_11 b1 dX4_fill_5 ?_
    refine lv_istore_n (lv' := [(3, .int (σ 11 x1.toNatClampNeg)), (0, .ref (gA G 8)), (1, .int x1), (2, .int x2)]) hx hb dX4_fill_6 rfl hl (by decide) rfl (fun ls hl => ?_)
    refine lv_iconst (v := 0) hx hb dX4_fill_7 (by decide) ?_
    refine lv_istore (lv' := [(4, .int 0), (3, .int (σ 11 x1.toNatClampNeg)), (0, .ref (gA G 8)), (1, .int x1), (2, .int x2)]) hx hb dX4_fill_8 hl (by decide) rfl (fun ls hl => ?_)
    refine lv_aload_n hx hb dX4_fill_10 rfl (lv_at hl 2 rfl) ?_
    refine lv_iload_n hx hb dX4_fill_11 rfl (lv_at hl 4 rfl) ?_
    refine lv_aload_n hx hb dX4_fill_12 rfl (lv_at hl 2 rfl) ?_
    refine xg F 6 inX4 hP (kd_k kdc_8 (by decide)) (wc4 kdc_8) rfl (by decide) tk_559 rfl rfl dX4_fill_13 ?_
    refine lv_iload_n hx hb dX4_fill_16 rfl (lv_at hl 3 rfl) ?_
    refine xil F hP kdc_12 lnc_12 b1 dX4_fill_17 ?_
    refine lv_iload_n hx hb dX4_fill_18 rfl (lv_at hl 1 rfl) ?_
    obtain ⟨x2_, h2, hm⟩ := ri_inv hm
    refine xV F (c_X4_best h2) tk_691 tk_688 tk_690 tu_42 tk_6 rfl 3 (by decide +kernel) rfl ⟨Nat.le_of_ble_eq_true rfl, Nat.le_of_ble_eq_true rfl⟩ hP hS (kd_k kdc_8 (by decide)) (wc4 kdc_8) rfl hl.1 rfl (Nat.le_of_ble_eq_true rfl) dX4_fill_19 ⟨Nat.le_of_ble_eq_true rfl, Nat.le_of_ble_eq_true rfl⟩ (fun v hv H locs hP hS => ?_) (fun E hE => by cases hE)
    cases hv
    replace hP : va_P (gD G) vwCl (wld G lo σ) H := hP
    refine W.eq (g2 := F0 m 22 ls [.int x2_]) rfl ?_
    refine lv_istore (lv' := [(5, .int x2_), (4, .int 0), (3, .int (σ 11 x1.toNatClampNeg)), (0, .ref (gA G 8)), (1, .int x1), (2, .int x2)]) hx hb dX4_fill_22 hl (by decide) rfl (fun ls hl => ?_)
    exact w_X4_fill_24 F 40 hm hP hS (lv_sub hl [3, 4, 5, 2, 1, 0] rfl)
/-! ===== X4_plan ===== -/
def f_X4_plan_144 (x1 : Int32) (x3 : Int32) : Nat → St → Int32 → Option (RV × St)
  | 0, _, _ => none
  | n + 1, σ, x4 =>
    if (σ 8 2) ≤ x4 then
      some (.inl (some (.inl x3)), (up2 σ 8 16 x1))
    else
      if x4 < 0 ∨ 16 ≤ x4.toNatClampNeg then none
      else
        if (σ 22 x4.toNatClampNeg) = 0 then
          f_X4_plan_144 x1 x3 n σ (x4 + 1)
        else
          f_X4_plan_144 x1 x3 n (up2 (up2 σ 13 x4.toNatClampNeg (σ 22 x4.toNatClampNeg)) 14 x4.toNatClampNeg ((up2 σ 13 x4.toNatClampNeg (σ 22 x4.toNatClampNeg)) 23 x4.toNatClampNeg)) (x4 + 1)
set_option maxHeartbeats 4000000 in
set_option maxRecDepth 100000 in
theorem w_X4_plan_144 {p : Program} {l : Launch} {e : Env} {s : State} {m : MethodId} {args : Array Value} {below : List Frame} {meth : Method} {c : Code} {G : GT} {lo : Nat → Int64} (F : Fx p l s args m meth c G cX4_plan 5 (some .int) RX4) {x1 : Int32} {x3 : Int32} : ∀ (n : Nat) {σ : St} {x4 : Int32} {r : RV × St}, f_X4_plan_144 x1 x3 n σ x4 = some r → ∀ {H : Heap} {locs : List Loc}, va_P (gD G) vwCl (wld G lo σ) H → va_S (gF G) s.heap H locs → ∀ {ls : Array Slot}, lv_has ls 5 [(0, .ref (gA G 8)), (1, .int x1), (3, .int x3), (4, .int x4)] → W p l e (RM 4 100 0 0) s m args below meth c H locs 0 0 (vx_MQ below (QCr G lo r) (XCr G lo r) args s 0 0 (gF G)) (F0 m 144 ls []) := by
  obtain ⟨hx, hb, hrt, hml, hown, hts, hlocks, hC, htab, hst⟩ := id F
  intro n
  induction n with
  | zero =>
    intro σ x4 r hm
    simp only [f_X4_plan_144] at hm
    cases hm
  | succ n ih =>
    intro σ x4 r hm H locs hP hS ls hl
    rw [f_X4_plan_144] at hm
    refine lv_iload hx hb dX4_plan_144 (lv_at hl 3 rfl) ?_
    refine lv_aload_n hx hb dX4_plan_146 rfl (lv_at hl 0 rfl) ?_
    refine xg F 2 inX4 hP (kd_k kdc_8 (by decide)) (wc4 kdc_8) rfl (by decide) tk_555 rfl rfl dX4_plan_147 ?_
    refine lv_icmp_ge (tgt := 200) hx hb dX4_plan_150 (by decide) (fun b1 => ?_) (fun b1 => ?_)
    · rw [if_pos b1] at hm
      refine lv_aload_n hx hb dX4_plan_200 rfl (lv_at hl 0 rfl) ?_
      refine lv_iload_n hx hb dX4_plan_201 rfl (lv_at hl 1 rfl) ?_
      refine xp F (v := x1) (ty := .int) 16 inX4 tyX4_ok nmX4 hP hS (kd_k kdc_8 (by decide)) (wc4 kdc_8) (wu4_16 kdc_8) rfl (by decide) tk_569 rfl rfl rfl rfl rfl (Nat.le_of_ble_eq_true rfl) dX4_plan_202 (fun H locs hP hS => ?_)
      refine lv_iload_n hx hb dX4_plan_205 rfl (lv_at hl 2 rfl) ?_
      exact xir F hP hS (Option.some.inj hm).symm (by decide) (by decide) dX4_plan_206
    · rw [if_neg b1] at hm
      refine lv_aload_n hx hb dX4_plan_153 rfl (lv_at hl 0 rfl) ?_
      refine xg F 19 inX4 hP (kd_k kdc_8 (by decide)) (wc4 kdc_8) rfl (by decide) tk_572 rfl rfl dX4_plan_154 ?_
      refine lv_iload hx hb dX4_plan_157 (lv_at hl 3 rfl) ?_
      by_cases b2 : (x4 < 0 ∨ 16 ≤ x4.toNatClampNeg)
      · rw [if_pos b2] at hm
        cases hm
      · rw [if_neg b2] at hm
        refine xil F hP kdc_22 lnc_22 b2 dX4_plan_159 ?_
        refine lv_if_ne (tgt := 166) hx hb dX4_plan_160 (by decide) (fun b3 => ?_) (fun b3 => ?_)
        · rw [if_neg b3] at hm
          refine lv_aload_n hx hb dX4_plan_166 rfl (lv_at hl 0 rfl) ?_
          refine xg F 7 inX4 hP (kd_k kdc_8 (by decide)) (wc4 kdc_8) rfl (by decide) tk_560 rfl rfl dX4_plan_167 ?_
          refine lv_iload hx hb dX4_plan_170 (lv_at hl 3 rfl) ?_
          refine lv_aload_n hx hb dX4_plan_172 rfl (lv_at hl 0 rfl) ?_
          refine xg F 19 inX4 hP (kd_k kdc_8 (by decide)) (wc4 kdc_8) rfl (by decide) tk_572 rfl rfl dX4_plan_173 ?_
          refine lv_iload hx hb dX4_plan_176 (lv_at hl 3 rfl) ?_
          refine xil F hP kdc_22 lnc_22 b2 dX4_plan_178 ?_
          refine xis F (v := (σ 22 x4.toNatClampNeg)) hP hS kdc_13 lnc_13 b2 dX4_plan_179 (fun H locs hP hS => ?_)
          refine lv_aload_n hx hb dX4_plan_180 rfl (lv_at hl 0 rfl) ?_
          refine xg F 8 inX4 hP (kd_k kdc_8 (by decide)) (wc4 kdc_8) rfl (by decide) tk_561 rfl rfl dX4_plan_181 ?_
          refine lv_iload hx hb dX4_plan_184 (lv_at hl 3 rfl) ?_
          refine lv_aload_n hx hb dX4_plan_186 rfl (lv_at hl 0 rfl) ?_
          refine xg F 20 inX4 hP (kd_k kdc_8 (by decide)) (wc4 kdc_8) rfl (by decide) tk_573 rfl rfl dX4_plan_187 ?_
          refine lv_iload hx hb dX4_plan_190 (lv_at hl 3 rfl) ?_
          refine xil F hP kdc_23 lnc_23 b2 dX4_plan_192 ?_
          refine xis F (v := ((up2 σ 13 x4.toNatClampNeg (σ 22 x4.toNatClampNeg)) 23 x4.toNatClampNeg)) hP hS kdc_14 lnc_14 b2 dX4_plan_193 (fun H locs hP hS => ?_)
          refine lv_iinc (v := (x4 + 1)) (lv' := [(4, .int (x4 + 1)), (0, .ref (gA G 8)), (1, .int x1), (3, .int x3)]) hx hb dX4_plan_194 hl (k := 3) rfl rfl (by decide) rfl (fun ls hl => ?_)
          refine lv_goto (tgt := 144) hx hb dX4_plan_197 (by decide) ?_
          exact ih hm hP hS (lv_sub hl [1, 2, 3, 0] rfl)
        · rw [if_pos b3] at hm
          refine lv_goto (tgt := 194) hx hb dX4_plan_163 (by decide) ?_
          refine lv_iinc (v := (x4 + 1)) (lv' := [(4, .int (x4 + 1)), (0, .ref (gA G 8)), (1, .int x1), (3, .int x3)]) hx hb dX4_plan_194 hl (k := 3) rfl rfl (by decide) rfl (fun ls hl => ?_)
          refine lv_goto (tgt := 144) hx hb dX4_plan_197 (by decide) ?_
          exact ih hm hP hS (lv_sub hl [1, 2, 3, 0] rfl)
def f_X4_plan_124 (σ : St) (x1 : Int32) (x2 : Int32) (x3 : Int32) (s1 : Int32) : Option (RV × St) :=
  if ((up2 σ 8 0 s1) 8 0) ≤ 0 then
    f_X4_plan_144 x1 x3 40 (up2 σ 8 0 s1) 0
  else
    some (.inl (some (.inl 0)), (up2 (up2 σ 8 0 s1) 8 11 x2))
set_option maxHeartbeats 4000000 in
set_option maxRecDepth 100000 in
theorem w_X4_plan_124 {p : Program} {l : Launch} {e : Env} {s : State} {m : MethodId} {args : Array Value} {below : List Frame} {meth : Method} {c : Code} {G : GT} {lo : Nat → Int64} (F : Fx p l s args m meth c G cX4_plan 5 (some .int) RX4) {σ : St} {x1 : Int32} {x2 : Int32} {x3 : Int32} {s1 : Int32} {r : RV × St} (hm : f_X4_plan_124 σ x1 x2 x3 s1 = some r) {H : Heap} {locs : List Loc} (hP : va_P (gD G) vwCl (wld G lo σ) H) (hS : va_S (gF G) s.heap H locs) {ls : Array Slot} (hl : lv_has ls 5 [(0, .ref (gA G 8)), (1, .int x1), (2, .int x2), (3, .int x3)]) : W p l e (RM 4 100 0 0) s m args below meth c H locs 0 0 (vx_MQ below (QCr G lo r) (XCr G lo r) args s 0 0 (gF G)) (F0 m 124 ls [.int s1, .ref (gA G 8)]) := by
  obtain ⟨hx, hb, hrt, hml, hown, hts, hlocks, hC, htab, hst⟩ := id F
  unfold f_X4_plan_124 at hm
  refine xp F (v := s1) (ty := .int) 0 inX4 tyX4_ok nmX4 hP hS (kd_k kdc_8 (by decide)) (wc4 kdc_8) (wu4_0 kdc_8) rfl (by decide) tk_553 rfl rfl rfl rfl rfl (Nat.le_of_ble_eq_true rfl) dX4_plan_124 (fun H locs hP hS => ?_)
  refine lv_aload_n hx hb dX4_plan_127 rfl (lv_at hl 0 rfl) ?_
  refine xg F 0 inX4 hP (kd_k kdc_8 (by decide)) (wc4 kdc_8) rfl (by decide) tk_553 rfl rfl dX4_plan_128 ?_
  refine lv_if_le (tgt := 141) hx hb dX4_plan_131 (by decide) (fun b1 => ?_) (fun b1 => ?_)
  · rw [if_pos b1] at hm
    refine lv_iconst (v := 0) hx hb dX4_plan_141 (by decide) ?_
    refine lv_istore (lv' := [(4, .int 0), (0, .ref (gA G 8)), (1, .int x1), (2, .int x2), (3, .int x3)]) hx hb dX4_plan_142 hl (by decide) rfl (fun ls hl => ?_)
    exact w_X4_plan_144 F 40 hm hP hS (lv_sub hl [1, 2, 4, 0] rfl)
  · rw [if_neg b1] at hm
    refine lv_aload_n hx hb dX4_plan_134 rfl (lv_at hl 0 rfl) ?_
    refine lv_iload_n hx hb dX4_plan_135 rfl (lv_at hl 2 rfl) ?_
    refine xp F (v := x2) (ty := .int) 11 inX4 tyX4_ok nmX4 hP hS (kd_k kdc_8 (by decide)) (wc4 kdc_8) (wu4_11 kdc_8) rfl (by decide) tk_564 rfl rfl rfl rfl rfl (Nat.le_of_ble_eq_true rfl) dX4_plan_136 (fun H locs hP hS => ?_)
    refine lv_iconst (v := 0) hx hb dX4_plan_139 (by decide) ?_
    exact xir F hP hS (Option.some.inj hm).symm (by decide) (by decide) dX4_plan_140
def f_X4_plan_52 (x2 : Int32) : Nat → St → Int32 → Int32 → Int32 → Option (RV × St)
  | 0, _, _, _, _ => none
  | n + 1, σ, x1, x3, x4 =>
    if x4 = (-1) then
      if x1 ≤ 16 then
        f_X4_plan_124 σ x1 x2 x3 0
      else
        f_X4_plan_124 σ x1 x2 x3 1
    else
      if x4 < 0 ∨ 16 ≤ x4.toNatClampNeg then none
      else
        if ((up2 σ 24 x4.toNatClampNeg 1) 11 x4.toNatClampNeg) ≤ ((up2 σ 24 x4.toNatClampNeg 1) 8 1) then
          nv (f_X4_put (up2 σ 24 x4.toNatClampNeg 1) x4 (x1 + 1)) (fun σ5 =>
            ni (f_X4_fill σ5 x4 (x1 + 1)) (fun x6_ σ6 =>
              ri (f_X4_begin σ6) (fun x7_ =>
                f_X4_plan_52 x2 n σ6 (x1 + 1) (x3 + x6_) x7_)))
        else
          ri (f_X4_begin (up2 σ 24 x4.toNatClampNeg 1)) (fun x8_ =>
            f_X4_plan_52 x2 n (up2 σ 24 x4.toNatClampNeg 1) x1 x3 x8_)
set_option maxHeartbeats 4000000 in
set_option maxRecDepth 100000 in
theorem w_X4_plan_52 {p : Program} {l : Launch} {e : Env} {s : State} {m : MethodId} {args : Array Value} {below : List Frame} {meth : Method} {c : Code} {G : GT} {lo : Nat → Int64} (F : Fx p l s args m meth c G cX4_plan 5 (some .int) RX4) {x2 : Int32} : ∀ (n : Nat) {σ : St} {x1 : Int32} {x3 : Int32} {x4 : Int32} {r : RV × St}, f_X4_plan_52 x2 n σ x1 x3 x4 = some r → ∀ {H : Heap} {locs : List Loc}, va_P (gD G) vwCl (wld G lo σ) H → va_S (gF G) s.heap H locs → ∀ {ls : Array Slot}, lv_has ls 5 [(0, .ref (gA G 8)), (1, .int x1), (2, .int x2), (3, .int x3), (4, .int x4)] → W p l e (RM 4 100 0 0) s m args below meth c H locs 0 0 (vx_MQ below (QCr G lo r) (XCr G lo r) args s 0 0 (gF G)) (F0 m 52 ls []) := by
  obtain ⟨hx, hb, hrt, hml, hown, hts, hlocks, hC, htab, hst⟩ := id F
  intro n
  induction n with
  | zero =>
    intro σ x1 x3 x4 r hm
    simp only [f_X4_plan_52] at hm
    cases hm
  | succ n ih =>
    intro σ x1 x3 x4 r hm H locs hP hS ls hl
    rw [f_X4_plan_52] at hm
    refine lv_iload hx hb dX4_plan_52 (lv_at hl 4 rfl) ?_
    refine lv_iconst (v := (-1)) hx hb dX4_plan_54 (by decide) ?_
    refine lv_icmp_eq (tgt := 112) hx hb dX4_plan_55 (by decide) (fun b1 => ?_) (fun b1 => ?_)
    · rw [if_pos b1] at hm
      refine lv_aload_n hx hb dX4_plan_112 rfl (lv_at hl 0 rfl) ?_
      refine lv_iload_n hx hb dX4_plan_113 rfl (lv_at hl 1 rfl) ?_
      refine lv_bipush (v := 16) hx hb dX4_plan_114 (by decide) ?_
      refine lv_icmp_le (tgt := 123) hx hb dX4_plan_116 (by decide) (fun b2 => ?_) (fun b2 => ?_)
      · rw [if_pos b2] at hm
        refine lv_iconst (v := 0) hx hb dX4_plan_123 (by decide) ?_
        exact w_X4_plan_124 F hm hP hS (lv_sub hl [0, 1, 2, 3] rfl)
      · rw [if_neg b2] at hm
        refine lv_iconst (v := 1) hx hb dX4_plan_119 (by decide) ?_
        refine lv_goto (tgt := 124) hx hb dX4_plan_120 (by decide) ?_
        exact w_X4_plan_124 F hm hP hS (lv_sub hl [0, 1, 2, 3] rfl)
    · rw [if_neg b1] at hm
      refine lv_aload_n hx hb dX4_plan_58 rfl (lv_at hl 0 rfl) ?_
      refine xg F 21 inX4 hP (kd_k kdc_8 (by decide)) (wc4 kdc_8) rfl (by decide) tk_574 rfl rfl dX4_plan_59 ?_
      refine lv_iload hx hb dX4_plan_62 (lv_at hl 4 rfl) ?_
      refine lv_iconst (v := 1) hx hb dX4_plan_64 (by decide) ?_
      by_cases b3 : (x4 < 0 ∨ 16 ≤ x4.toNatClampNeg)
      · rw [if_pos b3] at hm
        cases hm
      · rw [if_neg b3] at hm
        refine xzs F (v := 1) hP hS kdc_24 lnc_24 b3 rfl dX4_plan_65 (fun H locs hP hS => ?_)
        refine lv_aload_n hx hb dX4_plan_66 rfl (lv_at hl 0 rfl) ?_
        refine xg F 5 inX4 hP (kd_k kdc_8 (by decide)) (wc4 kdc_8) rfl (by decide) tk_558 rfl rfl dX4_plan_67 ?_
        refine lv_iload hx hb dX4_plan_70 (lv_at hl 4 rfl) ?_
        refine xil F hP kdc_11 lnc_11 b3 dX4_plan_72 ?_
        refine lv_aload_n hx hb dX4_plan_73 rfl (lv_at hl 0 rfl) ?_
        refine xg F 1 inX4 hP (kd_k kdc_8 (by decide)) (wc4 kdc_8) rfl (by decide) tk_554 rfl rfl dX4_plan_74 ?_
        refine lv_icmp_le (tgt := 83) hx hb dX4_plan_77 (by decide) (fun b4 => ?_) (fun b4 => ?_)
        · rw [if_pos b4] at hm
          refine lv_iinc (v := (x1 + 1)) (lv' := [(1, .int (x1 + 1)), (0, .ref (gA G 8)), (2, .int x2), (3, .int x3), (4, .int x4)]) hx hb dX4_plan_83 hl (k := 1) rfl rfl (by decide) rfl (fun ls hl => ?_)
          refine lv_aload_n hx hb dX4_plan_86 rfl (lv_at hl 1 rfl) ?_
          refine lv_iload hx hb dX4_plan_87 (lv_at hl 4 rfl) ?_
          refine lv_iload_n hx hb dX4_plan_89 rfl (lv_at hl 0 rfl) ?_
          obtain ⟨σ5, h5, hm⟩ := nv_inv hm
          refine xV F (c_X4_put h5) tk_683 tk_680 tk_682 tu_40 tk_6 rfl 2 (by decide +kernel) rfl ⟨Nat.le_of_ble_eq_true rfl, Nat.le_of_ble_eq_true rfl⟩ hP hS (kd_k kdc_8 (by decide)) (wc4 kdc_8) rfl hl.1 rfl (Nat.le_of_ble_eq_true rfl) dX4_plan_90 ⟨Nat.le_of_ble_eq_true rfl, Nat.le_of_ble_eq_true rfl⟩ (fun v hv H locs hP hS => ?_) (fun E hE => by cases hE)
          cases hv
          replace hP : va_P (gD G) vwCl (wld G lo σ5) H := hP
          refine W.eq (g2 := F0 m 93 ls []) rfl ?_
          refine lv_iload_n hx hb dX4_plan_93 rfl (lv_at hl 3 rfl) ?_
          refine lv_aload_n hx hb dX4_plan_94 rfl (lv_at hl 1 rfl) ?_
          refine lv_iload hx hb dX4_plan_95 (lv_at hl 4 rfl) ?_
          refine lv_iload_n hx hb dX4_plan_97 rfl (lv_at hl 0 rfl) ?_
          obtain ⟨x6_, σ6, h6, hm⟩ := ni_inv hm
          refine xV F (c_X4_fill h6) tk_687 tk_684 tk_686 tu_41 tk_6 rfl 2 (by decide +kernel) rfl ⟨Nat.le_of_ble_eq_true rfl, Nat.le_of_ble_eq_true rfl⟩ hP hS (kd_k kdc_8 (by decide)) (wc4 kdc_8) rfl hl.1 rfl (Nat.le_of_ble_eq_true rfl) dX4_plan_98 ⟨Nat.le_of_ble_eq_true rfl, Nat.le_of_ble_eq_true rfl⟩ (fun v hv H locs hP hS => ?_) (fun E hE => by cases hE)
          cases hv
          replace hP : va_P (gD G) vwCl (wld G lo σ6) H := hP
          refine W.eq (g2 := F0 m 101 ls [.int x6_, .int x3]) rfl ?_
          refine lv_iadd hx hb dX4_plan_101 ?_
          refine lv_istore_n (lv' := [(3, .int (x3 + x6_)), (1, .int (x1 + 1)), (0, .ref (gA G 8)), (2, .int x2), (4, .int x4)]) hx hb dX4_plan_102 rfl hl (by decide) rfl (fun ls hl => ?_)
          refine lv_aload_n hx hb dX4_plan_103 rfl (lv_at hl 2 rfl) ?_
          obtain ⟨x7_, h7, hm⟩ := ri_inv hm
          refine xV F (c_X4_begin h7) tk_667 tk_664 tk_666 tu_36 tk_6 rfl 0 (by decide +kernel) rfl ⟨Nat.le_of_ble_eq_true rfl, Nat.le_of_ble_eq_true rfl⟩ hP hS (kd_k kdc_8 (by decide)) (wc4 kdc_8) rfl hl.1 rfl (Nat.le_of_ble_eq_true rfl) dX4_plan_104 ⟨Nat.le_of_ble_eq_true rfl, Nat.le_of_ble_eq_true rfl⟩ (fun v hv H locs hP hS => ?_) (fun E hE => by cases hE)
          cases hv
          replace hP : va_P (gD G) vwCl (wld G lo σ6) H := hP
          refine W.eq (g2 := F0 m 107 ls [.int x7_]) rfl ?_
          refine lv_istore (lv' := [(4, .int x7_), (3, .int (x3 + x6_)), (1, .int (x1 + 1)), (0, .ref (gA G 8)), (2, .int x2)]) hx hb dX4_plan_107 hl (by decide) rfl (fun ls hl => ?_)
          refine lv_goto (tgt := 52) hx hb dX4_plan_109 (by decide) ?_
          exact ih hm hP hS (lv_sub hl [3, 2, 4, 1, 0] rfl)
        · rw [if_neg b4] at hm
          refine lv_goto (tgt := 103) hx hb dX4_plan_80 (by decide) ?_
          refine lv_aload_n hx hb dX4_plan_103 rfl (lv_at hl 0 rfl) ?_
          obtain ⟨x8_, h8, hm⟩ := ri_inv hm
          refine xV F (c_X4_begin h8) tk_667 tk_664 tk_666 tu_36 tk_6 rfl 0 (by decide +kernel) rfl ⟨Nat.le_of_ble_eq_true rfl, Nat.le_of_ble_eq_true rfl⟩ hP hS (kd_k kdc_8 (by decide)) (wc4 kdc_8) rfl hl.1 rfl (Nat.le_of_ble_eq_true rfl) dX4_plan_104 ⟨Nat.le_of_ble_eq_true rfl, Nat.le_of_ble_eq_true rfl⟩ (fun v hv H locs hP hS => ?_) (fun E hE => by cases hE)
          cases hv
          replace hP : va_P (gD G) vwCl (wld G lo (up2 σ 24 x4.toNatClampNeg 1)) H := hP
          refine W.eq (g2 := F0 m 107 ls [.int x8_]) rfl ?_
          refine lv_istore (lv' := [(4, .int x8_), (0, .ref (gA G 8)), (1, .int x1), (2, .int x2), (3, .int x3)]) hx hb dX4_plan_107 hl (by decide) rfl (fun ls hl => ?_)
          refine lv_goto (tgt := 52) hx hb dX4_plan_109 (by decide) ?_
          exact ih hm hP hS (lv_sub hl [1, 2, 3, 4, 0] rfl)
def f_X4_plan_15 (x2 : Int32) : Nat → St → Int32 → Int32 → Int32 → Option (RV × St)
  | 0, _, _, _, _ => none
  | n + 1, σ, x1, x3, x4 =>
    if (σ 8 2) ≤ x4 then
      ri (f_X4_begin σ) (fun x2_ =>
        f_X4_plan_52 x2 40 σ x1 x3 x2_)
    else
      if x4 < 0 ∨ 16 ≤ x4.toNatClampNeg then none
      else
        f_X4_plan_15 x2 n (up2 (up2 σ 22 x4.toNatClampNeg 0) 24 x4.toNatClampNeg 0) x1 x3 (x4 + 1)
set_option maxHeartbeats 4000000 in
set_option maxRecDepth 100000 in
theorem w_X4_plan_15 {p : Program} {l : Launch} {e : Env} {s : State} {m : MethodId} {args : Array Value} {below : List Frame} {meth : Method} {c : Code} {G : GT} {lo : Nat → Int64} (F : Fx p l s args m meth c G cX4_plan 5 (some .int) RX4) {x2 : Int32} : ∀ (n : Nat) {σ : St} {x1 : Int32} {x3 : Int32} {x4 : Int32} {r : RV × St}, f_X4_plan_15 x2 n σ x1 x3 x4 = some r → ∀ {H : Heap} {locs : List Loc}, va_P (gD G) vwCl (wld G lo σ) H → va_S (gF G) s.heap H locs → ∀ {ls : Array Slot}, lv_has ls 5 [(0, .ref (gA G 8)), (1, .int x1), (2, .int x2), (3, .int x3), (4, .int x4)] → W p l e (RM 4 100 0 0) s m args below meth c H locs 0 0 (vx_MQ below (QCr G lo r) (XCr G lo r) args s 0 0 (gF G)) (F0 m 15 ls []) := by
  obtain ⟨hx, hb, hrt, hml, hown, hts, hlocks, hC, htab, hst⟩ := id F
  intro n
  induction n with
  | zero =>
    intro σ x1 x3 x4 r hm
    simp only [f_X4_plan_15] at hm
    cases hm
  | succ n ih =>
    intro σ x1 x3 x4 r hm H locs hP hS ls hl
    rw [f_X4_plan_15] at hm
    refine lv_iload hx hb dX4_plan_15 (lv_at hl 4 rfl) ?_
    refine lv_aload_n hx hb dX4_plan_17 rfl (lv_at hl 0 rfl) ?_
    refine xg F 2 inX4 hP (kd_k kdc_8 (by decide)) (wc4 kdc_8) rfl (by decide) tk_555 rfl rfl dX4_plan_18 ?_
    refine lv_icmp_ge (tgt := 46) hx hb dX4_plan_21 (by decide) (fun b1 => ?_) (fun b1 => ?_)
    · rw [if_pos b1] at hm
      refine lv_aload_n hx hb dX4_plan_46 rfl (lv_at hl 0 rfl) ?_
      obtain ⟨x2_, h2, hm⟩ := ri_inv hm
      refine xV F (c_X4_begin h2) tk_667 tk_664 tk_666 tu_36 tk_6 rfl 0 (by decide +kernel) rfl ⟨Nat.le_of_ble_eq_true rfl, Nat.le_of_ble_eq_true rfl⟩ hP hS (kd_k kdc_8 (by decide)) (wc4 kdc_8) rfl hl.1 rfl (Nat.le_of_ble_eq_true rfl) dX4_plan_47 ⟨Nat.le_of_ble_eq_true rfl, Nat.le_of_ble_eq_true rfl⟩ (fun v hv H locs hP hS => ?_) (fun E hE => by cases hE)
      cases hv
      replace hP : va_P (gD G) vwCl (wld G lo σ) H := hP
      refine W.eq (g2 := F0 m 50 ls [.int x2_]) rfl ?_
      refine lv_istore (lv' := [(4, .int x2_), (0, .ref (gA G 8)), (1, .int x1), (2, .int x2), (3, .int x3)]) hx hb dX4_plan_50 hl (by decide) rfl (fun ls hl => ?_)
      exact w_X4_plan_52 F 40 hm hP hS (lv_sub hl [1, 2, 3, 4, 0] rfl)
    · rw [if_neg b1] at hm
      refine lv_aload_n hx hb dX4_plan_24 rfl (lv_at hl 0 rfl) ?_
      refine xg F 19 inX4 hP (kd_k kdc_8 (by decide)) (wc4 kdc_8) rfl (by decide) tk_572 rfl rfl dX4_plan_25 ?_
      refine lv_iload hx hb dX4_plan_28 (lv_at hl 4 rfl) ?_
      refine lv_iconst (v := 0) hx hb dX4_plan_30 (by decide) ?_
      by_cases b3 : (x4 < 0 ∨ 16 ≤ x4.toNatClampNeg)
      · rw [if_pos b3] at hm
        cases hm
      · rw [if_neg b3] at hm
        refine xis F (v := 0) hP hS kdc_22 lnc_22 b3 dX4_plan_31 (fun H locs hP hS => ?_)
        refine lv_aload_n hx hb dX4_plan_32 rfl (lv_at hl 0 rfl) ?_
        refine xg F 21 inX4 hP (kd_k kdc_8 (by decide)) (wc4 kdc_8) rfl (by decide) tk_574 rfl rfl dX4_plan_33 ?_
        refine lv_iload hx hb dX4_plan_36 (lv_at hl 4 rfl) ?_
        refine lv_iconst (v := 0) hx hb dX4_plan_38 (by decide) ?_
        refine xzs F (v := 0) hP hS kdc_24 lnc_24 b3 rfl dX4_plan_39 (fun H locs hP hS => ?_)
        refine lv_iinc (v := (x4 + 1)) (lv' := [(4, .int (x4 + 1)), (0, .ref (gA G 8)), (1, .int x1), (2, .int x2), (3, .int x3)]) hx hb dX4_plan_40 hl (k := 4) rfl rfl (by decide) rfl (fun ls hl => ?_)
        refine lv_goto (tgt := 15) hx hb dX4_plan_43 (by decide) ?_
        exact ih hm hP hS (lv_sub hl [1, 2, 3, 4, 0] rfl)
def f_X4_plan (σ : St) : Option (RV × St) :=
  f_X4_plan_15 (σ 8 11) 40 σ (σ 8 16) 0 0
set_option maxHeartbeats 4000000 in
set_option maxRecDepth 100000 in
theorem c_X4_plan {l : Launch} {G : GT} {σ : St} {r : RV × St} (hm : f_X4_plan σ = some r) : MC l G yX4_plan cX4_plan 5 (some .int) 4 100 0 0 [.inr 8] σ r := by
  refine xbody (by decide) (Nat.le_of_ble_eq_true rfl) ?_
  intro lo p e s m args below meth c F hP ls hl
  have F : Fx p l s args m meth c G cX4_plan 5 (some .int) RX4 := F
  obtain ⟨hx, hb, hrt, hml, hown, hts, hlocks, hC, htab, hst⟩ := id F
  have hS : va_S (gF G) s.heap s.heap [] := va_S.rf
  have hl : lv_has ls 5 [(0, .ref (gA G 8))] := hl
  unfold f_X4_plan at hm
  refine lv_aload_n hx hb dX4_plan_0 rfl (lv_at hl 0 rfl) ?_
  refine xg F 16 inX4 hP (kd_k kdc_8 (by decide)) (wc4 kdc_8) rfl (by decide) tk_569 rfl rfl dX4_plan_1 ?_
  refine lv_istore_n (lv' := [(1, .int (σ 8 16)), (0, .ref (gA G 8))]) hx hb dX4_plan_4 rfl hl (by decide) rfl (fun ls hl => ?_)
  refine lv_aload_n hx hb dX4_plan_5 rfl (lv_at hl 1 rfl) ?_
  refine xg F 11 inX4 hP (kd_k kdc_8 (by decide)) (wc4 kdc_8) rfl (by decide) tk_564 rfl rfl dX4_plan_6 ?_
  refine lv_istore_n (lv' := [(2, .int (σ 8 11)), (1, .int (σ 8 16)), (0, .ref (gA G 8))]) hx hb dX4_plan_9 rfl hl (by decide) rfl (fun ls hl => ?_)
  refine lv_iconst (v := 0) hx hb dX4_plan_10 (by decide) ?_
  refine lv_istore_n (lv' := [(3, .int 0), (2, .int (σ 8 11)), (1, .int (σ 8 16)), (0, .ref (gA G 8))]) hx hb dX4_plan_11 rfl hl (by decide) rfl (fun ls hl => ?_)
  refine lv_iconst (v := 0) hx hb dX4_plan_12 (by decide) ?_
  refine lv_istore (lv' := [(4, .int 0), (3, .int 0), (2, .int (σ 8 11)), (1, .int (σ 8 16)), (0, .ref (gA G 8))]) hx hb dX4_plan_13 hl (by decide) rfl (fun ls hl => ?_)
  exact w_X4_plan_15 F 40 hm hP hS (lv_sub hl [4, 3, 2, 1, 0] rfl)
/-! ===== X4_wave ===== -/
def f_X4_wave_14 (σ : St) (x1 : Int32) (s1 : Int32) : Option (RV × St) :=
  if ((up2 σ 8 0 s1) 8 0) ≤ 0 then
    if x1 < 0 ∨ 16 ≤ x1.toNatClampNeg then none
    else
      some (.inl (some (.inl ((up2 σ 8 0 s1) 13 x1.toNatClampNeg))), (up2 σ 8 0 s1))
  else
    some (.inl (some (.inl 0)), (up2 σ 8 0 s1))
set_option maxHeartbeats 4000000 in
set_option maxRecDepth 100000 in
theorem w_X4_wave_14 {p : Program} {l : Launch} {e : Env} {s : State} {m : MethodId} {args : Array Value} {below : List Frame} {meth : Method} {c : Code} {G : GT} {lo : Nat → Int64} (F : Fx p l s args m meth c G cX4_wave 2 (some .int) RX4) {σ : St} {x1 : Int32} {s1 : Int32} {r : RV × St} (hm : f_X4_wave_14 σ x1 s1 = some r) {H : Heap} {locs : List Loc} (hP : va_P (gD G) vwCl (wld G lo σ) H) (hS : va_S (gF G) s.heap H locs) {ls : Array Slot} (hl : lv_has ls 2 [(0, .ref (gA G 8)), (1, .int x1)]) : W p l e (RM 2 43 0 0) s m args below meth c H locs 0 0 (vx_MQ below (QCr G lo r) (XCr G lo r) args s 0 0 (gF G)) (F0 m 14 ls [.int s1, .ref (gA G 8)]) := by
  obtain ⟨hx, hb, hrt, hml, hown, hts, hlocks, hC, htab, hst⟩ := id F
  unfold f_X4_wave_14 at hm
  refine xp F (v := s1) (ty := .int) 0 inX4 tyX4_ok nmX4 hP hS (kd_k kdc_8 (by decide)) (wc4 kdc_8) (wu4_0 kdc_8) rfl (by decide) tk_553 rfl rfl rfl rfl rfl (Nat.le_of_ble_eq_true rfl) dX4_wave_14 (fun H locs hP hS => ?_)
  refine lv_aload_n hx hb dX4_wave_17 rfl (lv_at hl 0 rfl) ?_
  refine xg F 0 inX4 hP (kd_k kdc_8 (by decide)) (wc4 kdc_8) rfl (by decide) tk_553 rfl rfl dX4_wave_18 ?_
  refine lv_if_le (tgt := 28) hx hb dX4_wave_21 (by decide) (fun b1 => ?_) (fun b1 => ?_)
  · rw [if_pos b1] at hm
    refine lv_aload_n hx hb dX4_wave_28 rfl (lv_at hl 0 rfl) ?_
    refine xg F 7 inX4 hP (kd_k kdc_8 (by decide)) (wc4 kdc_8) rfl (by decide) tk_560 rfl rfl dX4_wave_29 ?_
    refine lv_iload_n hx hb dX4_wave_32 rfl (lv_at hl 1 rfl) ?_
    by_cases b2 : (x1 < 0 ∨ 16 ≤ x1.toNatClampNeg)
    · rw [if_pos b2] at hm
      cases hm
    · rw [if_neg b2] at hm
      refine xil F hP kdc_13 lnc_13 b2 dX4_wave_33 ?_
      exact xir F hP hS (Option.some.inj hm).symm (by decide) (by decide) dX4_wave_34
  · rw [if_neg b1] at hm
    refine lv_iconst (v := 0) hx hb dX4_wave_24 (by decide) ?_
    refine lv_goto (tgt := 34) hx hb dX4_wave_25 (by decide) ?_
    exact xir F hP hS (Option.some.inj hm).symm (by decide) (by decide) dX4_wave_34
def f_X4_wave (σ : St) (x1 : Int32) : Option (RV × St) :=
  ri (f_X4_isOrder σ x1) (fun x1_ =>
    if x1_ = 0 then
      f_X4_wave_14 σ x1 1
    else
      f_X4_wave_14 σ x1 0)
set_option maxHeartbeats 4000000 in
set_option maxRecDepth 100000 in
theorem c_X4_wave {l : Launch} {G : GT} {σ : St} {x1 : Int32} {r : RV × St} (hm : f_X4_wave σ x1 = some r) : MC l G yX4_wave cX4_wave 2 (some .int) 2 43 0 0 [.inr 8, .inl x1] σ r := by
  refine xbody (by decide) (Nat.le_of_ble_eq_true rfl) ?_
  intro lo p e s m args below meth c F hP ls hl
  have F : Fx p l s args m meth c G cX4_wave 2 (some .int) RX4 := F
  obtain ⟨hx, hb, hrt, hml, hown, hts, hlocks, hC, htab, hst⟩ := id F
  have hS : va_S (gF G) s.heap s.heap [] := va_S.rf
  have hl : lv_has ls 2 [(0, .ref (gA G 8)), (1, .int x1)] := hl
  unfold f_X4_wave at hm
  refine lv_aload_n hx hb dX4_wave_0 rfl (lv_at hl 0 rfl) ?_
  refine lv_aload_n hx hb dX4_wave_1 rfl (lv_at hl 0 rfl) ?_
  refine lv_iload_n hx hb dX4_wave_2 rfl (lv_at hl 1 rfl) ?_
  obtain ⟨x1_, h1, hm⟩ := ri_inv hm
  refine xV F (c_X4_isOrder h1) tk_643 tk_640 tk_642 tu_34 tk_6 rfl 1 (by decide +kernel) rfl ⟨Nat.le_of_ble_eq_true rfl, Nat.le_of_ble_eq_true rfl⟩ hP hS (kd_k kdc_8 (by decide)) (wc4 kdc_8) rfl hl.1 rfl (Nat.le_of_ble_eq_true rfl) dX4_wave_3 ⟨Nat.le_of_ble_eq_true rfl, Nat.le_of_ble_eq_true rfl⟩ (fun v hv H locs hP hS => ?_) (fun E hE => by cases hE)
  cases hv
  replace hP : va_P (gD G) vwCl (wld G lo σ) H := hP
  refine W.eq (g2 := F0 m 6 ls [.int x1_, .ref (gA G 8)]) rfl ?_
  refine lv_if_eq (tgt := 13) hx hb dX4_wave_6 (by decide) (fun b2 => ?_) (fun b2 => ?_)
  · rw [if_pos b2] at hm
    refine lv_iconst (v := 1) hx hb dX4_wave_13 (by decide) ?_
    exact w_X4_wave_14 F hm hP hS (lv_sub hl [0, 1] rfl)
  · rw [if_neg b2] at hm
    refine lv_iconst (v := 0) hx hb dX4_wave_9 (by decide) ?_
    refine lv_goto (tgt := 14) hx hb dX4_wave_10 (by decide) ?_
    exact w_X4_wave_14 F hm hP hS (lv_sub hl [0, 1] rfl)
/-! ===== X4_memberAt ===== -/
def f_X4_memberAt_29 (σ : St) (x1 : Int32) (x2 : Int32) (x3 : Int32) (kc : Int32 → Option RV) : Nat → Int32 → Int32 → Option RV
  | 0, _, _ => none
  | n + 1, x4, x5 =>
    if (σ 8 2) ≤ x5 then
      kc x4
    else
      if x5 < 0 ∨ 16 ≤ x5.toNatClampNeg then none
      else
        if (σ 13 x5.toNatClampNeg) = x1 then
          if x3 < 0 ∨ 16 ≤ x3.toNatClampNeg then none
          else
            if (σ 14 x3.toNatClampNeg) ≤ (σ 14 x5.toNatClampNeg) then
              f_X4_memberAt_29 σ x1 x2 x3 kc n (x4 + 0) (x5 + 1)
            else
              f_X4_memberAt_29 σ x1 x2 x3 kc n (x4 + 1) (x5 + 1)
        else
          f_X4_memberAt_29 σ x1 x2 x3 kc n (x4 + 0) (x5 + 1)
set_option maxHeartbeats 4000000 in
set_option maxRecDepth 100000 in
theorem w_X4_memberAt_29 {p : Program} {l : Launch} {e : Env} {s : State} {m : MethodId} {args : Array Value} {below : List Frame} {meth : Method} {c : Code} {G : GT} {lo : Nat → Int64} (F : Fx p l s args m meth c G cX4_memberAt 6 (some .int) RX4) {σ : St} {x1 : Int32} {x2 : Int32} {x3 : Int32} {kc : Int32 → Option RV} (hk : ∀ {y4 : Int32} {r : RV}, kc y4 = some r → ∀ {H : Heap} {locs : List Loc}, va_P (gD G) vwCl (wld G lo σ) H → va_S (gF G) s.heap H locs → ∀ {ls : Array Slot}, lv_has ls 6 [(0, .ref (gA G 8)), (1, .int x1), (2, .int x2), (3, .int x3), (4, .int y4)] → W p l e (RM 0 0 0 0) s m args below meth c H locs 0 0 (vx_MQ below (QCr G lo (r, σ)) (XCr G lo (r, σ)) args s 0 0 (gF G)) (F0 m 81 ls [])) : ∀ (n : Nat) {x4 : Int32} {x5 : Int32} {r : RV}, f_X4_memberAt_29 σ x1 x2 x3 kc n x4 x5 = some r → ∀ {H : Heap} {locs : List Loc}, va_P (gD G) vwCl (wld G lo σ) H → va_S (gF G) s.heap H locs → ∀ {ls : Array Slot}, lv_has ls 6 [(0, .ref (gA G 8)), (1, .int x1), (2, .int x2), (3, .int x3), (4, .int x4), (5, .int x5)] → W p l e (RM 0 0 0 0) s m args below meth c H locs 0 0 (vx_MQ below (QCr G lo (r, σ)) (XCr G lo (r, σ)) args s 0 0 (gF G)) (F0 m 29 ls []) := by
  obtain ⟨hx, hb, hrt, hml, hown, hts, hlocks, hC, htab, hst⟩ := id F
  intro n
  induction n with
  | zero =>
    intro x4 x5 r hm
    simp only [f_X4_memberAt_29] at hm
    cases hm
  | succ n ih =>
    intro x4 x5 r hm H locs hP hS ls hl
    rw [f_X4_memberAt_29] at hm
    refine lv_iload hx hb dX4_memberAt_29 (lv_at hl 5 rfl) ?_
    refine lv_aload_n hx hb dX4_memberAt_31 rfl (lv_at hl 0 rfl) ?_
    refine xg F 2 inX4 hP (kd_k kdc_8 (by decide)) (wc4 kdc_8) rfl (by decide) tk_555 rfl rfl dX4_memberAt_32 ?_
    refine lv_icmp_ge (tgt := 81) hx hb dX4_memberAt_35 (by decide) (fun b1 => ?_) (fun b1 => ?_)
    · rw [if_pos b1] at hm
      exact hk hm hP hS (lv_sub hl [0, 1, 2, 3, 4] rfl)
    · rw [if_neg b1] at hm
      refine lv_iload hx hb dX4_memberAt_38 (lv_at hl 4 rfl) ?_
      refine lv_aload_n hx hb dX4_memberAt_40 rfl (lv_at hl 0 rfl) ?_
      refine xg F 7 inX4 hP (kd_k kdc_8 (by decide)) (wc4 kdc_8) rfl (by decide) tk_560 rfl rfl dX4_memberAt_41 ?_
      refine lv_iload hx hb dX4_memberAt_44 (lv_at hl 5 rfl) ?_
      by_cases b2 : (x5 < 0 ∨ 16 ≤ x5.toNatClampNeg)
      · rw [if_pos b2] at hm
        cases hm
      · rw [if_neg b2] at hm
        refine xil F hP kdc_13 lnc_13 b2 dX4_memberAt_46 ?_
        refine lv_iload_n hx hb dX4_memberAt_47 rfl (lv_at hl 1 rfl) ?_
        refine lv_icmp_ne (tgt := 71) hx hb dX4_memberAt_48 (by decide) (fun b3 => ?_) (fun b3 => ?_)
        · rw [if_neg b3] at hm
          refine lv_iconst (v := 0) hx hb dX4_memberAt_71 (by decide) ?_
          refine lv_iadd hx hb dX4_memberAt_72 ?_
          refine lv_istore (lv' := [(4, .int (x4 + 0)), (0, .ref (gA G 8)), (1, .int x1), (2, .int x2), (3, .int x3), (5, .int x5)]) hx hb dX4_memberAt_73 hl (by decide) rfl (fun ls hl => ?_)
          refine lv_iinc (v := (x5 + 1)) (lv' := [(5, .int (x5 + 1)), (4, .int (x4 + 0)), (0, .ref (gA G 8)), (1, .int x1), (2, .int x2), (3, .int x3)]) hx hb dX4_memberAt_75 hl (k := 5) rfl rfl (by decide) rfl (fun ls hl => ?_)
          refine lv_goto (tgt := 29) hx hb dX4_memberAt_78 (by decide) ?_
          exact ih hm hP hS (lv_sub hl [2, 3, 4, 5, 1, 0] rfl)
        · rw [if_pos b3] at hm
          refine lv_aload_n hx hb dX4_memberAt_51 rfl (lv_at hl 0 rfl) ?_
          refine xg F 8 inX4 hP (kd_k kdc_8 (by decide)) (wc4 kdc_8) rfl (by decide) tk_561 rfl rfl dX4_memberAt_52 ?_
          refine lv_iload hx hb dX4_memberAt_55 (lv_at hl 5 rfl) ?_
          refine xil F hP kdc_14 lnc_14 b2 dX4_memberAt_57 ?_
          refine lv_aload_n hx hb dX4_memberAt_58 rfl (lv_at hl 0 rfl) ?_
          refine xg F 8 inX4 hP (kd_k kdc_8 (by decide)) (wc4 kdc_8) rfl (by decide) tk_561 rfl rfl dX4_memberAt_59 ?_
          refine lv_iload_n hx hb dX4_memberAt_62 rfl (lv_at hl 3 rfl) ?_
          by_cases b4 : (x3 < 0 ∨ 16 ≤ x3.toNatClampNeg)
          · rw [if_pos b4] at hm
            cases hm
          · rw [if_neg b4] at hm
            refine xil F hP kdc_14 lnc_14 b4 dX4_memberAt_63 ?_
            refine lv_icmp_ge (tgt := 71) hx hb dX4_memberAt_64 (by decide) (fun b5 => ?_) (fun b5 => ?_)
            · rw [if_pos b5] at hm
              refine lv_iconst (v := 0) hx hb dX4_memberAt_71 (by decide) ?_
              refine lv_iadd hx hb dX4_memberAt_72 ?_
              refine lv_istore (lv' := [(4, .int (x4 + 0)), (0, .ref (gA G 8)), (1, .int x1), (2, .int x2), (3, .int x3), (5, .int x5)]) hx hb dX4_memberAt_73 hl (by decide) rfl (fun ls hl => ?_)
              refine lv_iinc (v := (x5 + 1)) (lv' := [(5, .int (x5 + 1)), (4, .int (x4 + 0)), (0, .ref (gA G 8)), (1, .int x1), (2, .int x2), (3, .int x3)]) hx hb dX4_memberAt_75 hl (k := 5) rfl rfl (by decide) rfl (fun ls hl => ?_)
              refine lv_goto (tgt := 29) hx hb dX4_memberAt_78 (by decide) ?_
              exact ih hm hP hS (lv_sub hl [2, 3, 4, 5, 1, 0] rfl)
            · rw [if_neg b5] at hm
              refine lv_iconst (v := 1) hx hb dX4_memberAt_67 (by decide) ?_
              refine lv_goto (tgt := 72) hx hb dX4_memberAt_68 (by decide) ?_
              refine lv_iadd hx hb dX4_memberAt_72 ?_
              refine lv_istore (lv' := [(4, .int (x4 + 1)), (0, .ref (gA G 8)), (1, .int x1), (2, .int x2), (3, .int x3), (5, .int x5)]) hx hb dX4_memberAt_73 hl (by decide) rfl (fun ls hl => ?_)
              refine lv_iinc (v := (x5 + 1)) (lv' := [(5, .int (x5 + 1)), (4, .int (x4 + 1)), (0, .ref (gA G 8)), (1, .int x1), (2, .int x2), (3, .int x3)]) hx hb dX4_memberAt_75 hl (k := 5) rfl rfl (by decide) rfl (fun ls hl => ?_)
              refine lv_goto (tgt := 29) hx hb dX4_memberAt_78 (by decide) ?_
              exact ih hm hP hS (lv_sub hl [2, 3, 4, 5, 1, 0] rfl)
def f_X4_memberAt_2 (σ : St) (x1 : Int32) (x2 : Int32) : Nat → Int32 → Option RV
  | 0, _ => none
  | n + 1, x3 =>
    if (σ 8 2) ≤ x3 then
      some (.inl (some (.inl (-1))))
    else
      if x3 < 0 ∨ 16 ≤ x3.toNatClampNeg then none
      else
        if (σ 13 x3.toNatClampNeg) = x1 then
          f_X4_memberAt_29 σ x1 x2 x3 (fun y4_4 =>
            if y4_4 = x2 then
              some (.inl (some (.inl x3)))
            else
              f_X4_memberAt_2 σ x1 x2 n (x3 + 1)) 40 0 0
        else
          f_X4_memberAt_2 σ x1 x2 n (x3 + 1)
set_option maxHeartbeats 4000000 in
set_option maxRecDepth 100000 in
theorem w_X4_memberAt_2 {p : Program} {l : Launch} {e : Env} {s : State} {m : MethodId} {args : Array Value} {below : List Frame} {meth : Method} {c : Code} {G : GT} {lo : Nat → Int64} (F : Fx p l s args m meth c G cX4_memberAt 6 (some .int) RX4) {σ : St} {x1 : Int32} {x2 : Int32} : ∀ (n : Nat) {x3 : Int32} {r : RV}, f_X4_memberAt_2 σ x1 x2 n x3 = some r → ∀ {H : Heap} {locs : List Loc}, va_P (gD G) vwCl (wld G lo σ) H → va_S (gF G) s.heap H locs → ∀ {ls : Array Slot}, lv_has ls 6 [(0, .ref (gA G 8)), (1, .int x1), (2, .int x2), (3, .int x3)] → W p l e (RM 0 0 0 0) s m args below meth c H locs 0 0 (vx_MQ below (QCr G lo (r, σ)) (XCr G lo (r, σ)) args s 0 0 (gF G)) (F0 m 2 ls []) := by
  obtain ⟨hx, hb, hrt, hml, hown, hts, hlocks, hC, htab, hst⟩ := id F
  intro n
  induction n with
  | zero =>
    intro x3 r hm
    simp only [f_X4_memberAt_2] at hm
    cases hm
  | succ n ih =>
    intro x3 r hm H locs hP hS ls hl
    rw [f_X4_memberAt_2] at hm
    refine lv_iload_n hx hb dX4_memberAt_2 rfl (lv_at hl 3 rfl) ?_
    refine lv_aload_n hx hb dX4_memberAt_3 rfl (lv_at hl 0 rfl) ?_
    refine xg F 2 inX4 hP (kd_k kdc_8 (by decide)) (wc4 kdc_8) rfl (by decide) tk_555 rfl rfl dX4_memberAt_4 ?_
    refine lv_icmp_ge (tgt := 95) hx hb dX4_memberAt_7 (by decide) (fun b1 => ?_) (fun b1 => ?_)
    · rw [if_pos b1] at hm
      refine lv_iconst (v := (-1)) hx hb dX4_memberAt_95 (by decide) ?_
      exact xir F hP hS (congrArg (fun z => (z, σ)) (Option.some.inj hm).symm) (by decide) (by decide) dX4_memberAt_96
    · rw [if_neg b1] at hm
      refine lv_aload_n hx hb dX4_memberAt_10 rfl (lv_at hl 0 rfl) ?_
      refine xg F 7 inX4 hP (kd_k kdc_8 (by decide)) (wc4 kdc_8) rfl (by decide) tk_560 rfl rfl dX4_memberAt_11 ?_
      refine lv_iload_n hx hb dX4_memberAt_14 rfl (lv_at hl 3 rfl) ?_
      by_cases b2 : (x3 < 0 ∨ 16 ≤ x3.toNatClampNeg)
      · rw [if_pos b2] at hm
        cases hm
      · rw [if_neg b2] at hm
        refine xil F hP kdc_13 lnc_13 b2 dX4_memberAt_15 ?_
        refine lv_iload_n hx hb dX4_memberAt_16 rfl (lv_at hl 1 rfl) ?_
        refine lv_icmp_eq (tgt := 23) hx hb dX4_memberAt_17 (by decide) (fun b3 => ?_) (fun b3 => ?_)
        · rw [if_pos b3] at hm
          refine lv_iconst (v := 0) hx hb dX4_memberAt_23 (by decide) ?_
          refine lv_istore (lv' := [(4, .int 0), (0, .ref (gA G 8)), (1, .int x1), (2, .int x2), (3, .int x3)]) hx hb dX4_memberAt_24 hl (by decide) rfl (fun ls hl => ?_)
          refine lv_iconst (v := 0) hx hb dX4_memberAt_26 (by decide) ?_
          refine lv_istore (lv' := [(5, .int 0), (4, .int 0), (0, .ref (gA G 8)), (1, .int x1), (2, .int x2), (3, .int x3)]) hx hb dX4_memberAt_27 hl (by decide) rfl (fun ls hl => ?_)
          refine w_X4_memberAt_29 F ?_ 40 hm hP hS (lv_sub hl [2, 3, 4, 5, 1, 0] rfl)
          clear hm hP hS hl
          intro y4_4 r hm H locs hP hS ls hl
          refine lv_iload hx hb dX4_memberAt_81 (lv_at hl 4 rfl) ?_
          refine lv_iload_n hx hb dX4_memberAt_83 rfl (lv_at hl 2 rfl) ?_
          refine lv_icmp_ne (tgt := 89) hx hb dX4_memberAt_84 (by decide) (fun b5 => ?_) (fun b5 => ?_)
          · rw [if_neg b5] at hm
            refine lv_iinc (v := (x3 + 1)) (lv' := [(3, .int (x3 + 1)), (0, .ref (gA G 8)), (1, .int x1), (2, .int x2), (4, .int y4_4)]) hx hb dX4_memberAt_89 hl (k := 3) rfl rfl (by decide) rfl (fun ls hl => ?_)
            refine lv_goto (tgt := 2) hx hb dX4_memberAt_92 (by decide) ?_
            exact ih hm hP hS (lv_sub hl [1, 2, 3, 0] rfl)
          · rw [if_pos b5] at hm
            refine lv_iload_n hx hb dX4_memberAt_87 rfl (lv_at hl 3 rfl) ?_
            exact xir F hP hS (congrArg (fun z => (z, σ)) (Option.some.inj hm).symm) (by decide) (by decide) dX4_memberAt_88
        · rw [if_neg b3] at hm
          refine lv_goto (tgt := 89) hx hb dX4_memberAt_20 (by decide) ?_
          refine lv_iinc (v := (x3 + 1)) (lv' := [(3, .int (x3 + 1)), (0, .ref (gA G 8)), (1, .int x1), (2, .int x2)]) hx hb dX4_memberAt_89 hl (k := 3) rfl rfl (by decide) rfl (fun ls hl => ?_)
          refine lv_goto (tgt := 2) hx hb dX4_memberAt_92 (by decide) ?_
          exact ih hm hP hS (lv_sub hl [1, 2, 3, 0] rfl)
def f_X4_memberAt (σ : St) (x1 : Int32) (x2 : Int32) : Option RV :=
  f_X4_memberAt_2 σ x1 x2 40 0
set_option maxHeartbeats 4000000 in
set_option maxRecDepth 100000 in
theorem c_X4_memberAt {l : Launch} {G : GT} {σ : St} {x1 : Int32} {x2 : Int32} {r : RV} (hm : f_X4_memberAt σ x1 x2 = some r) : MC l G yX4_memberAt cX4_memberAt 6 (some .int) 0 0 0 0 [.inr 8, .inl x1, .inl x2] σ (r, σ) := by
  refine xbody (by decide) (Nat.le_of_ble_eq_true rfl) ?_
  intro lo p e s m args below meth c F hP ls hl
  have F : Fx p l s args m meth c G cX4_memberAt 6 (some .int) RX4 := F
  obtain ⟨hx, hb, hrt, hml, hown, hts, hlocks, hC, htab, hst⟩ := id F
  have hS : va_S (gF G) s.heap s.heap [] := va_S.rf
  have hl : lv_has ls 6 [(0, .ref (gA G 8)), (1, .int x1), (2, .int x2)] := hl
  unfold f_X4_memberAt at hm
  refine lv_iconst (v := 0) hx hb dX4_memberAt_0 (by decide) ?_
  refine lv_istore_n (lv' := [(3, .int 0), (0, .ref (gA G 8)), (1, .int x1), (2, .int x2)]) hx hb dX4_memberAt_1 rfl hl (by decide) rfl (fun ls hl => ?_)
  exact w_X4_memberAt_2 F 40 hm hP hS (lv_sub hl [1, 2, 3, 0] rfl)
/-! ===== X4_told ===== -/
def f_X4_told_118 (σ : St) (x1 : Int32) (x2 : Int32) : Nat → Int32 → Int32 → Int32 → Option (RV × St)
  | 0, _, _, _ => none
  | n + 1, x3, x4, x5 =>
    if (σ 8 2) ≤ x5 then
      if x2 = 3 then
        some (.inl (some (.inl x3)), σ)
      else
        some (.inl (some (.inl x4)), σ)
    else
      if x5 < 0 ∨ 16 ≤ x5.toNatClampNeg then none
      else
        if (σ 13 x5.toNatClampNeg) = x1 then
          if x3 ≤ (σ 9 x5.toNatClampNeg) then
            if (σ 15 x5.toNatClampNeg) = 0 then
              f_X4_told_118 σ x1 x2 n x3 (x4 + 0) (x5 + 1)
            else
              f_X4_told_118 σ x1 x2 n x3 (x4 + 1) (x5 + 1)
          else
            if (σ 15 x5.toNatClampNeg) = 0 then
              f_X4_told_118 σ x1 x2 n (σ 9 x5.toNatClampNeg) (x4 + 0) (x5 + 1)
            else
              f_X4_told_118 σ x1 x2 n (σ 9 x5.toNatClampNeg) (x4 + 1) (x5 + 1)
        else
          f_X4_told_118 σ x1 x2 n x3 x4 (x5 + 1)
set_option maxHeartbeats 4000000 in
set_option maxRecDepth 100000 in
theorem w_X4_told_118 {p : Program} {l : Launch} {e : Env} {s : State} {m : MethodId} {args : Array Value} {below : List Frame} {meth : Method} {c : Code} {G : GT} {lo : Nat → Int64} (F : Fx p l s args m meth c G cX4_told 6 (some .int) RX4) {σ : St} {x1 : Int32} {x2 : Int32} : ∀ (n : Nat) {x3 : Int32} {x4 : Int32} {x5 : Int32} {r : RV × St}, f_X4_told_118 σ x1 x2 n x3 x4 x5 = some r → ∀ {H : Heap} {locs : List Loc}, va_P (gD G) vwCl (wld G lo σ) H → va_S (gF G) s.heap H locs → ∀ {ls : Array Slot}, lv_has ls 6 [(0, .ref (gA G 8)), (1, .int x1), (2, .int x2), (3, .int x3), (4, .int x4), (5, .int x5)] → W p l e (RM 4 94 0 0) s m args below meth c H locs 0 0 (vx_MQ below (QCr G lo r) (XCr G lo r) args s 0 0 (gF G)) (F0 m 118 ls []) := by
  obtain ⟨hx, hb, hrt, hml, hown, hts, hlocks, hC, htab, hst⟩ := id F
  intro n
  induction n with
  | zero =>
    intro x3 x4 x5 r hm
    simp only [f_X4_told_118] at hm
    cases hm
  | succ n ih =>
    intro x3 x4 x5 r hm H locs hP hS ls hl
    rw [f_X4_told_118] at hm
    refine lv_iload hx hb dX4_told_118 (lv_at hl 5 rfl) ?_
    refine lv_aload_n hx hb dX4_told_120 rfl (lv_at hl 0 rfl) ?_
    refine xg F 2 inX4 hP (kd_k kdc_8 (by decide)) (wc4 kdc_8) rfl (by decide) tk_555 rfl rfl dX4_told_121 ?_
    refine lv_icmp_ge (tgt := 190) hx hb dX4_told_124 (by decide) (fun b1 => ?_) (fun b1 => ?_)
    · rw [if_pos b1] at hm
      refine lv_iload_n hx hb dX4_told_190 rfl (lv_at hl 2 rfl) ?_
      refine lv_iconst (v := 3) hx hb dX4_told_191 (by decide) ?_
      refine lv_icmp_ne (tgt := 199) hx hb dX4_told_192 (by decide) (fun b2 => ?_) (fun b2 => ?_)
      · rw [if_neg b2] at hm
        refine lv_iload hx hb dX4_told_199 (lv_at hl 4 rfl) ?_
        exact xir F hP hS (Option.some.inj hm).symm (by decide) (by decide) dX4_told_201
      · rw [if_pos b2] at hm
        refine lv_iload_n hx hb dX4_told_195 rfl (lv_at hl 3 rfl) ?_
        refine lv_goto (tgt := 201) hx hb dX4_told_196 (by decide) ?_
        exact xir F hP hS (Option.some.inj hm).symm (by decide) (by decide) dX4_told_201
    · rw [if_neg b1] at hm
      refine lv_aload_n hx hb dX4_told_127 rfl (lv_at hl 0 rfl) ?_
      refine xg F 7 inX4 hP (kd_k kdc_8 (by decide)) (wc4 kdc_8) rfl (by decide) tk_560 rfl rfl dX4_told_128 ?_
      refine lv_iload hx hb dX4_told_131 (lv_at hl 5 rfl) ?_
      by_cases b3 : (x5 < 0 ∨ 16 ≤ x5.toNatClampNeg)
      · rw [if_pos b3] at hm
        cases hm
      · rw [if_neg b3] at hm
        refine xil F hP kdc_13 lnc_13 b3 dX4_told_133 ?_
        refine lv_iload_n hx hb dX4_told_134 rfl (lv_at hl 1 rfl) ?_
        refine lv_icmp_eq (tgt := 141) hx hb dX4_told_135 (by decide) (fun b4 => ?_) (fun b4 => ?_)
        · rw [if_pos b4] at hm
          refine lv_aload_n hx hb dX4_told_141 rfl (lv_at hl 0 rfl) ?_
          refine xg F 3 inX4 hP (kd_k kdc_8 (by decide)) (wc4 kdc_8) rfl (by decide) tk_556 rfl rfl dX4_told_142 ?_
          refine lv_iload hx hb dX4_told_145 (lv_at hl 5 rfl) ?_
          refine xil F hP kdc_9 lnc_9 b3 dX4_told_147 ?_
          refine lv_iload_n hx hb dX4_told_148 rfl (lv_at hl 3 rfl) ?_
          refine lv_icmp_ge (tgt := 162) hx hb dX4_told_149 (by decide) (fun b5 => ?_) (fun b5 => ?_)
          · rw [if_pos b5] at hm
            refine lv_iload_n hx hb dX4_told_162 rfl (lv_at hl 3 rfl) ?_
            refine lv_istore_n (lv' := [(3, .int x3), (0, .ref (gA G 8)), (1, .int x1), (2, .int x2), (4, .int x4), (5, .int x5)]) hx hb dX4_told_163 rfl hl (by decide) rfl (fun ls hl => ?_)
            refine lv_iload hx hb dX4_told_164 (lv_at hl 4 rfl) ?_
            refine lv_aload_n hx hb dX4_told_166 rfl (lv_at hl 1 rfl) ?_
            refine xg F 9 inX4 hP (kd_k kdc_8 (by decide)) (wc4 kdc_8) rfl (by decide) tk_562 rfl rfl dX4_told_167 ?_
            refine lv_iload hx hb dX4_told_170 (lv_at hl 5 rfl) ?_
            refine xzl F hP kdc_15 lnc_15 b3 dX4_told_172 ?_
            refine lv_if_eq (tgt := 180) hx hb dX4_told_173 (by decide) (fun b6 => ?_) (fun b6 => ?_)
            · rw [if_pos b6] at hm
              refine lv_iconst (v := 0) hx hb dX4_told_180 (by decide) ?_
              refine lv_iadd hx hb dX4_told_181 ?_
              refine lv_istore (lv' := [(4, .int (x4 + 0)), (3, .int x3), (0, .ref (gA G 8)), (1, .int x1), (2, .int x2), (5, .int x5)]) hx hb dX4_told_182 hl (by decide) rfl (fun ls hl => ?_)
              refine lv_iinc (v := (x5 + 1)) (lv' := [(5, .int (x5 + 1)), (4, .int (x4 + 0)), (3, .int x3), (0, .ref (gA G 8)), (1, .int x1), (2, .int x2)]) hx hb dX4_told_184 hl (k := 5) rfl rfl (by decide) rfl (fun ls hl => ?_)
              refine lv_goto (tgt := 118) hx hb dX4_told_187 (by decide) ?_
              exact ih hm hP hS (lv_sub hl [3, 4, 5, 2, 1, 0] rfl)
            · rw [if_neg b6] at hm
              refine lv_iconst (v := 1) hx hb dX4_told_176 (by decide) ?_
              refine lv_goto (tgt := 181) hx hb dX4_told_177 (by decide) ?_
              refine lv_iadd hx hb dX4_told_181 ?_
              refine lv_istore (lv' := [(4, .int (x4 + 1)), (3, .int x3), (0, .ref (gA G 8)), (1, .int x1), (2, .int x2), (5, .int x5)]) hx hb dX4_told_182 hl (by decide) rfl (fun ls hl => ?_)
              refine lv_iinc (v := (x5 + 1)) (lv' := [(5, .int (x5 + 1)), (4, .int (x4 + 1)), (3, .int x3), (0, .ref (gA G 8)), (1, .int x1), (2, .int x2)]) hx hb dX4_told_184 hl (k := 5) rfl rfl (by decide) rfl (fun ls hl => ?_)
              refine lv_goto (tgt := 118) hx hb dX4_told_187 (by decide) ?_
              exact ih hm hP hS (lv_sub hl [3, 4, 5, 2, 1, 0] rfl)
          · rw [if_neg b5] at hm
            refine lv_aload_n hx hb dX4_told_152 rfl (lv_at hl 0 rfl) ?_
            refine xg F 3 inX4 hP (kd_k kdc_8 (by decide)) (wc4 kdc_8) rfl (by decide) tk_556 rfl rfl dX4_told_153 ?_
            refine lv_iload hx hb dX4_told_156 (lv_at hl 5 rfl) ?_
            refine xil F hP kdc_9 lnc_9 b3 dX4_told_158 ?_
            refine lv_goto (tgt := 163) hx hb dX4_told_159 (by decide) ?_
            refine lv_istore_n (lv' := [(3, .int (σ 9 x5.toNatClampNeg)), (0, .ref (gA G 8)), (1, .int x1), (2, .int x2), (4, .int x4), (5, .int x5)]) hx hb dX4_told_163 rfl hl (by decide) rfl (fun ls hl => ?_)
            refine lv_iload hx hb dX4_told_164 (lv_at hl 4 rfl) ?_
            refine lv_aload_n hx hb dX4_told_166 rfl (lv_at hl 1 rfl) ?_
            refine xg F 9 inX4 hP (kd_k kdc_8 (by decide)) (wc4 kdc_8) rfl (by decide) tk_562 rfl rfl dX4_told_167 ?_
            refine lv_iload hx hb dX4_told_170 (lv_at hl 5 rfl) ?_
            refine xzl F hP kdc_15 lnc_15 b3 dX4_told_172 ?_
            refine lv_if_eq (tgt := 180) hx hb dX4_told_173 (by decide) (fun b7 => ?_) (fun b7 => ?_)
            · rw [if_pos b7] at hm
              refine lv_iconst (v := 0) hx hb dX4_told_180 (by decide) ?_
              refine lv_iadd hx hb dX4_told_181 ?_
              refine lv_istore (lv' := [(4, .int (x4 + 0)), (3, .int (σ 9 x5.toNatClampNeg)), (0, .ref (gA G 8)), (1, .int x1), (2, .int x2), (5, .int x5)]) hx hb dX4_told_182 hl (by decide) rfl (fun ls hl => ?_)
              refine lv_iinc (v := (x5 + 1)) (lv' := [(5, .int (x5 + 1)), (4, .int (x4 + 0)), (3, .int (σ 9 x5.toNatClampNeg)), (0, .ref (gA G 8)), (1, .int x1), (2, .int x2)]) hx hb dX4_told_184 hl (k := 5) rfl rfl (by decide) rfl (fun ls hl => ?_)
              refine lv_goto (tgt := 118) hx hb dX4_told_187 (by decide) ?_
              exact ih hm hP hS (lv_sub hl [3, 4, 5, 2, 1, 0] rfl)
            · rw [if_neg b7] at hm
              refine lv_iconst (v := 1) hx hb dX4_told_176 (by decide) ?_
              refine lv_goto (tgt := 181) hx hb dX4_told_177 (by decide) ?_
              refine lv_iadd hx hb dX4_told_181 ?_
              refine lv_istore (lv' := [(4, .int (x4 + 1)), (3, .int (σ 9 x5.toNatClampNeg)), (0, .ref (gA G 8)), (1, .int x1), (2, .int x2), (5, .int x5)]) hx hb dX4_told_182 hl (by decide) rfl (fun ls hl => ?_)
              refine lv_iinc (v := (x5 + 1)) (lv' := [(5, .int (x5 + 1)), (4, .int (x4 + 1)), (3, .int (σ 9 x5.toNatClampNeg)), (0, .ref (gA G 8)), (1, .int x1), (2, .int x2)]) hx hb dX4_told_184 hl (k := 5) rfl rfl (by decide) rfl (fun ls hl => ?_)
              refine lv_goto (tgt := 118) hx hb dX4_told_187 (by decide) ?_
              exact ih hm hP hS (lv_sub hl [3, 4, 5, 2, 1, 0] rfl)
        · rw [if_neg b4] at hm
          refine lv_goto (tgt := 184) hx hb dX4_told_138 (by decide) ?_
          refine lv_iinc (v := (x5 + 1)) (lv' := [(5, .int (x5 + 1)), (0, .ref (gA G 8)), (1, .int x1), (2, .int x2), (3, .int x3), (4, .int x4)]) hx hb dX4_told_184 hl (k := 5) rfl rfl (by decide) rfl (fun ls hl => ?_)
          refine lv_goto (tgt := 118) hx hb dX4_told_187 (by decide) ?_
          exact ih hm hP hS (lv_sub hl [1, 2, 3, 4, 5, 0] rfl)
def f_X4_told_28 (σ : St) (x1 : Int32) (x2 : Int32) (s1 : Int32) : Option (RV × St) :=
  if ((up2 σ 8 0 s1) 8 0) ≤ 0 then
    if x2 = 0 then
      ri (f_X4_secondsOf (up2 σ 8 0 s1) x1) (fun x13_ =>
        some (.inl (some (.inl x13_)), (up2 σ 8 0 s1)))
    else
      if x2 = 1 then
        ri (f_X4_savedOf (up2 σ 8 0 s1) x1) (fun x12_ =>
          some (.inl (some (.inl x12_)), (up2 σ 8 0 s1)))
      else
        if x2 = 2 then
          ri (f_X4_sizeOf (up2 σ 8 0 s1) x1) (fun x11_ =>
            some (.inl (some (.inl x11_)), (up2 σ 8 0 s1)))
        else
          if x2 = 4 then
            ri (f_X4_memberAt (up2 σ 8 0 s1) x1 0) (fun x9_ =>
              if x9_ < 0 ∨ 16 ≤ x9_.toNatClampNeg then none
              else
                some (.inl (some (.inl ((up2 σ 8 0 s1) 12 x9_.toNatClampNeg))), (up2 σ 8 0 s1)))
          else
            if x2 = 5 then
              if x1 < 0 ∨ 17 ≤ x1.toNatClampNeg then none
              else
                if ((up2 σ 8 0 s1) 20 x1.toNatClampNeg) = 0 then
                  some (.inl (some (.inl 0)), (up2 σ 8 0 s1))
                else
                  some (.inl (some (.inl 1)), (up2 σ 8 0 s1))
            else
              f_X4_told_118 (up2 σ 8 0 s1) x1 x2 40 100000 0 0
  else
    some (.inl (some (.inl 0)), (up2 σ 8 0 s1))
set_option maxHeartbeats 4000000 in
set_option maxRecDepth 100000 in
theorem w_X4_told_28 {p : Program} {l : Launch} {e : Env} {s : State} {m : MethodId} {args : Array Value} {below : List Frame} {meth : Method} {c : Code} {G : GT} {lo : Nat → Int64} (F : Fx p l s args m meth c G cX4_told 6 (some .int) RX4) {σ : St} {x1 : Int32} {x2 : Int32} {s1 : Int32} {r : RV × St} (hm : f_X4_told_28 σ x1 x2 s1 = some r) {H : Heap} {locs : List Loc} (hP : va_P (gD G) vwCl (wld G lo σ) H) (hS : va_S (gF G) s.heap H locs) {ls : Array Slot} (hl : lv_has ls 6 [(0, .ref (gA G 8)), (1, .int x1), (2, .int x2)]) : W p l e (RM 4 94 0 0) s m args below meth c H locs 0 0 (vx_MQ below (QCr G lo r) (XCr G lo r) args s 0 0 (gF G)) (F0 m 28 ls [.int s1, .ref (gA G 8)]) := by
  obtain ⟨hx, hb, hrt, hml, hown, hts, hlocks, hC, htab, hst⟩ := id F
  unfold f_X4_told_28 at hm
  refine xp F (v := s1) (ty := .int) 0 inX4 tyX4_ok nmX4 hP hS (kd_k kdc_8 (by decide)) (wc4 kdc_8) (wu4_0 kdc_8) rfl (by decide) tk_553 rfl rfl rfl rfl rfl (Nat.le_of_ble_eq_true rfl) dX4_told_28 (fun H locs hP hS => ?_)
  refine lv_aload_n hx hb dX4_told_31 rfl (lv_at hl 0 rfl) ?_
  refine xg F 0 inX4 hP (kd_k kdc_8 (by decide)) (wc4 kdc_8) rfl (by decide) tk_553 rfl rfl dX4_told_32 ?_
  refine lv_if_le (tgt := 40) hx hb dX4_told_35 (by decide) (fun b1 => ?_) (fun b1 => ?_)
  · rw [if_pos b1] at hm
    refine lv_iload_n hx hb dX4_told_40 rfl (lv_at hl 2 rfl) ?_
    refine lv_if_ne (tgt := 50) hx hb dX4_told_41 (by decide) (fun b2 => ?_) (fun b2 => ?_)
    · rw [if_neg b2] at hm
      refine lv_iload_n hx hb dX4_told_50 rfl (lv_at hl 2 rfl) ?_
      refine lv_iconst (v := 1) hx hb dX4_told_51 (by decide) ?_
      refine lv_icmp_ne (tgt := 61) hx hb dX4_told_52 (by decide) (fun b3 => ?_) (fun b3 => ?_)
      · rw [if_neg b3] at hm
        refine lv_iload_n hx hb dX4_told_61 rfl (lv_at hl 2 rfl) ?_
        refine lv_iconst (v := 2) hx hb dX4_told_62 (by decide) ?_
        refine lv_icmp_ne (tgt := 72) hx hb dX4_told_63 (by decide) (fun b4 => ?_) (fun b4 => ?_)
        · rw [if_neg b4] at hm
          refine lv_iload_n hx hb dX4_told_72 rfl (lv_at hl 2 rfl) ?_
          refine lv_iconst (v := 4) hx hb dX4_told_73 (by decide) ?_
          refine lv_icmp_ne (tgt := 89) hx hb dX4_told_74 (by decide) (fun b5 => ?_) (fun b5 => ?_)
          · rw [if_neg b5] at hm
            refine lv_iload_n hx hb dX4_told_89 rfl (lv_at hl 2 rfl) ?_
            refine lv_iconst (v := 5) hx hb dX4_told_90 (by decide) ?_
            refine lv_icmp_ne (tgt := 109) hx hb dX4_told_91 (by decide) (fun b6 => ?_) (fun b6 => ?_)
            · rw [if_neg b6] at hm
              refine lv_ldc (v := 100000) hx hb hown (hts _ tk_632) dX4_told_109 ?_
              refine lv_istore_n (lv' := [(3, .int 100000), (0, .ref (gA G 8)), (1, .int x1), (2, .int x2)]) hx hb dX4_told_111 rfl hl (by decide) rfl (fun ls hl => ?_)
              refine lv_iconst (v := 0) hx hb dX4_told_112 (by decide) ?_
              refine lv_istore (lv' := [(4, .int 0), (3, .int 100000), (0, .ref (gA G 8)), (1, .int x1), (2, .int x2)]) hx hb dX4_told_113 hl (by decide) rfl (fun ls hl => ?_)
              refine lv_iconst (v := 0) hx hb dX4_told_115 (by decide) ?_
              refine lv_istore (lv' := [(5, .int 0), (4, .int 0), (3, .int 100000), (0, .ref (gA G 8)), (1, .int x1), (2, .int x2)]) hx hb dX4_told_116 hl (by decide) rfl (fun ls hl => ?_)
              exact w_X4_told_118 F 40 hm hP hS (lv_sub hl [3, 4, 5, 2, 1, 0] rfl)
            · rw [if_pos b6] at hm
              refine lv_aload_n hx hb dX4_told_94 rfl (lv_at hl 0 rfl) ?_
              refine xg F 17 inX4 hP (kd_k kdc_8 (by decide)) (wc4 kdc_8) rfl (by decide) tk_570 rfl rfl dX4_told_95 ?_
              refine lv_iload_n hx hb dX4_told_98 rfl (lv_at hl 1 rfl) ?_
              by_cases b7 : (x1 < 0 ∨ 17 ≤ x1.toNatClampNeg)
              · rw [if_pos b7] at hm
                cases hm
              · rw [if_neg b7] at hm
                refine xzl F hP kdc_20 lnc_20 b7 dX4_told_99 ?_
                refine lv_if_eq (tgt := 107) hx hb dX4_told_100 (by decide) (fun b8 => ?_) (fun b8 => ?_)
                · rw [if_pos b8] at hm
                  refine lv_iconst (v := 0) hx hb dX4_told_107 (by decide) ?_
                  exact xir F hP hS (Option.some.inj hm).symm (by decide) (by decide) dX4_told_108
                · rw [if_neg b8] at hm
                  refine lv_iconst (v := 1) hx hb dX4_told_103 (by decide) ?_
                  refine lv_goto (tgt := 108) hx hb dX4_told_104 (by decide) ?_
                  exact xir F hP hS (Option.some.inj hm).symm (by decide) (by decide) dX4_told_108
          · rw [if_pos b5] at hm
            refine lv_aload_n hx hb dX4_told_77 rfl (lv_at hl 0 rfl) ?_
            refine xg F 6 inX4 hP (kd_k kdc_8 (by decide)) (wc4 kdc_8) rfl (by decide) tk_559 rfl rfl dX4_told_78 ?_
            refine lv_aload_n hx hb dX4_told_81 rfl (lv_at hl 0 rfl) ?_
            refine lv_iload_n hx hb dX4_told_82 rfl (lv_at hl 1 rfl) ?_
            refine lv_iconst (v := 0) hx hb dX4_told_83 (by decide) ?_
            obtain ⟨x9_, h9, hm⟩ := ri_inv hm
            refine xV F (c_X4_memberAt h9) tk_731 tk_728 tk_730 tu_50 tk_6 rfl 2 (by decide +kernel) rfl ⟨Nat.le_of_ble_eq_true rfl, Nat.le_of_ble_eq_true rfl⟩ hP hS (kd_k kdc_8 (by decide)) (wc4 kdc_8) rfl hl.1 rfl (Nat.le_of_ble_eq_true rfl) dX4_told_84 ⟨Nat.le_of_ble_eq_true rfl, Nat.le_of_ble_eq_true rfl⟩ (fun v hv H locs hP hS => ?_) (fun E hE => by cases hE)
            cases hv
            replace hP : va_P (gD G) vwCl (wld G lo (up2 σ 8 0 s1)) H := hP
            refine W.eq (g2 := F0 m 87 ls [.int x9_, .ref (gA G 12)]) rfl ?_
            by_cases b10 : (x9_ < 0 ∨ 16 ≤ x9_.toNatClampNeg)
            · rw [if_pos b10] at hm
              cases hm
            · rw [if_neg b10] at hm
              refine xil F hP kdc_12 lnc_12 b10 dX4_told_87 ?_
              exact xir F hP hS (Option.some.inj hm).symm (by decide) (by decide) dX4_told_88
        · rw [if_pos b4] at hm
          refine lv_aload_n hx hb dX4_told_66 rfl (lv_at hl 0 rfl) ?_
          refine lv_iload_n hx hb dX4_told_67 rfl (lv_at hl 1 rfl) ?_
          obtain ⟨x11_, h11, hm⟩ := ri_inv hm
          refine xV F (c_X4_sizeOf h11) tk_715 tk_712 tk_714 tu_46 tk_6 rfl 1 (by decide +kernel) rfl ⟨Nat.le_of_ble_eq_true rfl, Nat.le_of_ble_eq_true rfl⟩ hP hS (kd_k kdc_8 (by decide)) (wc4 kdc_8) rfl hl.1 rfl (Nat.le_of_ble_eq_true rfl) dX4_told_68 ⟨Nat.le_of_ble_eq_true rfl, Nat.le_of_ble_eq_true rfl⟩ (fun v hv H locs hP hS => ?_) (fun E hE => by cases hE)
          cases hv
          replace hP : va_P (gD G) vwCl (wld G lo (up2 σ 8 0 s1)) H := hP
          refine W.eq (g2 := F0 m 71 ls [.int x11_]) rfl ?_
          exact xir F hP hS (Option.some.inj hm).symm (by decide) (by decide) dX4_told_71
      · rw [if_pos b3] at hm
        refine lv_aload_n hx hb dX4_told_55 rfl (lv_at hl 0 rfl) ?_
        refine lv_iload_n hx hb dX4_told_56 rfl (lv_at hl 1 rfl) ?_
        obtain ⟨x12_, h12, hm⟩ := ri_inv hm
        refine xV F (c_X4_savedOf h12) tk_723 tk_720 tk_722 tu_48 tk_6 rfl 1 (by decide +kernel) rfl ⟨Nat.le_of_ble_eq_true rfl, Nat.le_of_ble_eq_true rfl⟩ hP hS (kd_k kdc_8 (by decide)) (wc4 kdc_8) rfl hl.1 rfl (Nat.le_of_ble_eq_true rfl) dX4_told_57 ⟨Nat.le_of_ble_eq_true rfl, Nat.le_of_ble_eq_true rfl⟩ (fun v hv H locs hP hS => ?_) (fun E hE => by cases hE)
        cases hv
        replace hP : va_P (gD G) vwCl (wld G lo (up2 σ 8 0 s1)) H := hP
        refine W.eq (g2 := F0 m 60 ls [.int x12_]) rfl ?_
        exact xir F hP hS (Option.some.inj hm).symm (by decide) (by decide) dX4_told_60
    · rw [if_pos b2] at hm
      refine lv_aload_n hx hb dX4_told_44 rfl (lv_at hl 0 rfl) ?_
      refine lv_iload_n hx hb dX4_told_45 rfl (lv_at hl 1 rfl) ?_
      obtain ⟨x13_, h13, hm⟩ := ri_inv hm
      refine xV F (c_X4_secondsOf h13) tk_719 tk_716 tk_718 tu_47 tk_6 rfl 1 (by decide +kernel) rfl ⟨Nat.le_of_ble_eq_true rfl, Nat.le_of_ble_eq_true rfl⟩ hP hS (kd_k kdc_8 (by decide)) (wc4 kdc_8) rfl hl.1 rfl (Nat.le_of_ble_eq_true rfl) dX4_told_46 ⟨Nat.le_of_ble_eq_true rfl, Nat.le_of_ble_eq_true rfl⟩ (fun v hv H locs hP hS => ?_) (fun E hE => by cases hE)
      cases hv
      replace hP : va_P (gD G) vwCl (wld G lo (up2 σ 8 0 s1)) H := hP
      refine W.eq (g2 := F0 m 49 ls [.int x13_]) rfl ?_
      exact xir F hP hS (Option.some.inj hm).symm (by decide) (by decide) dX4_told_49
  · rw [if_neg b1] at hm
    refine lv_iconst (v := 0) hx hb dX4_told_38 (by decide) ?_
    exact xir F hP hS (Option.some.inj hm).symm (by decide) (by decide) dX4_told_39
def f_X4_told (σ : St) (x1 : Int32) (x2 : Int32) : Option (RV × St) :=
  ri (f_X4_isWave σ x1) (fun x1_ =>
    if x1_ = 0 then
      f_X4_told_28 σ x1 x2 1
    else
      ri (f_X4_in σ x2 0 6) (fun x3_ =>
        if x3_ = 0 then
          f_X4_told_28 σ x1 x2 2
        else
          f_X4_told_28 σ x1 x2 0))
set_option maxHeartbeats 4000000 in
set_option maxRecDepth 100000 in
theorem c_X4_told {l : Launch} {G : GT} {σ : St} {x1 : Int32} {x2 : Int32} {r : RV × St} (hm : f_X4_told σ x1 x2 = some r) : MC l G yX4_told cX4_told 6 (some .int) 4 94 0 0 [.inr 8, .inl x1, .inl x2] σ r := by
  refine xbody (by decide) (Nat.le_of_ble_eq_true rfl) ?_
  intro lo p e s m args below meth c F hP ls hl
  have F : Fx p l s args m meth c G cX4_told 6 (some .int) RX4 := F
  obtain ⟨hx, hb, hrt, hml, hown, hts, hlocks, hC, htab, hst⟩ := id F
  have hS : va_S (gF G) s.heap s.heap [] := va_S.rf
  have hl : lv_has ls 6 [(0, .ref (gA G 8)), (1, .int x1), (2, .int x2)] := hl
  unfold f_X4_told at hm
  refine lv_aload_n hx hb dX4_told_0 rfl (lv_at hl 0 rfl) ?_
  refine lv_aload_n hx hb dX4_told_1 rfl (lv_at hl 0 rfl) ?_
  refine lv_iload_n hx hb dX4_told_2 rfl (lv_at hl 1 rfl) ?_
  obtain ⟨x1_, h1, hm⟩ := ri_inv hm
  refine xV F (c_X4_isWave h1) tk_711 tk_708 tk_710 tu_45 tk_6 rfl 1 (by decide +kernel) rfl ⟨Nat.le_of_ble_eq_true rfl, Nat.le_of_ble_eq_true rfl⟩ hP hS (kd_k kdc_8 (by decide)) (wc4 kdc_8) rfl hl.1 rfl (Nat.le_of_ble_eq_true rfl) dX4_told_3 ⟨Nat.le_of_ble_eq_true rfl, Nat.le_of_ble_eq_true rfl⟩ (fun v hv H locs hP hS => ?_) (fun E hE => by cases hE)
  cases hv
  replace hP : va_P (gD G) vwCl (wld G lo σ) H := hP
  refine W.eq (g2 := F0 m 6 ls [.int x1_, .ref (gA G 8)]) rfl ?_
  refine lv_if_ne (tgt := 13) hx hb dX4_told_6 (by decide) (fun b2 => ?_) (fun b2 => ?_)
  · rw [if_neg b2] at hm
    refine lv_iload_n hx hb dX4_told_13 rfl (lv_at hl 2 rfl) ?_
    refine lv_iconst (v := 0) hx hb dX4_told_14 (by decide) ?_
    refine lv_bipush (v := 6) hx hb dX4_told_15 (by decide) ?_
    obtain ⟨x3_, h3, hm⟩ := ri_inv hm
    refine xSt F (c_X4_in h3) tk_635 tk_633 tk_634 tk_6 rfl 3 (by decide +kernel) rfl ⟨Nat.le_of_ble_eq_true rfl, Nat.le_of_ble_eq_true rfl⟩ hP hS hl.1 rfl (Nat.le_of_ble_eq_true rfl) dX4_told_17 ⟨Nat.le_of_ble_eq_true rfl, Nat.le_of_ble_eq_true rfl⟩ (fun v hv H locs hP hS => ?_) (fun E hE => by cases hE)
    cases hv
    replace hP : va_P (gD G) vwCl (wld G lo σ) H := hP
    refine W.eq (g2 := F0 m 20 ls [.int x3_, .ref (gA G 8)]) rfl ?_
    refine lv_if_ne (tgt := 27) hx hb dX4_told_20 (by decide) (fun b4 => ?_) (fun b4 => ?_)
    · rw [if_neg b4] at hm
      refine lv_iconst (v := 0) hx hb dX4_told_27 (by decide) ?_
      exact w_X4_told_28 F hm hP hS (lv_sub hl [0, 1, 2] rfl)
    · rw [if_pos b4] at hm
      refine lv_iconst (v := 2) hx hb dX4_told_23 (by decide) ?_
      refine lv_goto (tgt := 28) hx hb dX4_told_24 (by decide) ?_
      exact w_X4_told_28 F hm hP hS (lv_sub hl [0, 1, 2] rfl)
  · rw [if_pos b2] at hm
    refine lv_iconst (v := 1) hx hb dX4_told_9 (by decide) ?_
    refine lv_goto (tgt := 28) hx hb dX4_told_10 (by decide) ?_
    exact w_X4_told_28 F hm hP hS (lv_sub hl [0, 1, 2] rfl)
