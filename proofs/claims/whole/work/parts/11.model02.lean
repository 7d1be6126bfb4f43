/-! ===== X4_member ===== -/
def f_X4_member_18 (σ : St) (x1 : Int32) (x2 : Int32) (s1 : Int32) : Option (RV × St) :=
  if ((up2 σ 8 0 s1) 8 0) ≤ 0 then
    ri (f_X4_memberAt (up2 σ 8 0 s1) x1 x2) (fun x2_ =>
      if x2_ = (-1) then
        if ((up2 (up2 σ 8 0 s1) 8 0 1) 8 0) ≤ 0 then
          some (.inl (some (.inl x2_)), (up2 (up2 σ 8 0 s1) 8 0 1))
        else
          some (.inl (some (.inl 0)), (up2 (up2 σ 8 0 s1) 8 0 1))
      else
        if ((up2 (up2 σ 8 0 s1) 8 0 0) 8 0) ≤ 0 then
          some (.inl (some (.inl x2_)), (up2 (up2 σ 8 0 s1) 8 0 0))
        else
          some (.inl (some (.inl 0)), (up2 (up2 σ 8 0 s1) 8 0 0)))
  else
    some (.inl (some (.inl 0)), (up2 σ 8 0 s1))
set_option maxHeartbeats 4000000 in
set_option maxRecDepth 100000 in
theorem w_X4_member_18 {p : Program} {l : Launch} {e : Env} {s : State} {m : MethodId} {args : Array Value} {below : List Frame} {meth : Method} {c : Code} {G : GT} {lo : Nat → Int64} (F : Fx p l s args m meth c G cX4_member 4 (some .int) RX4) {σ : St} {x1 : Int32} {x2 : Int32} {s1 : Int32} {r : RV × St} (hm : f_X4_member_18 σ x1 x2 s1 = some r) {H : Heap} {locs : List Loc} (hP : va_P (gD G) vwCl (wld G lo σ) H) (hS : va_S (gF G) s.heap H locs) {ls : Array Slot} (hl : lv_has ls 4 [(0, .ref (gA G 8)), (1, .int x1), (2, .int x2)]) : W p l e (RM 2 44 0 0) s m args below meth c H locs 0 0 (vx_MQ below (QCr G lo r) (XCr G lo r) args s 0 0 (gF G)) (F0 m 18 ls [.int s1, .ref (gA G 8)]) := by
  obtain ⟨hx, hb, hrt, hml, hown, hts, hlocks, hC, htab, hst⟩ := id F
  unfold f_X4_member_18 at hm
  refine xp F (v := s1) (ty := .int) 0 inX4 tyX4_ok nmX4 hP hS (kd_k kdc_8 (by decide)) (wc4 kdc_8) (wu4_0 kdc_8) rfl (by decide) tk_553 rfl rfl rfl rfl rfl (Nat.le_of_ble_eq_true rfl) dX4_member_18 (fun H locs hP hS => ?_)
  refine lv_aload_n hx hb dX4_member_21 rfl (lv_at hl 0 rfl) ?_
  refine xg F 0 inX4 hP (kd_k kdc_8 (by decide)) (wc4 kdc_8) rfl (by decide) tk_553 rfl rfl dX4_member_22 ?_
  refine lv_if_le (tgt := 30) hx hb dX4_member_25 (by decide) (fun b1 => ?_) (fun b1 => ?_)
  · rw [if_pos b1] at hm
    refine lv_aload_n hx hb dX4_member_30 rfl (lv_at hl 0 rfl) ?_
    refine lv_iload_n hx hb dX4_member_31 rfl (lv_at hl 1 rfl) ?_
    refine lv_iload_n hx hb dX4_member_32 rfl (lv_at hl 2 rfl) ?_
    obtain ⟨x2_, h2, hm⟩ := ri_inv hm
    refine xV F (c_X4_memberAt h2) tk_731 tk_728 tk_730 tu_50 tk_6 rfl 2 (by decide +kernel) rfl ⟨Nat.le_of_ble_eq_true rfl, Nat.le_of_ble_eq_true rfl⟩ hP hS (kd_k kdc_8 (by decide)) (wc4 kdc_8) rfl hl.1 rfl (Nat.le_of_ble_eq_true rfl) dX4_member_33 ⟨Nat.le_of_ble_eq_true rfl, Nat.le_of_ble_eq_true rfl⟩ (fun v hv H locs hP hS => ?_) (fun E hE => by cases hE)
    cases hv
    replace hP : va_P (gD G) vwCl (wld G lo (up2 σ 8 0 s1)) H := hP
    refine W.eq (g2 := F0 m 36 ls [.int x2_]) rfl ?_
    refine lv_istore_n (lv' := [(3, .int x2_), (0, .ref (gA G 8)), (1, .int x1), (2, .int x2)]) hx hb dX4_member_36 rfl hl (by decide) rfl (fun ls hl => ?_)
    refine lv_aload_n hx hb dX4_member_37 rfl (lv_at hl 1 rfl) ?_
    refine lv_iload_n hx hb dX4_member_38 rfl (lv_at hl 0 rfl) ?_
    refine lv_iconst (v := (-1)) hx hb dX4_member_39 (by decide) ?_
    refine lv_icmp_ne (tgt := 47) hx hb dX4_member_40 (by decide) (fun b3 => ?_) (fun b3 => ?_)
    · rw [if_neg b3] at hm
      refine lv_iconst (v := 0) hx hb dX4_member_47 (by decide) ?_
      refine xp F (v := 0) (ty := .int) 0 inX4 tyX4_ok nmX4 hP hS (kd_k kdc_8 (by decide)) (wc4 kdc_8) (wu4_0 kdc_8) rfl (by decide) tk_553 rfl rfl rfl rfl rfl (Nat.le_of_ble_eq_true rfl) dX4_member_48 (fun H locs hP hS => ?_)
      refine lv_aload_n hx hb dX4_member_51 rfl (lv_at hl 1 rfl) ?_
      refine xg F 0 inX4 hP (kd_k kdc_8 (by decide)) (wc4 kdc_8) rfl (by decide) tk_553 rfl rfl dX4_member_52 ?_
      refine lv_if_le (tgt := 62) hx hb dX4_member_55 (by decide) (fun b4 => ?_) (fun b4 => ?_)
      · rw [if_pos b4] at hm
        refine lv_iload_n hx hb dX4_member_62 rfl (lv_at hl 0 rfl) ?_
        exact xir F hP hS (Option.some.inj hm).symm (by decide) (by decide) dX4_member_63
      · rw [if_neg b4] at hm
        refine lv_iconst (v := 0) hx hb dX4_member_58 (by decide) ?_
        refine lv_goto (tgt := 63) hx hb dX4_member_59 (by decide) ?_
        exact xir F hP hS (Option.some.inj hm).symm (by decide) (by decide) dX4_member_63
    · rw [if_pos b3] at hm
      refine lv_iconst (v := 1) hx hb dX4_member_43 (by decide) ?_
      refine lv_goto (tgt := 48) hx hb dX4_member_44 (by decide) ?_
      refine xp F (v := 1) (ty := .int) 0 inX4 tyX4_ok nmX4 hP hS (kd_k kdc_8 (by decide)) (wc4 kdc_8) (wu4_0 kdc_8) rfl (by decide) tk_553 rfl rfl rfl rfl rfl (Nat.le_of_ble_eq_true rfl) dX4_member_48 (fun H locs hP hS => ?_)
      refine lv_aload_n hx hb dX4_member_51 rfl (lv_at hl 1 rfl) ?_
      refine xg F 0 inX4 hP (kd_k kdc_8 (by decide)) (wc4 kdc_8) rfl (by decide) tk_553 rfl rfl dX4_member_52 ?_
      refine lv_if_le (tgt := 62) hx hb dX4_member_55 (by decide) (fun b5 => ?_) (fun b5 => ?_)
      · rw [if_pos b5] at hm
        refine lv_iload_n hx hb dX4_member_62 rfl (lv_at hl 0 rfl) ?_
        exact xir F hP hS (Option.some.inj hm).symm (by decide) (by decide) dX4_member_63
      · rw [if_neg b5] at hm
        refine lv_iconst (v := 0) hx hb dX4_member_58 (by decide) ?_
        refine lv_goto (tgt := 63) hx hb dX4_member_59 (by decide) ?_
        exact xir F hP hS (Option.some.inj hm).symm (by decide) (by decide) dX4_member_63
  · rw [if_neg b1] at hm
    refine lv_iconst (v := 0) hx hb dX4_member_28 (by decide) ?_
    exact xir F hP hS (Option.some.inj hm).symm (by decide) (by decide) dX4_member_29
def f_X4_member_13 (σ : St) (x1 : Int32) (x2 : Int32) : Option (RV × St) :=
  f_X4_member_18 σ x1 x2 1
set_option maxHeartbeats 4000000 in
set_option maxRecDepth 100000 in
theorem w_X4_member_13 {p : Program} {l : Launch} {e : Env} {s : State} {m : MethodId} {args : Array Value} {below : List Frame} {meth : Method} {c : Code} {G : GT} {lo : Nat → Int64} (F : Fx p l s args m meth c G cX4_member 4 (some .int) RX4) {σ : St} {x1 : Int32} {x2 : Int32} {r : RV × St} (hm : f_X4_member_13 σ x1 x2 = some r) {H : Heap} {locs : List Loc} (hP : va_P (gD G) vwCl (wld G lo σ) H) (hS : va_S (gF G) s.heap H locs) {ls : Array Slot} (hl : lv_has ls 4 [(0, .ref (gA G 8)), (1, .int x1), (2, .int x2)]) : W p l e (RM 2 44 0 0) s m args below meth c H locs 0 0 (vx_MQ below (QCr G lo r) (XCr G lo r) args s 0 0 (gF G)) (F0 m 13 ls [.ref (gA G 8)]) := by
  obtain ⟨hx, hb, hrt, hml, hown, hts, hlocks, hC, htab, hst⟩ := id F
  unfold f_X4_member_13 at hm
  refine lv_iconst (v := 1) hx hb dX4_member_13 (by decide) ?_
  refine lv_goto (tgt := 18) hx hb dX4_member_14 (by decide) ?_
  exact w_X4_member_18 F hm hP hS (lv_sub hl [0, 1, 2] rfl)
def f_X4_member (σ : St) (x1 : Int32) (x2 : Int32) : Option (RV × St) :=
  ri (f_X4_isWave σ x1) (fun x1_ =>
    if x1_ = 0 then
      f_X4_member_13 σ x1 x2
    else
      if 0 ≤ x2 then
        f_X4_member_18 σ x1 x2 0
      else
        f_X4_member_13 σ x1 x2)
set_option maxHeartbeats 4000000 in
set_option maxRecDepth 100000 in
theorem c_X4_member {l : Launch} {G : GT} {σ : St} {x1 : Int32} {x2 : Int32} {r : RV × St} (hm : f_X4_member σ x1 x2 = some r) : MC l G yX4_member cX4_member 4 (some .int) 2 44 0 0 [.inr 8, .inl x1, .inl x2] σ r := by
  refine xbody (by decide) (Nat.le_of_ble_eq_true rfl) ?_
  intro lo p e s m args below meth c F hP ls hl
  have F : Fx p l s args m meth c G cX4_member 4 (some .int) RX4 := F
  obtain ⟨hx, hb, hrt, hml, hown, hts, hlocks, hC, htab, hst⟩ := id F
  have hS : va_S (gF G) s.heap s.heap [] := va_S.rf
  have hl : lv_has ls 4 [(0, .ref (gA G 8)), (1, .int x1), (2, .int x2)] := hl
  unfold f_X4_member at hm
  refine lv_aload_n hx hb dX4_member_0 rfl (lv_at hl 0 rfl) ?_
  refine lv_aload_n hx hb dX4_member_1 rfl (lv_at hl 0 rfl) ?_
  refine lv_iload_n hx hb dX4_member_2 rfl (lv_at hl 1 rfl) ?_
  obtain ⟨x1_, h1, hm⟩ := ri_inv hm
  refine xV F (c_X4_isWave h1) tk_711 tk_708 tk_710 tu_45 tk_6 rfl 1 (by decide +kernel) rfl ⟨Nat.le_of_ble_eq_true rfl, Nat.le_of_ble_eq_true rfl⟩ hP hS (kd_k kdc_8 (by decide)) (wc4 kdc_8) rfl hl.1 rfl (Nat.le_of_ble_eq_true rfl) dX4_member_3 ⟨Nat.le_of_ble_eq_true rfl, Nat.le_of_ble_eq_true rfl⟩ (fun v hv H locs hP hS => ?_) (fun E hE => by cases hE)
  cases hv
  replace hP : va_P (gD G) vwCl (wld G lo σ) H := hP
  refine W.eq (g2 := F0 m 6 ls [.int x1_, .ref (gA G 8)]) rfl ?_
  refine lv_if_eq (tgt := 13) hx hb dX4_member_6 (by decide) (fun b2 => ?_) (fun b2 => ?_)
  · rw [if_pos b2] at hm
    exact w_X4_member_13 F hm hP hS (lv_sub hl [0, 1, 2] rfl)
  · rw [if_neg b2] at hm
    refine lv_iload_n hx hb dX4_member_9 rfl (lv_at hl 2 rfl) ?_
    refine lv_if_ge (tgt := 17) hx hb dX4_member_10 (by decide) (fun b3 => ?_) (fun b3 => ?_)
    · rw [if_pos b3] at hm
      refine lv_iconst (v := 0) hx hb dX4_member_17 (by decide) ?_
      exact w_X4_member_18 F hm hP hS (lv_sub hl [0, 1, 2] rfl)
    · rw [if_neg b3] at hm
      exact w_X4_member_13 F hm hP hS (lv_sub hl [0, 1, 2] rfl)
/-! ===== X4_wantsOf ===== -/
def f_X4_wantsOf_5 (σ : St) (x1 : Int32) (x2 : Int32) : Nat → Int32 → Int32 → Option RV
  | 0, _, _ => none
  | n + 1, x3, x4 =>
    if (σ 8 2) ≤ x4 then
      some (.inl (some (.inl x3)))
    else
      if x4 < 0 ∨ 16 ≤ x4.toNatClampNeg then none
      else
        if (σ 13 x4.toNatClampNeg) = x1 then
          if (σ 15 x4.toNatClampNeg) = 0 then
            if ((10 * x4) + x2) < 0 ∨ 160 ≤ ((10 * x4) + x2).toNatClampNeg then none
            else
              f_X4_wantsOf_5 σ x1 x2 n (x3 + (σ 16 ((10 * x4) + x2).toNatClampNeg)) (x4 + 1)
          else
            f_X4_wantsOf_5 σ x1 x2 n (x3 + 0) (x4 + 1)
        else
          f_X4_wantsOf_5 σ x1 x2 n (x3 + 0) (x4 + 1)
set_option maxHeartbeats 4000000 in
set_option maxRecDepth 100000 in
theorem w_X4_wantsOf_5 {p : Program} {l : Launch} {e : Env} {s : State} {m : MethodId} {args : Array Value} {below : List Frame} {meth : Method} {c : Code} {G : GT} {lo : Nat → Int64} (F : Fx p l s args m meth c G cX4_wantsOf 5 (some .int) RX4) {σ : St} {x1 : Int32} {x2 : Int32} : ∀ (n : Nat) {x3 : Int32} {x4 : Int32} {r : RV}, f_X4_wantsOf_5 σ x1 x2 n x3 x4 = some r → ∀ {H : Heap} {locs : List Loc}, va_P (gD G) vwCl (wld G lo σ) H → va_S (gF G) s.heap H locs → ∀ {ls : Array Slot}, lv_has ls 5 [(0, .ref (gA G 8)), (1, .int x1), (2, .int x2), (3, .int x3), (4, .int x4)] → W p l e (RM 0 0 0 0) s m args below meth c H locs 0 0 (vx_MQ below (QCr G lo (r, σ)) (XCr G lo (r, σ)) args s 0 0 (gF G)) (F0 m 5 ls []) := by
  obtain ⟨hx, hb, hrt, hml, hown, hts, hlocks, hC, htab, hst⟩ := id F
  intro n
  induction n with
  | zero =>
    intro x3 x4 r hm
    simp only [f_X4_wantsOf_5] at hm
    cases hm
  | succ n ih =>
    intro x3 x4 r hm H locs hP hS ls hl
    rw [f_X4_wantsOf_5] at hm
    refine lv_iload hx hb dX4_wantsOf_5 (lv_at hl 4 rfl) ?_
    refine lv_aload_n hx hb dX4_wantsOf_7 rfl (lv_at hl 0 rfl) ?_
    refine xg F 2 inX4 hP (kd_k kdc_8 (by decide)) (wc4 kdc_8) rfl (by decide) tk_555 rfl rfl dX4_wantsOf_8 ?_
    refine lv_icmp_ge (tgt := 60) hx hb dX4_wantsOf_11 (by decide) (fun b1 => ?_) (fun b1 => ?_)
    · rw [if_pos b1] at hm
      refine lv_iload_n hx hb dX4_wantsOf_60 rfl (lv_at hl 3 rfl) ?_
      exact xir F hP hS (congrArg (fun z => (z, σ)) (Option.some.inj hm).symm) (by decide) (by decide) dX4_wantsOf_61
    · rw [if_neg b1] at hm
      refine lv_iload_n hx hb dX4_wantsOf_14 rfl (lv_at hl 3 rfl) ?_
      refine lv_aload_n hx hb dX4_wantsOf_15 rfl (lv_at hl 0 rfl) ?_
      refine xg F 7 inX4 hP (kd_k kdc_8 (by decide)) (wc4 kdc_8) rfl (by decide) tk_560 rfl rfl dX4_wantsOf_16 ?_
      refine lv_iload hx hb dX4_wantsOf_19 (lv_at hl 4 rfl) ?_
      by_cases b2 : (x4 < 0 ∨ 16 ≤ x4.toNatClampNeg)
      · rw [if_pos b2] at hm
        cases hm
      · rw [if_neg b2] at hm
        refine xil F hP kdc_13 lnc_13 b2 dX4_wantsOf_21 ?_
        refine lv_iload_n hx hb dX4_wantsOf_22 rfl (lv_at hl 1 rfl) ?_
        refine lv_icmp_ne (tgt := 51) hx hb dX4_wantsOf_23 (by decide) (fun b3 => ?_) (fun b3 => ?_)
        · rw [if_neg b3] at hm
          refine lv_iconst (v := 0) hx hb dX4_wantsOf_51 (by decide) ?_
          refine lv_iadd hx hb dX4_wantsOf_52 ?_
          refine lv_istore_n (lv' := [(3, .int (x3 + 0)), (0, .ref (gA G 8)), (1, .int x1), (2, .int x2), (4, .int x4)]) hx hb dX4_wantsOf_53 rfl hl (by decide) rfl (fun ls hl => ?_)
          refine lv_iinc (v := (x4 + 1)) (lv' := [(4, .int (x4 + 1)), (3, .int (x3 + 0)), (0, .ref (gA G 8)), (1, .int x1), (2, .int x2)]) hx hb dX4_wantsOf_54 hl (k := 4) rfl rfl (by decide) rfl (fun ls hl => ?_)
          refine lv_goto (tgt := 5) hx hb dX4_wantsOf_57 (by decide) ?_
          exact ih hm hP hS (lv_sub hl [2, 3, 4, 1, 0] rfl)
        · rw [if_pos b3] at hm
          refine lv_aload_n hx hb dX4_wantsOf_26 rfl (lv_at hl 0 rfl) ?_
          refine xg F 9 inX4 hP (kd_k kdc_8 (by decide)) (wc4 kdc_8) rfl (by decide) tk_562 rfl rfl dX4_wantsOf_27 ?_
          refine lv_iload hx hb dX4_wantsOf_30 (lv_at hl 4 rfl) ?_
          refine xzl F hP kdc_15 lnc_15 b2 dX4_wantsOf_32 ?_
          refine lv_if_ne (tgt := 51) hx hb dX4_wantsOf_33 (by decide) (fun b4 => ?_) (fun b4 => ?_)
          · rw [if_neg b4] at hm
            refine lv_iconst (v := 0) hx hb dX4_wantsOf_51 (by decide) ?_
            refine lv_iadd hx hb dX4_wantsOf_52 ?_
            refine lv_istore_n (lv' := [(3, .int (x3 + 0)), (0, .ref (gA G 8)), (1, .int x1), (2, .int x2), (4, .int x4)]) hx hb dX4_wantsOf_53 rfl hl (by decide) rfl (fun ls hl => ?_)
            refine lv_iinc (v := (x4 + 1)) (lv' := [(4, .int (x4 + 1)), (3, .int (x3 + 0)), (0, .ref (gA G 8)), (1, .int x1), (2, .int x2)]) hx hb dX4_wantsOf_54 hl (k := 4) rfl rfl (by decide) rfl (fun ls hl => ?_)
            refine lv_goto (tgt := 5) hx hb dX4_wantsOf_57 (by decide) ?_
            exact ih hm hP hS (lv_sub hl [2, 3, 4, 1, 0] rfl)
          · rw [if_pos b4] at hm
            refine lv_aload_n hx hb dX4_wantsOf_36 rfl (lv_at hl 0 rfl) ?_
            refine xg F 10 inX4 hP (kd_k kdc_8 (by decide)) (wc4 kdc_8) rfl (by decide) tk_563 rfl rfl dX4_wantsOf_37 ?_
            refine lv_bipush (v := 10) hx hb dX4_wantsOf_40 (by decide) ?_
            refine lv_iload hx hb dX4_wantsOf_42 (lv_at hl 4 rfl) ?_
            refine lv_imul hx hb dX4_wantsOf_44 ?_
            refine lv_iload_n hx hb dX4_wantsOf_45 rfl (lv_at hl 2 rfl) ?_
            refine lv_iadd hx hb dX4_wantsOf_46 ?_
            by_cases b5 : (((10 * x4) + x2) < 0 ∨ 160 ≤ ((10 * x4) + x2).toNatClampNeg)
            · rw [if_pos b5] at hm
              cases hm
            · rw [if_neg b5] at hm
              refine xil F hP kdc_16 lnc_16 b5 dX4_wantsOf_47 ?_
              refine lv_goto (tgt := 52) hx hb dX4_wantsOf_48 (by decide) ?_
              refine lv_iadd hx hb dX4_wantsOf_52 ?_
              refine lv_istore_n (lv' := [(3, .int (x3 + (σ 16 ((10 * x4) + x2).toNatClampNeg))), (0, .ref (gA G 8)), (1, .int x1), (2, .int x2), (4, .int x4)]) hx hb dX4_wantsOf_53 rfl hl (by decide) rfl (fun ls hl => ?_)
              refine lv_iinc (v := (x4 + 1)) (lv' := [(4, .int (x4 + 1)), (3, .int (x3 + (σ 16 ((10 * x4) + x2).toNatClampNeg))), (0, .ref (gA G 8)), (1, .int x1), (2, .int x2)]) hx hb dX4_wantsOf_54 hl (k := 4) rfl rfl (by decide) rfl (fun ls hl => ?_)
              refine lv_goto (tgt := 5) hx hb dX4_wantsOf_57 (by decide) ?_
              exact ih hm hP hS (lv_sub hl [2, 3, 4, 1, 0] rfl)
def f_X4_wantsOf (σ : St) (x1 : Int32) (x2 : Int32) : Option RV :=
  f_X4_wantsOf_5 σ x1 x2 40 0 0
set_option maxHeartbeats 4000000 in
set_option maxRecDepth 100000 in
theorem c_X4_wantsOf {l : Launch} {G : GT} {σ : St} {x1 : Int32} {x2 : Int32} {r : RV} (hm : f_X4_wantsOf σ x1 x2 = some r) : MC l G yX4_wantsOf cX4_wantsOf 5 (some .int) 0 0 0 0 [.inr 8, .inl x1, .inl x2] σ (r, σ) := by
  refine xbody (by decide) (Nat.le_of_ble_eq_true rfl) ?_
  intro lo p e s m args below meth c F hP ls hl
  have F : Fx p l s args m meth c G cX4_wantsOf 5 (some .int) RX4 := F
  obtain ⟨hx, hb, hrt, hml, hown, hts, hlocks, hC, htab, hst⟩ := id F
  have hS : va_S (gF G) s.heap s.heap [] := va_S.rf
  have hl : lv_has ls 5 [(0, .ref (gA G 8)), (1, .int x1), (2, .int x2)] := hl
  unfold f_X4_wantsOf at hm
  refine lv_iconst (v := 0) hx hb dX4_wantsOf_0 (by decide) ?_
  refine lv_istore_n (lv' := [(3, .int 0), (0, .ref (gA G 8)), (1, .int x1), (2, .int x2)]) hx hb dX4_wantsOf_1 rfl hl (by decide) rfl (fun ls hl => ?_)
  refine lv_iconst (v := 0) hx hb dX4_wantsOf_2 (by decide) ?_
  refine lv_istore (lv' := [(4, .int 0), (3, .int 0), (0, .ref (gA G 8)), (1, .int x1), (2, .int x2)]) hx hb dX4_wantsOf_3 hl (by decide) rfl (fun ls hl => ?_)
  exact w_X4_wantsOf_5 F 40 hm hP hS (lv_sub hl [2, 3, 4, 1, 0] rfl)
/-! ===== X4_lackOf ===== -/
def f_X4_lackOf_64 (σ : St) (x1 : Int32) (x2 : Int32) (s0 : Int32) : Option RV :=
  ri (f_X4_wantsOf σ x1 x2) (fun x1_ =>
    if (x1_ - s0) ≤ 0 then
      some (.inl (some (.inl 0)))
    else
      some (.inl (some (.inl (x1_ - s0)))))
set_option maxHeartbeats 4000000 in
set_option maxRecDepth 100000 in
theorem w_X4_lackOf_64 {p : Program} {l : Launch} {e : Env} {s : State} {m : MethodId} {args : Array Value} {below : List Frame} {meth : Method} {c : Code} {G : GT} {lo : Nat → Int64} (F : Fx p l s args m meth c G cX4_lackOf 5 (some .int) RX4) {σ : St} {x1 : Int32} {x2 : Int32} {s0 : Int32} {r : RV} (hm : f_X4_lackOf_64 σ x1 x2 s0 = some r) {H : Heap} {locs : List Loc} (hP : va_P (gD G) vwCl (wld G lo σ) H) (hS : va_S (gF G) s.heap H locs) {ls : Array Slot} (hl : lv_has ls 5 [(0, .ref (gA G 8)), (1, .int x1), (2, .int x2)]) : W p l e (RM 1 24 0 0) s m args below meth c H locs 0 0 (vx_MQ below (QCr G lo (r, σ)) (XCr G lo (r, σ)) args s 0 0 (gF G)) (F0 m 64 ls [.int s0]) := by
  obtain ⟨hx, hb, hrt, hml, hown, hts, hlocks, hC, htab, hst⟩ := id F
  unfold f_X4_lackOf_64 at hm
  refine lv_istore_n (lv' := [(3, .int s0), (0, .ref (gA G 8)), (1, .int x1), (2, .int x2)]) hx hb dX4_lackOf_64 rfl hl (by decide) rfl (fun ls hl => ?_)
  refine lv_aload_n hx hb dX4_lackOf_65 rfl (lv_at hl 1 rfl) ?_
  refine lv_iload_n hx hb dX4_lackOf_66 rfl (lv_at hl 2 rfl) ?_
  refine lv_iload_n hx hb dX4_lackOf_67 rfl (lv_at hl 3 rfl) ?_
  obtain ⟨x1_, h1, hm⟩ := ri_inv hm
  refine xV F (c_X4_wantsOf h1) tk_747 tk_744 tk_746 tu_52 tk_6 rfl 2 (by decide +kernel) rfl ⟨Nat.le_of_ble_eq_true rfl, Nat.le_of_ble_eq_true rfl⟩ hP hS (kd_k kdc_8 (by decide)) (wc4 kdc_8) rfl hl.1 rfl (Nat.le_of_ble_eq_true rfl) dX4_lackOf_68 ⟨Nat.le_of_ble_eq_true rfl, Nat.le_of_ble_eq_true rfl⟩ (fun v hv H locs hP hS => ?_) (fun E hE => by cases hE)
  cases hv
  replace hP : va_P (gD G) vwCl (wld G lo σ) H := hP
  refine W.eq (g2 := F0 m 71 ls [.int x1_]) rfl ?_
  refine lv_iload_n hx hb dX4_lackOf_71 rfl (lv_at hl 0 rfl) ?_
  refine lv_isub hx hb dX4_lackOf_72 ?_
  refine lv_istore (lv' := [(4, .int (x1_ - s0)), (3, .int s0), (0, .ref (gA G 8)), (1, .int x1), (2, .int x2)]) hx hb dX4_lackOf_73 hl (by decide) rfl (fun ls hl => ?_)
  refine lv_iload hx hb dX4_lackOf_75 (lv_at hl 0 rfl) ?_
  refine lv_if_le (tgt := 85) hx hb dX4_lackOf_77 (by decide) (fun b2 => ?_) (fun b2 => ?_)
  · rw [if_pos b2] at hm
    refine lv_iconst (v := 0) hx hb dX4_lackOf_85 (by decide) ?_
    exact xir F hP hS (congrArg (fun z => (z, σ)) (Option.some.inj hm).symm) (by decide) (by decide) dX4_lackOf_86
  · rw [if_neg b2] at hm
    refine lv_iload hx hb dX4_lackOf_80 (lv_at hl 0 rfl) ?_
    refine lv_goto (tgt := 86) hx hb dX4_lackOf_82 (by decide) ?_
    exact xir F hP hS (congrArg (fun z => (z, σ)) (Option.some.inj hm).symm) (by decide) (by decide) dX4_lackOf_86
def f_X4_lackOf_10 (σ : St) (x1 : Int32) (x2 : Int32) : Nat → Int32 → Int32 → Option RV
  | 0, _, _ => none
  | n + 1, x3, x4 =>
    if (σ 8 16) < x4 then
      if 0 ≤ x3 then
        f_X4_lackOf_64 σ x1 x2 x3
      else
        f_X4_lackOf_64 σ x1 x2 0
    else
      if x4 = x1 then
        f_X4_lackOf_10 σ x1 x2 n (x3 - 0) (x4 + 1)
      else
        if x4 < 0 ∨ 17 ≤ x4.toNatClampNeg then none
        else
          if (σ 20 x4.toNatClampNeg) = 0 then
            f_X4_lackOf_10 σ x1 x2 n (x3 - 0) (x4 + 1)
          else
            ri (f_X4_wantsOf σ x4 x2) (fun x6_ =>
              f_X4_lackOf_10 σ x1 x2 n (x3 - x6_) (x4 + 1))
set_option maxHeartbeats 4000000 in
set_option maxRecDepth 100000 in
theorem w_X4_lackOf_10 {p : Program} {l : Launch} {e : Env} {s : State} {m : MethodId} {args : Array Value} {below : List Frame} {meth : Method} {c : Code} {G : GT} {lo : Nat → Int64} (F : Fx p l s args m meth c G cX4_lackOf 5 (some .int) RX4) {σ : St} {x1 : Int32} {x2 : Int32} : ∀ (n : Nat) {x3 : Int32} {x4 : Int32} {r : RV}, f_X4_lackOf_10 σ x1 x2 n x3 x4 = some r → ∀ {H : Heap} {locs : List Loc}, va_P (gD G) vwCl (wld G lo σ) H → va_S (gF G) s.heap H locs → ∀ {ls : Array Slot}, lv_has ls 5 [(0, .ref (gA G 8)), (1, .int x1), (2, .int x2), (3, .int x3), (4, .int x4)] → W p l e (RM 1 24 0 0) s m args below meth c H locs 0 0 (vx_MQ below (QCr G lo (r, σ)) (XCr G lo (r, σ)) args s 0 0 (gF G)) (F0 m 10 ls []) := by
  obtain ⟨hx, hb, hrt, hml, hown, hts, hlocks, hC, htab, hst⟩ := id F
  intro n
  induction n with
  | zero =>
    intro x3 x4 r hm
    simp only [f_X4_lackOf_10] at hm
    cases hm
  | succ n ih =>
    intro x3 x4 r hm H locs hP hS ls hl
    rw [f_X4_lackOf_10] at hm
    refine lv_iload hx hb dX4_lackOf_10 (lv_at hl 4 rfl) ?_
    refine lv_aload_n hx hb dX4_lackOf_12 rfl (lv_at hl 0 rfl) ?_
    refine xg F 16 inX4 hP (kd_k kdc_8 (by decide)) (wc4 kdc_8) rfl (by decide) tk_569 rfl rfl dX4_lackOf_13 ?_
    refine lv_icmp_gt (tgt := 55) hx hb dX4_lackOf_16 (by decide) (fun b1 => ?_) (fun b1 => ?_)
    · rw [if_pos b1] at hm
      refine lv_iload_n hx hb dX4_lackOf_55 rfl (lv_at hl 3 rfl) ?_
      refine lv_if_ge (tgt := 63) hx hb dX4_lackOf_56 (by decide) (fun b2 => ?_) (fun b2 => ?_)
      · rw [if_pos b2] at hm
        refine lv_iload_n hx hb dX4_lackOf_63 rfl (lv_at hl 3 rfl) ?_
        exact w_X4_lackOf_64 F hm hP hS (lv_sub hl [0, 1, 2] rfl)
      · rw [if_neg b2] at hm
        refine lv_iconst (v := 0) hx hb dX4_lackOf_59 (by decide) ?_
        refine lv_goto (tgt := 64) hx hb dX4_lackOf_60 (by decide) ?_
        exact w_X4_lackOf_64 F hm hP hS (lv_sub hl [0, 1, 2] rfl)
    · rw [if_neg b1] at hm
      refine lv_iload_n hx hb dX4_lackOf_19 rfl (lv_at hl 3 rfl) ?_
      refine lv_iload hx hb dX4_lackOf_20 (lv_at hl 4 rfl) ?_
      refine lv_iload_n hx hb dX4_lackOf_22 rfl (lv_at hl 1 rfl) ?_
      refine lv_icmp_eq (tgt := 46) hx hb dX4_lackOf_23 (by decide) (fun b3 => ?_) (fun b3 => ?_)
      · rw [if_pos b3] at hm
        refine lv_iconst (v := 0) hx hb dX4_lackOf_46 (by decide) ?_
        refine lv_isub hx hb dX4_lackOf_47 ?_
        refine lv_istore_n (lv' := [(3, .int (x3 - 0)), (0, .ref (gA G 8)), (1, .int x1), (2, .int x2), (4, .int x4)]) hx hb dX4_lackOf_48 rfl hl (by decide) rfl (fun ls hl => ?_)
        refine lv_iinc (v := (x4 + 1)) (lv' := [(4, .int (x4 + 1)), (3, .int (x3 - 0)), (0, .ref (gA G 8)), (1, .int x1), (2, .int x2)]) hx hb dX4_lackOf_49 hl (k := 4) rfl rfl (by decide) rfl (fun ls hl => ?_)
        refine lv_goto (tgt := 10) hx hb dX4_lackOf_52 (by decide) ?_
        exact ih hm hP hS (lv_sub hl [2, 3, 4, 1, 0] rfl)
      · rw [if_neg b3] at hm
        refine lv_aload_n hx hb dX4_lackOf_26 rfl (lv_at hl 0 rfl) ?_
        refine xg F 17 inX4 hP (kd_k kdc_8 (by decide)) (wc4 kdc_8) rfl (by decide) tk_570 rfl rfl dX4_lackOf_27 ?_
        refine lv_iload hx hb dX4_lackOf_30 (lv_at hl 4 rfl) ?_
        by_cases b4 : (x4 < 0 ∨ 17 ≤ x4.toNatClampNeg)
        · rw [if_pos b4] at hm
          cases hm
        · rw [if_neg b4] at hm
          refine xzl F hP kdc_20 lnc_20 b4 dX4_lackOf_32 ?_
          refine lv_if_eq (tgt := 46) hx hb dX4_lackOf_33 (by decide) (fun b5 => ?_) (fun b5 => ?_)
          · rw [if_pos b5] at hm
            refine lv_iconst (v := 0) hx hb dX4_lackOf_46 (by decide) ?_
            refine lv_isub hx hb dX4_lackOf_47 ?_
            refine lv_istore_n (lv' := [(3, .int (x3 - 0)), (0, .ref (gA G 8)), (1, .int x1), (2, .int x2), (4, .int x4)]) hx hb dX4_lackOf_48 rfl hl (by decide) rfl (fun ls hl => ?_)
            refine lv_iinc (v := (x4 + 1)) (lv' := [(4, .int (x4 + 1)), (3, .int (x3 - 0)), (0, .ref (gA G 8)), (1, .int x1), (2, .int x2)]) hx hb dX4_lackOf_49 hl (k := 4) rfl rfl (by decide) rfl (fun ls hl => ?_)
            refine lv_goto (tgt := 10) hx hb dX4_lackOf_52 (by decide) ?_
            exact ih hm hP hS (lv_sub hl [2, 3, 4, 1, 0] rfl)
          · rw [if_neg b5] at hm
            refine lv_aload_n hx hb dX4_lackOf_36 rfl (lv_at hl 0 rfl) ?_
            refine lv_iload hx hb dX4_lackOf_37 (lv_at hl 4 rfl) ?_
            refine lv_iload_n hx hb dX4_lackOf_39 rfl (lv_at hl 2 rfl) ?_
            obtain ⟨x6_, h6, hm⟩ := ri_inv hm
            refine xV F (c_X4_wantsOf h6) tk_747 tk_744 tk_746 tu_52 tk_6 rfl 2 (by decide +kernel) rfl ⟨Nat.le_of_ble_eq_true rfl, Nat.le_of_ble_eq_true rfl⟩ hP hS (kd_k kdc_8 (by decide)) (wc4 kdc_8) rfl hl.1 rfl (Nat.le_of_ble_eq_true rfl) dX4_lackOf_40 ⟨Nat.le_of_ble_eq_true rfl, Nat.le_of_ble_eq_true rfl⟩ (fun v hv H locs hP hS => ?_) (fun E hE => by cases hE)
            cases hv
            replace hP : va_P (gD G) vwCl (wld G lo σ) H := hP
            refine W.eq (g2 := F0 m 43 ls [.int x6_, .int x3]) rfl ?_
            refine lv_goto (tgt := 47) hx hb dX4_lackOf_43 (by decide) ?_
            refine lv_isub hx hb dX4_lackOf_47 ?_
            refine lv_istore_n (lv' := [(3, .int (x3 - x6_)), (0, .ref (gA G 8)), (1, .int x1), (2, .int x2), (4, .int x4)]) hx hb dX4_lackOf_48 rfl hl (by decide) rfl (fun ls hl => ?_)
            refine lv_iinc (v := (x4 + 1)) (lv' := [(4, .int (x4 + 1)), (3, .int (x3 - x6_)), (0, .ref (gA G 8)), (1, .int x1), (2, .int x2)]) hx hb dX4_lackOf_49 hl (k := 4) rfl rfl (by decide) rfl (fun ls hl => ?_)
            refine lv_goto (tgt := 10) hx hb dX4_lackOf_52 (by decide) ?_
            exact ih hm hP hS (lv_sub hl [2, 3, 4, 1, 0] rfl)
def f_X4_lackOf (σ : St) (x1 : Int32) (x2 : Int32) : Option RV :=
  if x2 < 0 ∨ 10 ≤ x2.toNatClampNeg then none
  else
    f_X4_lackOf_10 σ x1 x2 40 (σ 21 x2.toNatClampNeg) 1
set_option maxHeartbeats 4000000 in
set_option maxRecDepth 100000 in
theorem c_X4_lackOf {l : Launch} {G : GT} {σ : St} {x1 : Int32} {x2 : Int32} {r : RV} (hm : f_X4_lackOf σ x1 x2 = some r) : MC l G yX4_lackOf cX4_lackOf 5 (some .int) 1 24 0 0 [.inr 8, .inl x1, .inl x2] σ (r, σ) := by
  refine xbody (by decide) (Nat.le_of_ble_eq_true rfl) ?_
  intro lo p e s m args below meth c F hP ls hl
  have F : Fx p l s args m meth c G cX4_lackOf 5 (some .int) RX4 := F
  obtain ⟨hx, hb, hrt, hml, hown, hts, hlocks, hC, htab, hst⟩ := id F
  have hS : va_S (gF G) s.heap s.heap [] := va_S.rf
  have hl : lv_has ls 5 [(0, .ref (gA G 8)), (1, .int x1), (2, .int x2)] := hl
  unfold f_X4_lackOf at hm
  refine lv_aload_n hx hb dX4_lackOf_0 rfl (lv_at hl 0 rfl) ?_
  refine xg F 18 inX4 hP (kd_k kdc_8 (by decide)) (wc4 kdc_8) rfl (by decide) tk_571 rfl rfl dX4_lackOf_1 ?_
  refine lv_iload_n hx hb dX4_lackOf_4 rfl (lv_at hl 2 rfl) ?_
  by_cases b1 : (x2 < 0 ∨ 10 ≤ x2.toNatClampNeg)
  · rw [if_pos b1] at hm
    cases hm
  · rw [if_neg b1] at hm
    refine xil F hP kdc_21 lnc_21 b1 dX4_lackOf_5 ?_
    refine lv_istore_n (lv' := [(3, .int (σ 21 x2.toNatClampNeg)), (0, .ref (gA G 8)), (1, .int x1), (2, .int x2)]) hx hb dX4_lackOf_6 rfl hl (by decide) rfl (fun ls hl => ?_)
    refine lv_iconst (v := 1) hx hb dX4_lackOf_7 (by decide) ?_
    refine lv_istore (lv' := [(4, .int 1), (3, .int (σ 21 x2.toNatClampNeg)), (0, .ref (gA G 8)), (1, .int x1), (2, .int x2)]) hx hb dX4_lackOf_8 hl (by decide) rfl (fun ls hl => ?_)
    exact w_X4_lackOf_10 F 40 hm hP hS (lv_sub hl [2, 3, 4, 1, 0] rfl)
/-! ===== X4_replenish ===== -/
def f_X4_replenish_39 (σ : St) (x1 : Int32) : Nat → Int32 → Int32 → Option (RV × St)
  | 0, _, _ => none
  | n + 1, x3, x4 =>
    if 10 ≤ x4 then
      some (.inl (some (.inl (-1))), σ)
    else
      ri (f_X4_lackOf σ x1 x4) (fun x2_ =>
        if x2_ = 0 then
          f_X4_replenish_39 σ x1 n x3 (x4 + 1)
        else
          if x3 = 0 then
            some (.inl (some (.inl x4)), σ)
          else
            f_X4_replenish_39 σ x1 n (x3 + (-1)) (x4 + 1))
set_option maxHeartbeats 4000000 in
set_option maxRecDepth 100000 in
theorem w_X4_replenish_39 {p : Program} {l : Launch} {e : Env} {s : State} {m : MethodId} {args : Array Value} {below : List Frame} {meth : Method} {c : Code} {G : GT} {lo : Nat → Int64} (F : Fx p l s args m meth c G cX4_replenish 5 (some .int) RX4) {σ : St} {x1 : Int32} : ∀ (n : Nat) {x3 : Int32} {x4 : Int32} {r : RV × St}, f_X4_replenish_39 σ x1 n x3 x4 = some r → ∀ {H : Heap} {locs : List Loc}, va_P (gD G) vwCl (wld G lo σ) H → va_S (gF G) s.heap H locs → ∀ {ls : Array Slot}, lv_has ls 5 [(0, .ref (gA G 8)), (1, .int x1), (3, .int x3), (4, .int x4)] → W p l e (RM 2 48 0 0) s m args below meth c H locs 0 0 (vx_MQ below (QCr G lo r) (XCr G lo r) args s 0 0 (gF G)) (F0 m 39 ls []) := by
  obtain ⟨hx, hb, hrt, hml, hown, hts, hlocks, hC, htab, hst⟩ := id F
  intro n
  induction n with
  | zero =>
    intro x3 x4 r hm
    simp only [f_X4_replenish_39] at hm
    cases hm
  | succ n ih =>
    intro x3 x4 r hm H locs hP hS ls hl
    rw [f_X4_replenish_39] at hm
    refine lv_iload hx hb dX4_replenish_39 (lv_at hl 3 rfl) ?_
    refine lv_bipush (v := 10) hx hb dX4_replenish_41 (by decide) ?_
    refine lv_icmp_ge (tgt := 75) hx hb dX4_replenish_43 (by decide) (fun b1 => ?_) (fun b1 => ?_)
    · rw [if_pos b1] at hm
      refine lv_iconst (v := (-1)) hx hb dX4_replenish_75 (by decide) ?_
      exact xir F hP hS (Option.some.inj hm).symm (by decide) (by decide) dX4_replenish_76
    · rw [if_neg b1] at hm
      refine lv_aload_n hx hb dX4_replenish_46 rfl (lv_at hl 0 rfl) ?_
      refine lv_iload_n hx hb dX4_replenish_47 rfl (lv_at hl 1 rfl) ?_
      refine lv_iload hx hb dX4_replenish_48 (lv_at hl 3 rfl) ?_
      obtain ⟨x2_, h2, hm⟩ := ri_inv hm
      refine xV F (c_X4_lackOf h2) tk_743 tk_740 tk_742 tu_51 tk_6 rfl 2 (by decide +kernel) rfl ⟨Nat.le_of_ble_eq_true rfl, Nat.le_of_ble_eq_true rfl⟩ hP hS (kd_k kdc_8 (by decide)) (wc4 kdc_8) rfl hl.1 rfl (Nat.le_of_ble_eq_true rfl) dX4_replenish_50 ⟨Nat.le_of_ble_eq_true rfl, Nat.le_of_ble_eq_true rfl⟩ (fun v hv H locs hP hS => ?_) (fun E hE => by cases hE)
      cases hv
      replace hP : va_P (gD G) vwCl (wld G lo σ) H := hP
      refine W.eq (g2 := F0 m 53 ls [.int x2_]) rfl ?_
      refine lv_if_ne (tgt := 59) hx hb dX4_replenish_53 (by decide) (fun b3 => ?_) (fun b3 => ?_)
      · rw [if_neg b3] at hm
        refine lv_iload_n hx hb dX4_replenish_59 rfl (lv_at hl 2 rfl) ?_
        refine lv_if_ne (tgt := 66) hx hb dX4_replenish_60 (by decide) (fun b4 => ?_) (fun b4 => ?_)
        · rw [if_neg b4] at hm
          refine lv_iinc (v := (x3 + (-1))) (lv' := [(3, .int (x3 + (-1))), (0, .ref (gA G 8)), (1, .int x1), (4, .int x4)]) hx hb dX4_replenish_66 hl (k := 2) rfl rfl (by decide) rfl (fun ls hl => ?_)
          refine lv_iinc (v := (x4 + 1)) (lv' := [(4, .int (x4 + 1)), (3, .int (x3 + (-1))), (0, .ref (gA G 8)), (1, .int x1)]) hx hb dX4_replenish_69 hl (k := 3) rfl rfl (by decide) rfl (fun ls hl => ?_)
          refine lv_goto (tgt := 39) hx hb dX4_replenish_72 (by decide) ?_
          exact ih hm hP hS (lv_sub hl [2, 3, 1, 0] rfl)
        · rw [if_pos b4] at hm
          refine lv_iload hx hb dX4_replenish_63 (lv_at hl 3 rfl) ?_
          exact xir F hP hS (Option.some.inj hm).symm (by decide) (by decide) dX4_replenish_65
      · rw [if_pos b3] at hm
        refine lv_goto (tgt := 69) hx hb dX4_replenish_56 (by decide) ?_
        refine lv_iinc (v := (x4 + 1)) (lv' := [(4, .int (x4 + 1)), (0, .ref (gA G 8)), (1, .int x1), (3, .int x3)]) hx hb dX4_replenish_69 hl (k := 3) rfl rfl (by decide) rfl (fun ls hl => ?_)
        refine lv_goto (tgt := 39) hx hb dX4_replenish_72 (by decide) ?_
        exact ih hm hP hS (lv_sub hl [1, 2, 3, 0] rfl)
def f_X4_replenish_22 (σ : St) (x1 : Int32) (x2 : Int32) (s1 : Int32) : Option (RV × St) :=
  if ((up2 σ 8 0 s1) 8 0) ≤ 0 then
    f_X4_replenish_39 (up2 σ 8 0 s1) x1 40 x2 0
  else
    some (.inl (some (.inl 0)), (up2 σ 8 0 s1))
set_option maxHeartbeats 4000000 in
set_option maxRecDepth 100000 in
theorem w_X4_replenish_22 {p : Program} {l : Launch} {e : Env} {s : State} {m : MethodId} {args : Array Value} {below : List Frame} {meth : Method} {c : Code} {G : GT} {lo : Nat → Int64} (F : Fx p l s args m meth c G cX4_replenish 5 (some .int) RX4) {σ : St} {x1 : Int32} {x2 : Int32} {s1 : Int32} {r : RV × St} (hm : f_X4_replenish_22 σ x1 x2 s1 = some r) {H : Heap} {locs : List Loc} (hP : va_P (gD G) vwCl (wld G lo σ) H) (hS : va_S (gF G) s.heap H locs) {ls : Array Slot} (hl : lv_has ls 5 [(0, .ref (gA G 8)), (1, .int x1), (2, .int x2)]) : W p l e (RM 2 48 0 0) s m args below meth c H locs 0 0 (vx_MQ below (QCr G lo r) (XCr G lo r) args s 0 0 (gF G)) (F0 m 22 ls [.int s1, .ref (gA G 8)]) := by
  obtain ⟨hx, hb, hrt, hml, hown, hts, hlocks, hC, htab, hst⟩ := id F
  unfold f_X4_replenish_22 at hm
  refine xp F (v := s1) (ty := .int) 0 inX4 tyX4_ok nmX4 hP hS (kd_k kdc_8 (by decide)) (wc4 kdc_8) (wu4_0 kdc_8) rfl (by decide) tk_553 rfl rfl rfl rfl rfl (Nat.le_of_ble_eq_true rfl) dX4_replenish_22 (fun H locs hP hS => ?_)
  refine lv_aload_n hx hb dX4_replenish_25 rfl (lv_at hl 0 rfl) ?_
  refine xg F 0 inX4 hP (kd_k kdc_8 (by decide)) (wc4 kdc_8) rfl (by decide) tk_553 rfl rfl dX4_replenish_26 ?_
  refine lv_if_le (tgt := 34) hx hb dX4_replenish_29 (by decide) (fun b1 => ?_) (fun b1 => ?_)
  · rw [if_pos b1] at hm
    refine lv_iload_n hx hb dX4_replenish_34 rfl (lv_at hl 2 rfl) ?_
    refine lv_istore_n (lv' := [(3, .int x2), (0, .ref (gA G 8)), (1, .int x1), (2, .int x2)]) hx hb dX4_replenish_35 rfl hl (by decide) rfl (fun ls hl => ?_)
    refine lv_iconst (v := 0) hx hb dX4_replenish_36 (by decide) ?_
    refine lv_istore (lv' := [(4, .int 0), (3, .int x2), (0, .ref (gA G 8)), (1, .int x1), (2, .int x2)]) hx hb dX4_replenish_37 hl (by decide) rfl (fun ls hl => ?_)
    exact w_X4_replenish_39 F 40 hm hP hS (lv_sub hl [2, 3, 1, 0] rfl)
  · rw [if_neg b1] at hm
    refine lv_iconst (v := 0) hx hb dX4_replenish_32 (by decide) ?_
    exact xir F hP hS (Option.some.inj hm).symm (by decide) (by decide) dX4_replenish_33
def f_X4_replenish (σ : St) (x1 : Int32) (x2 : Int32) : Option (RV × St) :=
  ri (f_X4_isWave σ x1) (fun x1_ =>
    if x1_ = 0 then
      f_X4_replenish_22 σ x1 x2 1
    else
      if 0 ≤ x2 then
        f_X4_replenish_22 σ x1 x2 0
      else
        f_X4_replenish_22 σ x1 x2 2)
set_option maxHeartbeats 4000000 in
set_option maxRecDepth 100000 in
theorem c_X4_replenish {l : Launch} {G : GT} {σ : St} {x1 : Int32} {x2 : Int32} {r : RV × St} (hm : f_X4_replenish σ x1 x2 = some r) : MC l G yX4_replenish cX4_replenish 5 (some .int) 2 48 0 0 [.inr 8, .inl x1, .inl x2] σ r := by
  refine xbody (by decide) (Nat.le_of_ble_eq_true rfl) ?_
  intro lo p e s m args below meth c F hP ls hl
  have F : Fx p l s args m meth c G cX4_replenish 5 (some .int) RX4 := F
  obtain ⟨hx, hb, hrt, hml, hown, hts, hlocks, hC, htab, hst⟩ := id F
  have hS : va_S (gF G) s.heap s.heap [] := va_S.rf
  have hl : lv_has ls 5 [(0, .ref (gA G 8)), (1, .int x1), (2, .int x2)] := hl
  unfold f_X4_replenish at hm
  refine lv_aload_n hx hb dX4_replenish_0 rfl (lv_at hl 0 rfl) ?_
  refine lv_aload_n hx hb dX4_replenish_1 rfl (lv_at hl 0 rfl) ?_
  refine lv_iload_n hx hb dX4_replenish_2 rfl (lv_at hl 1 rfl) ?_
  obtain ⟨x1_, h1, hm⟩ := ri_inv hm
  refine xV F (c_X4_isWave h1) tk_711 tk_708 tk_710 tu_45 tk_6 rfl 1 (by decide +kernel) rfl ⟨Nat.le_of_ble_eq_true rfl, Nat.le_of_ble_eq_true rfl⟩ hP hS (kd_k kdc_8 (by decide)) (wc4 kdc_8) rfl hl.1 rfl (Nat.le_of_ble_eq_true rfl) dX4_replenish_3 ⟨Nat.le_of_ble_eq_true rfl, Nat.le_of_ble_eq_true rfl⟩ (fun v hv H locs hP hS => ?_) (fun E hE => by cases hE)
  cases hv
  replace hP : va_P (gD G) vwCl (wld G lo σ) H := hP
  refine W.eq (g2 := F0 m 6 ls [.int x1_, .ref (gA G 8)]) rfl ?_
  refine lv_if_ne (tgt := 13) hx hb dX4_replenish_6 (by decide) (fun b2 => ?_) (fun b2 => ?_)
  · rw [if_neg b2] at hm
    refine lv_iload_n hx hb dX4_replenish_13 rfl (lv_at hl 2 rfl) ?_
    refine lv_if_ge (tgt := 21) hx hb dX4_replenish_14 (by decide) (fun b3 => ?_) (fun b3 => ?_)
    · rw [if_pos b3] at hm
      refine lv_iconst (v := 0) hx hb dX4_replenish_21 (by decide) ?_
      exact w_X4_replenish_22 F hm hP hS (lv_sub hl [0, 1, 2] rfl)
    · rw [if_neg b3] at hm
      refine lv_iconst (v := 2) hx hb dX4_replenish_17 (by decide) ?_
      refine lv_goto (tgt := 22) hx hb dX4_replenish_18 (by decide) ?_
      exact w_X4_replenish_22 F hm hP hS (lv_sub hl [0, 1, 2] rfl)
  · rw [if_pos b2] at hm
    refine lv_iconst (v := 1) hx hb dX4_replenish_9 (by decide) ?_
    refine lv_goto (tgt := 22) hx hb dX4_replenish_10 (by decide) ?_
    exact w_X4_replenish_22 F hm hP hS (lv_sub hl [0, 1, 2] rfl)
/-! ===== X4_lacks ===== -/
def f_X4_lacks_28 (σ : St) (x1 : Int32) (x2 : Int32) (s1 : Int32) : Option (RV × St) :=
  if ((up2 σ 8 0 s1) 8 0) ≤ 0 then
    ri (f_X4_lackOf (up2 σ 8 0 s1) x1 x2) (fun x2_ =>
      some (.inl (some (.inl x2_)), (up2 σ 8 0 s1)))
  else
    some (.inl (some (.inl 0)), (up2 σ 8 0 s1))
set_option maxHeartbeats 4000000 in
set_option maxRecDepth 100000 in
theorem w_X4_lacks_28 {p : Program} {l : Launch} {e : Env} {s : State} {m : MethodId} {args : Array Value} {below : List Frame} {meth : Method} {c : Code} {G : GT} {lo : Nat → Int64} (F : Fx p l s args m meth c G cX4_lacks 3 (some .int) RX4) {σ : St} {x1 : Int32} {x2 : Int32} {s1 : Int32} {r : RV × St} (hm : f_X4_lacks_28 σ x1 x2 s1 = some r) {H : Heap} {locs : List Loc} (hP : va_P (gD G) vwCl (wld G lo σ) H) (hS : va_S (gF G) s.heap H locs) {ls : Array Slot} (hl : lv_has ls 3 [(0, .ref (gA G 8)), (1, .int x1), (2, .int x2)]) : W p l e (RM 2 48 0 0) s m args below meth c H locs 0 0 (vx_MQ below (QCr G lo r) (XCr G lo r) args s 0 0 (gF G)) (F0 m 28 ls [.int s1, .ref (gA G 8)]) := by
  obtain ⟨hx, hb, hrt, hml, hown, hts, hlocks, hC, htab, hst⟩ := id F
  unfold f_X4_lacks_28 at hm
  refine xp F (v := s1) (ty := .int) 0 inX4 tyX4_ok nmX4 hP hS (kd_k kdc_8 (by decide)) (wc4 kdc_8) (wu4_0 kdc_8) rfl (by decide) tk_553 rfl rfl rfl rfl rfl (Nat.le_of_ble_eq_true rfl) dX4_lacks_28 (fun H locs hP hS => ?_)
  refine lv_aload_n hx hb dX4_lacks_31 rfl (lv_at hl 0 rfl) ?_
  refine xg F 0 inX4 hP (kd_k kdc_8 (by decide)) (wc4 kdc_8) rfl (by decide) tk_553 rfl rfl dX4_lacks_32 ?_
  refine lv_if_le (tgt := 42) hx hb dX4_lacks_35 (by decide) (fun b1 => ?_) (fun b1 => ?_)
  · rw [if_pos b1] at hm
    refine lv_aload_n hx hb dX4_lacks_42 rfl (lv_at hl 0 rfl) ?_
    refine lv_iload_n hx hb dX4_lacks_43 rfl (lv_at hl 1 rfl) ?_
    refine lv_iload_n hx hb dX4_lacks_44 rfl (lv_at hl 2 rfl) ?_
    obtain ⟨x2_, h2, hm⟩ := ri_inv hm
    refine xV F (c_X4_lackOf h2) tk_743 tk_740 tk_742 tu_51 tk_6 rfl 2 (by decide +kernel) rfl ⟨Nat.le_of_ble_eq_true rfl, Nat.le_of_ble_eq_true rfl⟩ hP hS (kd_k kdc_8 (by decide)) (wc4 kdc_8) rfl hl.1 rfl (Nat.le_of_ble_eq_true rfl) dX4_lacks_45 ⟨Nat.le_of_ble_eq_true rfl, Nat.le_of_ble_eq_true rfl⟩ (fun v hv H locs hP hS => ?_) (fun E hE => by cases hE)
    cases hv
    replace hP : va_P (gD G) vwCl (wld G lo (up2 σ 8 0 s1)) H := hP
    refine W.eq (g2 := F0 m 48 ls [.int x2_]) rfl ?_
    exact xir F hP hS (Option.some.inj hm).symm (by decide) (by decide) dX4_lacks_48
  · rw [if_neg b1] at hm
    refine lv_iconst (v := 0) hx hb dX4_lacks_38 (by decide) ?_
    refine lv_goto (tgt := 48) hx hb dX4_lacks_39 (by decide) ?_
    exact xir F hP hS (Option.some.inj hm).symm (by decide) (by decide) dX4_lacks_48
def f_X4_lacks (σ : St) (x1 : Int32) (x2 : Int32) : Option (RV × St) :=
  ri (f_X4_isWave σ x1) (fun x1_ =>
    if x1_ = 0 then
      f_X4_lacks_28 σ x1 x2 1
    else
      ri (f_X4_in σ x2 0 9) (fun x3_ =>
        if x3_ = 0 then
          f_X4_lacks_28 σ x1 x2 2
        else
          f_X4_lacks_28 σ x1 x2 0))
set_option maxHeartbeats 4000000 in
set_option maxRecDepth 100000 in
theorem c_X4_lacks {l : Launch} {G : GT} {σ : St} {x1 : Int32} {x2 : Int32} {r : RV × St} (hm : f_X4_lacks σ x1 x2 = some r) : MC l G yX4_lacks cX4_lacks 3 (some .int) 2 48 0 0 [.inr 8, .inl x1, .inl x2] σ r := by
  refine xbody (by decide) (Nat.le_of_ble_eq_true rfl) ?_
  intro lo p e s m args below meth c F hP ls hl
  have F : Fx p l s args m meth c G cX4_lacks 3 (some .int) RX4 := F
  obtain ⟨hx, hb, hrt, hml, hown, hts, hlocks, hC, htab, hst⟩ := id F
  have hS : va_S (gF G) s.heap s.heap [] := va_S.rf
  have hl : lv_has ls 3 [(0, .ref (gA G 8)), (1, .int x1), (2, .int x2)] := hl
  unfold f_X4_lacks at hm
  refine lv_aload_n hx hb dX4_lacks_0 rfl (lv_at hl 0 rfl) ?_
  refine lv_aload_n hx hb dX4_lacks_1 rfl (lv_at hl 0 rfl) ?_
  refine lv_iload_n hx hb dX4_lacks_2 rfl (lv_at hl 1 rfl) ?_
  obtain ⟨x1_, h1, hm⟩ := ri_inv hm
  refine xV F (c_X4_isWave h1) tk_711 tk_708 tk_710 tu_45 tk_6 rfl 1 (by decide +kernel) rfl ⟨Nat.le_of_ble_eq_true rfl, Nat.le_of_ble_eq_true rfl⟩ hP hS (kd_k kdc_8 (by decide)) (wc4 kdc_8) rfl hl.1 rfl (Nat.le_of_ble_eq_true rfl) dX4_lacks_3 ⟨Nat.le_of_ble_eq_true rfl, Nat.le_of_ble_eq_true rfl⟩ (fun v hv H locs hP hS => ?_) (fun E hE => by cases hE)
  cases hv
  replace hP : va_P (gD G) vwCl (wld G lo σ) H := hP
  refine W.eq (g2 := F0 m 6 ls [.int x1_, .ref (gA G 8)]) rfl ?_
  refine lv_if_ne (tgt := 13) hx hb dX4_lacks_6 (by decide) (fun b2 => ?_) (fun b2 => ?_)
  · rw [if_neg b2] at hm
    refine lv_iload_n hx hb dX4_lacks_13 rfl (lv_at hl 2 rfl) ?_
    refine lv_iconst (v := 0) hx hb dX4_lacks_14 (by decide) ?_
    refine lv_bipush (v := 9) hx hb dX4_lacks_15 (by decide) ?_
    obtain ⟨x3_, h3, hm⟩ := ri_inv hm
    refine xSt F (c_X4_in h3) tk_635 tk_633 tk_634 tk_6 rfl 3 (by decide +kernel) rfl ⟨Nat.le_of_ble_eq_true rfl, Nat.le_of_ble_eq_true rfl⟩ hP hS hl.1 rfl (Nat.le_of_ble_eq_true rfl) dX4_lacks_17 ⟨Nat.le_of_ble_eq_true rfl, Nat.le_of_ble_eq_true rfl⟩ (fun v hv H locs hP hS => ?_) (fun E hE => by cases hE)
    cases hv
    replace hP : va_P (gD G) vwCl (wld G lo σ) H := hP
    refine W.eq (g2 := F0 m 20 ls [.int x3_, .ref (gA G 8)]) rfl ?_
    refine lv_if_ne (tgt := 27) hx hb dX4_lacks_20 (by decide) (fun b4 => ?_) (fun b4 => ?_)
    · rw [if_neg b4] at hm
      refine lv_iconst (v := 0) hx hb dX4_lacks_27 (by decide) ?_
      exact w_X4_lacks_28 F hm hP hS (lv_sub hl [0, 1, 2] rfl)
    · rw [if_pos b4] at hm
      refine lv_iconst (v := 2) hx hb dX4_lacks_23 (by decide) ?_
      refine lv_goto (tgt := 28) hx hb dX4_lacks_24 (by decide) ?_
      exact w_X4_lacks_28 F hm hP hS (lv_sub hl [0, 1, 2] rfl)
  · rw [if_pos b2] at hm
    refine lv_iconst (v := 1) hx hb dX4_lacks_9 (by decide) ?_
    refine lv_goto (tgt := 28) hx hb dX4_lacks_10 (by decide) ?_
    exact w_X4_lacks_28 F hm hP hS (lv_sub hl [0, 1, 2] rfl)
/-! ===== X4_release ===== -/
def f_X4_release_100 (x1 : Int32) : Nat → St → Int32 → Option (RV × St)
  | 0, _, _ => none
  | n + 1, σ, x2 =>
    if 10 ≤ x2 then
      if x1 < 0 ∨ 17 ≤ x1.toNatClampNeg then none
      else
        some (.inl (some (.inl 0)), (up2 σ 20 x1.toNatClampNeg 1))
    else
      ri (f_X4_lackOf σ x1 x2) (fun x3_ =>
        if x3_ ≤ 0 then
          f_X4_release_100 x1 n σ (x2 + 1)
        else
          some (.inl (some (.inl 2)), σ))
set_option maxHeartbeats 4000000 in
set_option maxRecDepth 100000 in
theorem w_X4_release_100 {p : Program} {l : Launch} {e : Env} {s : State} {m : MethodId} {args : Array Value} {below : List Frame} {meth : Method} {c : Code} {G : GT} {lo : Nat → Int64} (F : Fx p l s args m meth c G cX4_release 3 (some .int) RX4) {x1 : Int32} : ∀ (n : Nat) {σ : St} {x2 : Int32} {r : RV × St}, f_X4_release_100 x1 n σ x2 = some r → ∀ {H : Heap} {locs : List Loc}, va_P (gD G) vwCl (wld G lo σ) H → va_S (gF G) s.heap H locs → ∀ {ls : Array Slot}, lv_has ls 3 [(0, .ref (gA G 8)), (1, .int x1), (2, .int x2)] → W p l e (RM 2 48 0 0) s m args below meth c H locs 0 0 (vx_MQ below (QCr G lo r) (XCr G lo r) args s 0 0 (gF G)) (F0 m 100 ls []) := by
  obtain ⟨hx, hb, hrt, hml, hown, hts, hlocks, hC, htab, hst⟩ := id F
  intro n
  induction n with
  | zero =>
    intro σ x2 r hm
    simp only [f_X4_release_100] at hm
    cases hm
  | succ n ih =>
    intro σ x2 r hm H locs hP hS ls hl
    rw [f_X4_release_100] at hm
    refine lv_iload_n hx hb dX4_release_100 rfl (lv_at hl 2 rfl) ?_
    refine lv_bipush (v := 10) hx hb dX4_release_101 (by decide) ?_
    refine lv_icmp_ge (tgt := 123) hx hb dX4_release_103 (by decide) (fun b1 => ?_) (fun b1 => ?_)
    · rw [if_pos b1] at hm
      refine lv_aload_n hx hb dX4_release_123 rfl (lv_at hl 0 rfl) ?_
      refine xg F 17 inX4 hP (kd_k kdc_8 (by decide)) (wc4 kdc_8) rfl (by decide) tk_570 rfl rfl dX4_release_124 ?_
      refine lv_iload_n hx hb dX4_release_127 rfl (lv_at hl 1 rfl) ?_
      refine lv_iconst (v := 1) hx hb dX4_release_128 (by decide) ?_
      by_cases b2 : (x1 < 0 ∨ 17 ≤ x1.toNatClampNeg)
      · rw [if_pos b2] at hm
        cases hm
      · rw [if_neg b2] at hm
        refine xzs F (v := 1) hP hS kdc_20 lnc_20 b2 rfl dX4_release_129 (fun H locs hP hS => ?_)
        refine lv_iconst (v := 0) hx hb dX4_release_130 (by decide) ?_
        exact xir F hP hS (Option.some.inj hm).symm (by decide) (by decide) dX4_release_131
    · rw [if_neg b1] at hm
      refine lv_aload_n hx hb dX4_release_106 rfl (lv_at hl 0 rfl) ?_
      refine lv_iload_n hx hb dX4_release_107 rfl (lv_at hl 1 rfl) ?_
      refine lv_iload_n hx hb dX4_release_108 rfl (lv_at hl 2 rfl) ?_
      obtain ⟨x3_, h3, hm⟩ := ri_inv hm
      refine xV F (c_X4_lackOf h3) tk_743 tk_740 tk_742 tu_51 tk_6 rfl 2 (by decide +kernel) rfl ⟨Nat.le_of_ble_eq_true rfl, Nat.le_of_ble_eq_true rfl⟩ hP hS (kd_k kdc_8 (by decide)) (wc4 kdc_8) rfl hl.1 rfl (Nat.le_of_ble_eq_true rfl) dX4_release_109 ⟨Nat.le_of_ble_eq_true rfl, Nat.le_of_ble_eq_true rfl⟩ (fun v hv H locs hP hS => ?_) (fun E hE => by cases hE)
      cases hv
      replace hP : va_P (gD G) vwCl (wld G lo σ) H := hP
      refine W.eq (g2 := F0 m 112 ls [.int x3_]) rfl ?_
      refine lv_if_le (tgt := 117) hx hb dX4_release_112 (by decide) (fun b4 => ?_) (fun b4 => ?_)
      · rw [if_pos b4] at hm
        refine lv_iinc (v := (x2 + 1)) (lv' := [(2, .int (x2 + 1)), (0, .ref (gA G 8)), (1, .int x1)]) hx hb dX4_release_117 hl (k := 2) rfl rfl (by decide) rfl (fun ls hl => ?_)
        refine lv_goto (tgt := 100) hx hb dX4_release_120 (by decide) ?_
        exact ih hm hP hS (lv_sub hl [1, 2, 0] rfl)
      · rw [if_neg b4] at hm
        refine lv_iconst (v := 2) hx hb dX4_release_115 (by decide) ?_
        exact xir F hP hS (Option.some.inj hm).symm (by decide) (by decide) dX4_release_116
def f_X4_release_53 (x1 : Int32) : Nat → St → Int32 → Option (RV × St)
  | 0, _, _ => none
  | n + 1, σ, x2 =>
    if (σ 8 2) ≤ x2 then
      f_X4_release_100 x1 40 σ 0
    else
      if x2 < 0 ∨ 16 ≤ x2.toNatClampNeg then none
      else
        if (σ 13 x2.toNatClampNeg) = x1 then
          ri (f_X4_fits σ (σ 12 x2.toNatClampNeg) (σ 9 x2.toNatClampNeg)) (fun x4_ =>
            if x4_ = 0 then
              some (.inl (some (.inl 1)), σ)
            else
              f_X4_release_53 x1 n σ (x2 + 1))
        else
          f_X4_release_53 x1 n σ (x2 + 1)
set_option maxHeartbeats 4000000 in
set_option maxRecDepth 100000 in
theorem w_X4_release_53 {p : Program} {l : Launch} {e : Env} {s : State} {m : MethodId} {args : Array Value} {below : List Frame} {meth : Method} {c : Code} {G : GT} {lo : Nat → Int64} (F : Fx p l s args m meth c G cX4_release 3 (some .int) RX4) {x1 : Int32} : ∀ (n : Nat) {σ : St} {x2 : Int32} {r : RV × St}, f_X4_release_53 x1 n σ x2 = some r → ∀ {H : Heap} {locs : List Loc}, va_P (gD G) vwCl (wld G lo σ) H → va_S (gF G) s.heap H locs → ∀ {ls : Array Slot}, lv_has ls 3 [(0, .ref (gA G 8)), (1, .int x1), (2, .int x2)] → W p l e (RM 2 48 0 0) s m args below meth c H locs 0 0 (vx_MQ below (QCr G lo r) (XCr G lo r) args s 0 0 (gF G)) (F0 m 53 ls []) := by
  obtain ⟨hx, hb, hrt, hml, hown, hts, hlocks, hC, htab, hst⟩ := id F
  intro n
  induction n with
  | zero =>
    intro σ x2 r hm
    simp only [f_X4_release_53] at hm
    cases hm
  | succ n ih =>
    intro σ x2 r hm H locs hP hS ls hl
    rw [f_X4_release_53] at hm
    refine lv_iload_n hx hb dX4_release_53 rfl (lv_at hl 2 rfl) ?_
    refine lv_aload_n hx hb dX4_release_54 rfl (lv_at hl 0 rfl) ?_
    refine xg F 2 inX4 hP (kd_k kdc_8 (by decide)) (wc4 kdc_8) rfl (by decide) tk_555 rfl rfl dX4_release_55 ?_
    refine lv_icmp_ge (tgt := 98) hx hb dX4_release_58 (by decide) (fun b1 => ?_) (fun b1 => ?_)
    · rw [if_pos b1] at hm
      refine lv_iconst (v := 0) hx hb dX4_release_98 (by decide) ?_
      refine lv_istore_n (lv' := [(2, .int 0), (0, .ref (gA G 8)), (1, .int x1)]) hx hb dX4_release_99 rfl hl (by decide) rfl (fun ls hl => ?_)
      exact w_X4_release_100 F 40 hm hP hS (lv_sub hl [1, 2, 0] rfl)
    · rw [if_neg b1] at hm
      refine lv_aload_n hx hb dX4_release_61 rfl (lv_at hl 0 rfl) ?_
      refine xg F 7 inX4 hP (kd_k kdc_8 (by decide)) (wc4 kdc_8) rfl (by decide) tk_560 rfl rfl dX4_release_62 ?_
      refine lv_iload_n hx hb dX4_release_65 rfl (lv_at hl 2 rfl) ?_
      by_cases b2 : (x2 < 0 ∨ 16 ≤ x2.toNatClampNeg)
      · rw [if_pos b2] at hm
        cases hm
      · rw [if_neg b2] at hm
        refine xil F hP kdc_13 lnc_13 b2 dX4_release_66 ?_
        refine lv_iload_n hx hb dX4_release_67 rfl (lv_at hl 1 rfl) ?_
        refine lv_icmp_ne (tgt := 92) hx hb dX4_release_68 (by decide) (fun b3 => ?_) (fun b3 => ?_)
        · rw [if_neg b3] at hm
          refine lv_iinc (v := (x2 + 1)) (lv' := [(2, .int (x2 + 1)), (0, .ref (gA G 8)), (1, .int x1)]) hx hb dX4_release_92 hl (k := 2) rfl rfl (by decide) rfl (fun ls hl => ?_)
          refine lv_goto (tgt := 53) hx hb dX4_release_95 (by decide) ?_
          exact ih hm hP hS (lv_sub hl [1, 2, 0] rfl)
        · rw [if_pos b3] at hm
          refine lv_aload_n hx hb dX4_release_71 rfl (lv_at hl 0 rfl) ?_
          refine lv_aload_n hx hb dX4_release_72 rfl (lv_at hl 0 rfl) ?_
          refine xg F 6 inX4 hP (kd_k kdc_8 (by decide)) (wc4 kdc_8) rfl (by decide) tk_559 rfl rfl dX4_release_73 ?_
          refine lv_iload_n hx hb dX4_release_76 rfl (lv_at hl 2 rfl) ?_
          refine xil F hP kdc_12 lnc_12 b2 dX4_release_77 ?_
          refine lv_aload_n hx hb dX4_release_78 rfl (lv_at hl 0 rfl) ?_
          refine xg F 3 inX4 hP (kd_k kdc_8 (by decide)) (wc4 kdc_8) rfl (by decide) tk_556 rfl rfl dX4_release_79 ?_
          refine lv_iload_n hx hb dX4_release_82 rfl (lv_at hl 2 rfl) ?_
          refine xil F hP kdc_9 lnc_9 b2 dX4_release_83 ?_
          obtain ⟨x4_, h4, hm⟩ := ri_inv hm
          refine xV F (c_X4_fits h4) tk_675 tk_672 tk_674 tu_38 tk_6 rfl 2 (by decide +kernel) rfl ⟨Nat.le_of_ble_eq_true rfl, Nat.le_of_ble_eq_true rfl⟩ hP hS (kd_k kdc_8 (by decide)) (wc4 kdc_8) rfl hl.1 rfl (Nat.le_of_ble_eq_true rfl) dX4_release_84 ⟨Nat.le_of_ble_eq_true rfl, Nat.le_of_ble_eq_true rfl⟩ (fun v hv H locs hP hS => ?_) (fun E hE => by cases hE)
          cases hv
          replace hP : va_P (gD G) vwCl (wld G lo σ) H := hP
          refine W.eq (g2 := F0 m 87 ls [.int x4_]) rfl ?_
          refine lv_if_ne (tgt := 92) hx hb dX4_release_87 (by decide) (fun b5 => ?_) (fun b5 => ?_)
          · rw [if_neg b5] at hm
            refine lv_iinc (v := (x2 + 1)) (lv' := [(2, .int (x2 + 1)), (0, .ref (gA G 8)), (1, .int x1)]) hx hb dX4_release_92 hl (k := 2) rfl rfl (by decide) rfl (fun ls hl => ?_)
            refine lv_goto (tgt := 53) hx hb dX4_release_95 (by decide) ?_
            exact ih hm hP hS (lv_sub hl [1, 2, 0] rfl)
          · rw [if_pos b5] at hm
            refine lv_iconst (v := 1) hx hb dX4_release_90 (by decide) ?_
            exact xir F hP hS (Option.some.inj hm).symm (by decide) (by decide) dX4_release_91
def f_X4_release_42 (σ : St) (x1 : Int32) : Option (RV × St) :=
  if (σ 8 0) ≤ 0 then
    f_X4_release_53 x1 40 σ 0
  else
    some (.inl (some (.inl 0)), σ)
set_option maxHeartbeats 4000000 in
set_option maxRecDepth 100000 in
theorem w_X4_release_42 {p : Program} {l : Launch} {e : Env} {s : State} {m : MethodId} {args : Array Value} {below : List Frame} {meth : Method} {c : Code} {G : GT} {lo : Nat → Int64} (F : Fx p l s args m meth c G cX4_release 3 (some .int) RX4) {σ : St} {x1 : Int32} {r : RV × St} (hm : f_X4_release_42 σ x1 = some r) {H : Heap} {locs : List Loc} (hP : va_P (gD G) vwCl (wld G lo σ) H) (hS : va_S (gF G) s.heap H locs) {ls : Array Slot} (hl : lv_has ls 3 [(0, .ref (gA G 8)), (1, .int x1)]) : W p l e (RM 2 48 0 0) s m args below meth c H locs 0 0 (vx_MQ below (QCr G lo r) (XCr G lo r) args s 0 0 (gF G)) (F0 m 42 ls []) := by
  obtain ⟨hx, hb, hrt, hml, hown, hts, hlocks, hC, htab, hst⟩ := id F
  unfold f_X4_release_42 at hm
  refine lv_aload_n hx hb dX4_release_42 rfl (lv_at hl 0 rfl) ?_
  refine xg F 0 inX4 hP (kd_k kdc_8 (by decide)) (wc4 kdc_8) rfl (by decide) tk_553 rfl rfl dX4_release_43 ?_
  refine lv_if_le (tgt := 51) hx hb dX4_release_46 (by decide) (fun b1 => ?_) (fun b1 => ?_)
  · rw [if_pos b1] at hm
    refine lv_iconst (v := 0) hx hb dX4_release_51 (by decide) ?_
    refine lv_istore_n (lv' := [(2, .int 0), (0, .ref (gA G 8)), (1, .int x1)]) hx hb dX4_release_52 rfl hl (by decide) rfl (fun ls hl => ?_)
    exact w_X4_release_53 F 40 hm hP hS (lv_sub hl [1, 2, 0] rfl)
  · rw [if_neg b1] at hm
    refine lv_iconst (v := 0) hx hb dX4_release_49 (by decide) ?_
    exact xir F hP hS (Option.some.inj hm).symm (by decide) (by decide) dX4_release_50
def f_X4_release_39 (σ : St) (x1 : Int32) (s1 : Int32) : Option (RV × St) :=
  f_X4_release_42 (up2 σ 8 0 s1) x1
set_option maxHeartbeats 4000000 in
set_option maxRecDepth 100000 in
theorem w_X4_release_39 {p : Program} {l : Launch} {e : Env} {s : State} {m : MethodId} {args : Array Value} {below : List Frame} {meth : Method} {c : Code} {G : GT} {lo : Nat → Int64} (F : Fx p l s args m meth c G cX4_release 3 (some .int) RX4) {σ : St} {x1 : Int32} {s1 : Int32} {r : RV × St} (hm : f_X4_release_39 σ x1 s1 = some r) {H : Heap} {locs : List Loc} (hP : va_P (gD G) vwCl (wld G lo σ) H) (hS : va_S (gF G) s.heap H locs) {ls : Array Slot} (hl : lv_has ls 3 [(0, .ref (gA G 8)), (1, .int x1)]) : W p l e (RM 2 48 0 0) s m args below meth c H locs 0 0 (vx_MQ below (QCr G lo r) (XCr G lo r) args s 0 0 (gF G)) (F0 m 39 ls [.int s1, .ref (gA G 8)]) := by
  obtain ⟨hx, hb, hrt, hml, hown, hts, hlocks, hC, htab, hst⟩ := id F
  unfold f_X4_release_39 at hm
  refine xp F (v := s1) (ty := .int) 0 inX4 tyX4_ok nmX4 hP hS (kd_k kdc_8 (by decide)) (wc4 kdc_8) (wu4_0 kdc_8) rfl (by decide) tk_553 rfl rfl rfl rfl rfl (Nat.le_of_ble_eq_true rfl) dX4_release_39 (fun H locs hP hS => ?_)
  exact w_X4_release_42 F hm hP hS (lv_sub hl [0, 1] rfl)
def f_X4_release_14 (σ : St) (x1 : Int32) (s1 : Int32) : Option (RV × St) :=
  if ((up2 σ 8 0 s1) 8 0) = 0 then
    if x1 < 0 ∨ 17 ≤ x1.toNatClampNeg then none
    else
      if ((up2 σ 8 0 s1) 20 x1.toNatClampNeg) = 0 then
        f_X4_release_39 (up2 σ 8 0 s1) x1 0
      else
        f_X4_release_39 (up2 σ 8 0 s1) x1 2
  else
    f_X4_release_42 (up2 σ 8 0 s1) x1
set_option maxHeartbeats 4000000 in
set_option maxRecDepth 100000 in
theorem w_X4_release_14 {p : Program} {l : Launch} {e : Env} {s : State} {m : MethodId} {args : Array Value} {below : List Frame} {meth : Method} {c : Code} {G : GT} {lo : Nat → Int64} (F : Fx p l s args m meth c G cX4_release 3 (some .int) RX4) {σ : St} {x1 : Int32} {s1 : Int32} {r : RV × St} (hm : f_X4_release_14 σ x1 s1 = some r) {H : Heap} {locs : List Loc} (hP : va_P (gD G) vwCl (wld G lo σ) H) (hS : va_S (gF G) s.heap H locs) {ls : Array Slot} (hl : lv_has ls 3 [(0, .ref (gA G 8)), (1, .int x1)]) : W p l e (RM 2 48 0 0) s m args below meth c H locs 0 0 (vx_MQ below (QCr G lo r) (XCr G lo r) args s 0 0 (gF G)) (F0 m 14 ls [.int s1, .ref (gA G 8)]) := by
  obtain ⟨hx, hb, hrt, hml, hown, hts, hlocks, hC, htab, hst⟩ := id F
  unfold f_X4_release_14 at hm
  refine xp F (v := s1) (ty := .int) 0 inX4 tyX4_ok nmX4 hP hS (kd_k kdc_8 (by decide)) (wc4 kdc_8) (wu4_0 kdc_8) rfl (by decide) tk_553 rfl rfl rfl rfl rfl (Nat.le_of_ble_eq_true rfl) dX4_release_14 (fun H locs hP hS => ?_)
  refine lv_aload_n hx hb dX4_release_17 rfl (lv_at hl 0 rfl) ?_
  refine xg F 0 inX4 hP (kd_k kdc_8 (by decide)) (wc4 kdc_8) rfl (by decide) tk_553 rfl rfl dX4_release_18 ?_
  refine lv_if_ne (tgt := 42) hx hb dX4_release_21 (by decide) (fun b1 => ?_) (fun b1 => ?_)
  · rw [if_neg b1] at hm
    exact w_X4_release_42 F hm hP hS (lv_sub hl [0, 1] rfl)
  · rw [if_pos b1] at hm
    refine lv_aload_n hx hb dX4_release_24 rfl (lv_at hl 0 rfl) ?_
    refine lv_aload_n hx hb dX4_release_25 rfl (lv_at hl 0 rfl) ?_
    refine xg F 17 inX4 hP (kd_k kdc_8 (by decide)) (wc4 kdc_8) rfl (by decide) tk_570 rfl rfl dX4_release_26 ?_
    refine lv_iload_n hx hb dX4_release_29 rfl (lv_at hl 1 rfl) ?_
    by_cases b2 : (x1 < 0 ∨ 17 ≤ x1.toNatClampNeg)
    · rw [if_pos b2] at hm
      cases hm
    · rw [if_neg b2] at hm
      refine xzl F hP kdc_20 lnc_20 b2 dX4_release_30 ?_
      refine lv_if_eq (tgt := 38) hx hb dX4_release_31 (by decide) (fun b3 => ?_) (fun b3 => ?_)
      · rw [if_pos b3] at hm
        refine lv_iconst (v := 0) hx hb dX4_release_38 (by decide) ?_
        exact w_X4_release_39 F hm hP hS (lv_sub hl [0, 1] rfl)
      · rw [if_neg b3] at hm
        refine lv_iconst (v := 2) hx hb dX4_release_34 (by decide) ?_
        refine lv_goto (tgt := 39) hx hb dX4_release_35 (by decide) ?_
        exact w_X4_release_39 F hm hP hS (lv_sub hl [0, 1] rfl)
def f_X4_release (σ : St) (x1 : Int32) : Option (RV × St) :=
  ri (f_X4_isWave σ x1) (fun x1_ =>
    if x1_ = 0 then
      f_X4_release_14 σ x1 1
    else
      f_X4_release_14 σ x1 0)
set_option maxHeartbeats 4000000 in
set_option maxRecDepth 100000 in
theorem c_X4_release {l : Launch} {G : GT} {σ : St} {x1 : Int32} {r : RV × St} (hm : f_X4_release σ x1 = some r) : MC l G yX4_release cX4_release 3 (some .int) 2 48 0 0 [.inr 8, .inl x1] σ r := by
  refine xbody (by decide) (Nat.le_of_ble_eq_true rfl) ?_
  intro lo p e s m args below meth c F hP ls hl
  have F : Fx p l s args m meth c G cX4_release 3 (some .int) RX4 := F
  obtain ⟨hx, hb, hrt, hml, hown, hts, hlocks, hC, htab, hst⟩ := id F
  have hS : va_S (gF G) s.heap s.heap [] := va_S.rf
  have hl : lv_has ls 3 [(0, .ref (gA G 8)), (1, .int x1)] := hl
  unfold f_X4_release at hm
  refine lv_aload_n hx hb dX4_release_0 rfl (lv_at hl 0 rfl) ?_
  refine lv_aload_n hx hb dX4_release_1 rfl (lv_at hl 0 rfl) ?_
  refine lv_iload_n hx hb dX4_release_2 rfl (lv_at hl 1 rfl) ?_
  obtain ⟨x1_, h1, hm⟩ := ri_inv hm
  refine xV F (c_X4_isWave h1) tk_711 tk_708 tk_710 tu_45 tk_6 rfl 1 (by decide +kernel) rfl ⟨Nat.le_of_ble_eq_true rfl, Nat.le_of_ble_eq_true rfl⟩ hP hS (kd_k kdc_8 (by decide)) (wc4 kdc_8) rfl hl.1 rfl (Nat.le_of_ble_eq_true rfl) dX4_release_3 ⟨Nat.le_of_ble_eq_true rfl, Nat.le_of_ble_eq_true rfl⟩ (fun v hv H locs hP hS => ?_) (fun E hE => by cases hE)
  cases hv
  replace hP : va_P (gD G) vwCl (wld G lo σ) H := hP
  refine W.eq (g2 := F0 m 6 ls [.int x1_, .ref (gA G 8)]) rfl ?_
  refine lv_if_ne (tgt := 13) hx hb dX4_release_6 (by decide) (fun b2 => ?_) (fun b2 => ?_)
  · rw [if_neg b2] at hm
    refine lv_iconst (v := 0) hx hb dX4_release_13 (by decide) ?_
    exact w_X4_release_14 F hm hP hS (lv_sub hl [0, 1] rfl)
  · rw [if_pos b2] at hm
    refine lv_iconst (v := 1) hx hb dX4_release_9 (by decide) ?_
    refine lv_goto (tgt := 14) hx hb dX4_release_10 (by decide) ?_
    exact w_X4_release_14 F hm hP hS (lv_sub hl [0, 1] rfl)
/-! ===== X4_done ===== -/
def f_X4_done_187 (σ : St) (x1 : Int32) : Nat → Int32 → Int32 → Option (RV × St)
  | 0, _, _ => none
  | n + 1, x2, x3 =>
    if (σ 8 2) ≤ x3 then
      some (.inl (some (.inl x2)), σ)
    else
      if x3 < 0 ∨ 16 ≤ x3.toNatClampNeg then none
      else
        if x1 < 0 ∨ 16 ≤ x1.toNatClampNeg then none
        else
          if (σ 13 x3.toNatClampNeg) = (σ 13 x1.toNatClampNeg) then
            if (σ 15 x3.toNatClampNeg) = 0 then
              f_X4_done_187 σ x1 n (x2 + 1) (x3 + 1)
            else
              f_X4_done_187 σ x1 n (x2 + 0) (x3 + 1)
          else
            f_X4_done_187 σ x1 n (x2 + 0) (x3 + 1)
set_option maxHeartbeats 4000000 in
set_option maxRecDepth 100000 in
theorem w_X4_done_187 {p : Program} {l : Launch} {e : Env} {s : State} {m : MethodId} {args : Array Value} {below : List Frame} {meth : Method} {c : Code} {G : GT} {lo : Nat → Int64} (F : Fx p l s args m meth c G cX4_done 4 (some .int) RX4) {σ : St} {x1 : Int32} : ∀ (n : Nat) {x2 : Int32} {x3 : Int32} {r : RV × St}, f_X4_done_187 σ x1 n x2 x3 = some r → ∀ {H : Heap} {locs : List Loc}, va_P (gD G) vwCl (wld G lo σ) H → va_S (gF G) s.heap H locs → ∀ {ls : Array Slot}, lv_has ls 4 [(0, .ref (gA G 8)), (1, .int x1), (2, .int x2), (3, .int x3)] → W p l e (RM 2 43 0 0) s m args below meth c H locs 0 0 (vx_MQ below (QCr G lo r) (XCr G lo r) args s 0 0 (gF G)) (F0 m 187 ls []) := by
  obtain ⟨hx, hb, hrt, hml, hown, hts, hlocks, hC, htab, hst⟩ := id F
  intro n
  induction n with
  | zero =>
    intro x2 x3 r hm
    simp only [f_X4_done_187] at hm
    cases hm
  | succ n ih =>
    intro x2 x3 r hm H locs hP hS ls hl
    rw [f_X4_done_187] at hm
    refine lv_iload_n hx hb dX4_done_187 rfl (lv_at hl 3 rfl) ?_
    refine lv_aload_n hx hb dX4_done_188 rfl (lv_at hl 0 rfl) ?_
    refine xg F 2 inX4 hP (kd_k kdc_8 (by decide)) (wc4 kdc_8) rfl (by decide) tk_555 rfl rfl dX4_done_189 ?_
    refine lv_icmp_ge (tgt := 233) hx hb dX4_done_192 (by decide) (fun b1 => ?_) (fun b1 => ?_)
    · rw [if_pos b1] at hm
      refine lv_iload_n hx hb dX4_done_233 rfl (lv_at hl 2 rfl) ?_
      exact xir F hP hS (Option.some.inj hm).symm (by decide) (by decide) dX4_done_234
    · rw [if_neg b1] at hm
      refine lv_iload_n hx hb dX4_done_195 rfl (lv_at hl 2 rfl) ?_
      refine lv_aload_n hx hb dX4_done_196 rfl (lv_at hl 0 rfl) ?_
      refine xg F 7 inX4 hP (kd_k kdc_8 (by decide)) (wc4 kdc_8) rfl (by decide) tk_560 rfl rfl dX4_done_197 ?_
      refine lv_iload_n hx hb dX4_done_200 rfl (lv_at hl 3 rfl) ?_
      by_cases b2 : (x3 < 0 ∨ 16 ≤ x3.toNatClampNeg)
      · rw [if_pos b2] at hm
        cases hm
      · rw [if_neg b2] at hm
        refine xil F hP kdc_13 lnc_13 b2 dX4_done_201 ?_
        refine lv_aload_n hx hb dX4_done_202 rfl (lv_at hl 0 rfl) ?_
        refine xg F 7 inX4 hP (kd_k kdc_8 (by decide)) (wc4 kdc_8) rfl (by decide) tk_560 rfl rfl dX4_done_203 ?_
        refine lv_iload_n hx hb dX4_done_206 rfl (lv_at hl 1 rfl) ?_
        by_cases b3 : (x1 < 0 ∨ 16 ≤ x1.toNatClampNeg)
        · rw [if_pos b3] at hm
          cases hm
        · rw [if_neg b3] at hm
          refine xil F hP kdc_13 lnc_13 b3 dX4_done_207 ?_
          refine lv_icmp_ne (tgt := 224) hx hb dX4_done_208 (by decide) (fun b4 => ?_) (fun b4 => ?_)
          · rw [if_neg b4] at hm
            refine lv_iconst (v := 0) hx hb dX4_done_224 (by decide) ?_
            refine lv_iadd hx hb dX4_done_225 ?_
            refine lv_istore_n (lv' := [(2, .int (x2 + 0)), (0, .ref (gA G 8)), (1, .int x1), (3, .int x3)]) hx hb dX4_done_226 rfl hl (by decide) rfl (fun ls hl => ?_)
            refine lv_iinc (v := (x3 + 1)) (lv' := [(3, .int (x3 + 1)), (2, .int (x2 + 0)), (0, .ref (gA G 8)), (1, .int x1)]) hx hb dX4_done_227 hl (k := 3) rfl rfl (by decide) rfl (fun ls hl => ?_)
            refine lv_goto (tgt := 187) hx hb dX4_done_230 (by decide) ?_
            exact ih hm hP hS (lv_sub hl [2, 3, 1, 0] rfl)
          · rw [if_pos b4] at hm
            refine lv_aload_n hx hb dX4_done_211 rfl (lv_at hl 0 rfl) ?_
            refine xg F 9 inX4 hP (kd_k kdc_8 (by decide)) (wc4 kdc_8) rfl (by decide) tk_562 rfl rfl dX4_done_212 ?_
            refine lv_iload_n hx hb dX4_done_215 rfl (lv_at hl 3 rfl) ?_
            refine xzl F hP kdc_15 lnc_15 b2 dX4_done_216 ?_
            refine lv_if_ne (tgt := 224) hx hb dX4_done_217 (by decide) (fun b5 => ?_) (fun b5 => ?_)
            · rw [if_neg b5] at hm
              refine lv_iconst (v := 0) hx hb dX4_done_224 (by decide) ?_
              refine lv_iadd hx hb dX4_done_225 ?_
              refine lv_istore_n (lv' := [(2, .int (x2 + 0)), (0, .ref (gA G 8)), (1, .int x1), (3, .int x3)]) hx hb dX4_done_226 rfl hl (by decide) rfl (fun ls hl => ?_)
              refine lv_iinc (v := (x3 + 1)) (lv' := [(3, .int (x3 + 1)), (2, .int (x2 + 0)), (0, .ref (gA G 8)), (1, .int x1)]) hx hb dX4_done_227 hl (k := 3) rfl rfl (by decide) rfl (fun ls hl => ?_)
              refine lv_goto (tgt := 187) hx hb dX4_done_230 (by decide) ?_
              exact ih hm hP hS (lv_sub hl [2, 3, 1, 0] rfl)
            · rw [if_pos b5] at hm
              refine lv_iconst (v := 1) hx hb dX4_done_220 (by decide) ?_
              refine lv_goto (tgt := 225) hx hb dX4_done_221 (by decide) ?_
              refine lv_iadd hx hb dX4_done_225 ?_
              refine lv_istore_n (lv' := [(2, .int (x2 + 1)), (0, .ref (gA G 8)), (1, .int x1), (3, .int x3)]) hx hb dX4_done_226 rfl hl (by decide) rfl (fun ls hl => ?_)
              refine lv_iinc (v := (x3 + 1)) (lv' := [(3, .int (x3 + 1)), (2, .int (x2 + 1)), (0, .ref (gA G 8)), (1, .int x1)]) hx hb dX4_done_227 hl (k := 3) rfl rfl (by decide) rfl (fun ls hl => ?_)
              refine lv_goto (tgt := 187) hx hb dX4_done_230 (by decide) ?_
              exact ih hm hP hS (lv_sub hl [2, 3, 1, 0] rfl)
def f_X4_done_100 (x1 : Int32) : Nat → St → Int32 → Option (RV × St)
  | 0, _, _ => none
  | n + 1, σ, x2 =>
    if 10 ≤ x2 then
      f_X4_done_187 σ x1 40 0 0
    else
      if x2 < 0 ∨ 10 ≤ x2.toNatClampNeg then none
      else
        if ((10 * x1) + x2) < 0 ∨ 160 ≤ ((10 * x1) + x2).toNatClampNeg then none
        else
          if (σ 21 x2.toNatClampNeg) ≤ (σ 16 ((10 * x1) + x2).toNatClampNeg) then
            if (σ 16 ((10 * x1) + x2).toNatClampNeg) ≤ 0 then
              f_X4_done_100 x1 n (up2 σ 21 x2.toNatClampNeg (σ 21 x2.toNatClampNeg)) (x2 + 1)
            else
              f_X4_done_100 x1 n (up2 σ 21 x2.toNatClampNeg 0) (x2 + 1)
          else
            f_X4_done_100 x1 n (up2 σ 21 x2.toNatClampNeg ((σ 21 x2.toNatClampNeg) - (σ 16 ((10 * x1) + x2).toNatClampNeg))) (x2 + 1)
set_option maxHeartbeats 4000000 in
set_option maxRecDepth 100000 in
theorem w_X4_done_100 {p : Program} {l : Launch} {e : Env} {s : State} {m : MethodId} {args : Array Value} {below : List Frame} {meth : Method} {c : Code} {G : GT} {lo : Nat → Int64} (F : Fx p l s args m meth c G cX4_done 4 (some .int) RX4) {x1 : Int32} : ∀ (n : Nat) {σ : St} {x2 : Int32} {r : RV × St}, f_X4_done_100 x1 n σ x2 = some r → ∀ {H : Heap} {locs : List Loc}, va_P (gD G) vwCl (wld G lo σ) H → va_S (gF G) s.heap H locs → ∀ {ls : Array Slot}, lv_has ls 4 [(0, .ref (gA G 8)), (1, .int x1), (2, .int x2)] → W p l e (RM 2 43 0 0) s m args below meth c H locs 0 0 (vx_MQ below (QCr G lo r) (XCr G lo r) args s 0 0 (gF G)) (F0 m 100 ls []) := by
  obtain ⟨hx, hb, hrt, hml, hown, hts, hlocks, hC, htab, hst⟩ := id F
  intro n
  induction n with
  | zero =>
    intro σ x2 r hm
    simp only [f_X4_done_100] at hm
    cases hm
  | succ n ih =>
    intro σ x2 r hm H locs hP hS ls hl
    rw [f_X4_done_100] at hm
    refine lv_iload_n hx hb dX4_done_100 rfl (lv_at hl 2 rfl) ?_
    refine lv_bipush (v := 10) hx hb dX4_done_101 (by decide) ?_
    refine lv_icmp_ge (tgt := 183) hx hb dX4_done_103 (by decide) (fun b1 => ?_) (fun b1 => ?_)
    · rw [if_pos b1] at hm
      refine lv_iconst (v := 0) hx hb dX4_done_183 (by decide) ?_
      refine lv_istore_n (lv' := [(2, .int 0), (0, .ref (gA G 8)), (1, .int x1)]) hx hb dX4_done_184 rfl hl (by decide) rfl (fun ls hl => ?_)
      refine lv_iconst (v := 0) hx hb dX4_done_185 (by decide) ?_
      refine lv_istore_n (lv' := [(3, .int 0), (2, .int 0), (0, .ref (gA G 8)), (1, .int x1)]) hx hb dX4_done_186 rfl hl (by decide) rfl (fun ls hl => ?_)
      exact w_X4_done_187 F 40 hm hP hS (lv_sub hl [2, 3, 1, 0] rfl)
    · rw [if_neg b1] at hm
      refine lv_aload_n hx hb dX4_done_106 rfl (lv_at hl 0 rfl) ?_
      refine xg F 18 inX4 hP (kd_k kdc_8 (by decide)) (wc4 kdc_8) rfl (by decide) tk_571 rfl rfl dX4_done_107 ?_
      refine lv_iload_n hx hb dX4_done_110 rfl (lv_at hl 2 rfl) ?_
      refine lv_aload_n hx hb dX4_done_111 rfl (lv_at hl 0 rfl) ?_
      refine xg F 18 inX4 hP (kd_k kdc_8 (by decide)) (wc4 kdc_8) rfl (by decide) tk_571 rfl rfl dX4_done_112 ?_
      refine lv_iload_n hx hb dX4_done_115 rfl (lv_at hl 2 rfl) ?_
      by_cases b2 : (x2 < 0 ∨ 10 ≤ x2.toNatClampNeg)
      · rw [if_pos b2] at hm
        cases hm
      · rw [if_neg b2] at hm
        refine xil F hP kdc_21 lnc_21 b2 dX4_done_116 ?_
        refine lv_aload_n hx hb dX4_done_117 rfl (lv_at hl 0 rfl) ?_
        refine xg F 10 inX4 hP (kd_k kdc_8 (by decide)) (wc4 kdc_8) rfl (by decide) tk_563 rfl rfl dX4_done_118 ?_
        refine lv_bipush (v := 10) hx hb dX4_done_121 (by decide) ?_
        refine lv_iload_n hx hb dX4_done_123 rfl (lv_at hl 1 rfl) ?_
        refine lv_imul hx hb dX4_done_124 ?_
        refine lv_iload_n hx hb dX4_done_125 rfl (lv_at hl 2 rfl) ?_
        refine lv_iadd hx hb dX4_done_126 ?_
        by_cases b3 : (((10 * x1) + x2) < 0 ∨ 160 ≤ ((10 * x1) + x2).toNatClampNeg)
        · rw [if_pos b3] at hm
          cases hm
        · rw [if_neg b3] at hm
          refine xil F hP kdc_16 lnc_16 b3 dX4_done_127 ?_
          refine lv_icmp_le (tgt := 152) hx hb dX4_done_128 (by decide) (fun b4 => ?_) (fun b4 => ?_)
          · rw [if_pos b4] at hm
            refine lv_aload_n hx hb dX4_done_152 rfl (lv_at hl 0 rfl) ?_
            refine xg F 10 inX4 hP (kd_k kdc_8 (by decide)) (wc4 kdc_8) rfl (by decide) tk_563 rfl rfl dX4_done_153 ?_
            refine lv_bipush (v := 10) hx hb dX4_done_156 (by decide) ?_
            refine lv_iload_n hx hb dX4_done_158 rfl (lv_at hl 1 rfl) ?_
            refine lv_imul hx hb dX4_done_159 ?_
            refine lv_iload_n hx hb dX4_done_160 rfl (lv_at hl 2 rfl) ?_
            refine lv_iadd hx hb dX4_done_161 ?_
            refine xil F hP kdc_16 lnc_16 b3 dX4_done_162 ?_
            refine lv_if_le (tgt := 170) hx hb dX4_done_163 (by decide) (fun b5 => ?_) (fun b5 => ?_)
            · rw [if_pos b5] at hm
              refine lv_aload_n hx hb dX4_done_170 rfl (lv_at hl 0 rfl) ?_
              refine xg F 18 inX4 hP (kd_k kdc_8 (by decide)) (wc4 kdc_8) rfl (by decide) tk_571 rfl rfl dX4_done_171 ?_
              refine lv_iload_n hx hb dX4_done_174 rfl (lv_at hl 2 rfl) ?_
              refine xil F hP kdc_21 lnc_21 b2 dX4_done_175 ?_
              refine xis F (v := (σ 21 x2.toNatClampNeg)) hP hS kdc_21 lnc_21 b2 dX4_done_176 (fun H locs hP hS => ?_)
              refine lv_iinc (v := (x2 + 1)) (lv' := [(2, .int (x2 + 1)), (0, .ref (gA G 8)), (1, .int x1)]) hx hb dX4_done_177 hl (k := 2) rfl rfl (by decide) rfl (fun ls hl => ?_)
              refine lv_goto (tgt := 100) hx hb dX4_done_180 (by decide) ?_
              exact ih hm hP hS (lv_sub hl [1, 2, 0] rfl)
            · rw [if_neg b5] at hm
              refine lv_iconst (v := 0) hx hb dX4_done_166 (by decide) ?_
              refine lv_goto (tgt := 176) hx hb dX4_done_167 (by decide) ?_
              refine xis F (v := 0) hP hS kdc_21 lnc_21 b2 dX4_done_176 (fun H locs hP hS => ?_)
              refine lv_iinc (v := (x2 + 1)) (lv' := [(2, .int (x2 + 1)), (0, .ref (gA G 8)), (1, .int x1)]) hx hb dX4_done_177 hl (k := 2) rfl rfl (by decide) rfl (fun ls hl => ?_)
              refine lv_goto (tgt := 100) hx hb dX4_done_180 (by decide) ?_
              exact ih hm hP hS (lv_sub hl [1, 2, 0] rfl)
          · rw [if_neg b4] at hm
            refine lv_aload_n hx hb dX4_done_131 rfl (lv_at hl 0 rfl) ?_
            refine xg F 18 inX4 hP (kd_k kdc_8 (by decide)) (wc4 kdc_8) rfl (by decide) tk_571 rfl rfl dX4_done_132 ?_
            refine lv_iload_n hx hb dX4_done_135 rfl (lv_at hl 2 rfl) ?_
            refine xil F hP kdc_21 lnc_21 b2 dX4_done_136 ?_
            refine lv_aload_n hx hb dX4_done_137 rfl (lv_at hl 0 rfl) ?_
            refine xg F 10 inX4 hP (kd_k kdc_8 (by decide)) (wc4 kdc_8) rfl (by decide) tk_563 rfl rfl dX4_done_138 ?_
            refine lv_bipush (v := 10) hx hb dX4_done_141 (by decide) ?_
            refine lv_iload_n hx hb dX4_done_143 rfl (lv_at hl 1 rfl) ?_
            refine lv_imul hx hb dX4_done_144 ?_
            refine lv_iload_n hx hb dX4_done_145 rfl (lv_at hl 2 rfl) ?_
            refine lv_iadd hx hb dX4_done_146 ?_
            refine xil F hP kdc_16 lnc_16 b3 dX4_done_147 ?_
            refine lv_isub hx hb dX4_done_148 ?_
            refine lv_goto (tgt := 176) hx hb dX4_done_149 (by decide) ?_
            refine xis F (v := ((σ 21 x2.toNatClampNeg) - (σ 16 ((10 * x1) + x2).toNatClampNeg))) hP hS kdc_21 lnc_21 b2 dX4_done_176 (fun H locs hP hS => ?_)
            refine lv_iinc (v := (x2 + 1)) (lv' := [(2, .int (x2 + 1)), (0, .ref (gA G 8)), (1, .int x1)]) hx hb dX4_done_177 hl (k := 2) rfl rfl (by decide) rfl (fun ls hl => ?_)
            refine lv_goto (tgt := 100) hx hb dX4_done_180 (by decide) ?_
            exact ih hm hP hS (lv_sub hl [1, 2, 0] rfl)
def f_X4_done_82 (σ : St) (x1 : Int32) : Option (RV × St) :=
  if (σ 8 0) ≤ 0 then
    if x1 < 0 ∨ 16 ≤ x1.toNatClampNeg then none
    else
      f_X4_done_100 x1 40 (up2 σ 15 x1.toNatClampNeg 1) 0
  else
    some (.inl (some (.inl 0)), σ)
set_option maxHeartbeats 4000000 in
set_option maxRecDepth 100000 in
theorem w_X4_done_82 {p : Program} {l : Launch} {e : Env} {s : State} {m : MethodId} {args : Array Value} {below : List Frame} {meth : Method} {c : Code} {G : GT} {lo : Nat → Int64} (F : Fx p l s args m meth c G cX4_done 4 (some .int) RX4) {σ : St} {x1 : Int32} {r : RV × St} (hm : f_X4_done_82 σ x1 = some r) {H : Heap} {locs : List Loc} (hP : va_P (gD G) vwCl (wld G lo σ) H) (hS : va_S (gF G) s.heap H locs) {ls : Array Slot} (hl : lv_has ls 4 [(0, .ref (gA G 8)), (1, .int x1)]) : W p l e (RM 2 43 0 0) s m args below meth c H locs 0 0 (vx_MQ below (QCr G lo r) (XCr G lo r) args s 0 0 (gF G)) (F0 m 82 ls []) := by
  obtain ⟨hx, hb, hrt, hml, hown, hts, hlocks, hC, htab, hst⟩ := id F
  unfold f_X4_done_82 at hm
  refine lv_aload_n hx hb dX4_done_82 rfl (lv_at hl 0 rfl) ?_
  refine xg F 0 inX4 hP (kd_k kdc_8 (by decide)) (wc4 kdc_8) rfl (by decide) tk_553 rfl rfl dX4_done_83 ?_
  refine lv_if_le (tgt := 91) hx hb dX4_done_86 (by decide) (fun b1 => ?_) (fun b1 => ?_)
  · rw [if_pos b1] at hm
    refine lv_aload_n hx hb dX4_done_91 rfl (lv_at hl 0 rfl) ?_
    refine xg F 9 inX4 hP (kd_k kdc_8 (by decide)) (wc4 kdc_8) rfl (by decide) tk_562 rfl rfl dX4_done_92 ?_
    refine lv_iload_n hx hb dX4_done_95 rfl (lv_at hl 1 rfl) ?_
    refine lv_iconst (v := 1) hx hb dX4_done_96 (by decide) ?_
    by_cases b2 : (x1 < 0 ∨ 16 ≤ x1.toNatClampNeg)
    · rw [if_pos b2] at hm
      cases hm
    · rw [if_neg b2] at hm
      refine xzs F (v := 1) hP hS kdc_15 lnc_15 b2 rfl dX4_done_97 (fun H locs hP hS => ?_)
      refine lv_iconst (v := 0) hx hb dX4_done_98 (by decide) ?_
      refine lv_istore_n (lv' := [(2, .int 0), (0, .ref (gA G 8)), (1, .int x1)]) hx hb dX4_done_99 rfl hl (by decide) rfl (fun ls hl => ?_)
      exact w_X4_done_100 F 40 hm hP hS (lv_sub hl [1, 2, 0] rfl)
  · rw [if_neg b1] at hm
    refine lv_iconst (v := 0) hx hb dX4_done_89 (by decide) ?_
    exact xir F hP hS (Option.some.inj hm).symm (by decide) (by decide) dX4_done_90
def f_X4_done_79 (σ : St) (x1 : Int32) (s1 : Int32) : Option (RV × St) :=
  f_X4_done_82 (up2 σ 8 0 s1) x1
set_option maxHeartbeats 4000000 in
set_option maxRecDepth 100000 in
theorem w_X4_done_79 {p : Program} {l : Launch} {e : Env} {s : State} {m : MethodId} {args : Array Value} {below : List Frame} {meth : Method} {c : Code} {G : GT} {lo : Nat → Int64} (F : Fx p l s args m meth c G cX4_done 4 (some .int) RX4) {σ : St} {x1 : Int32} {s1 : Int32} {r : RV × St} (hm : f_X4_done_79 σ x1 s1 = some r) {H : Heap} {locs : List Loc} (hP : va_P (gD G) vwCl (wld G lo σ) H) (hS : va_S (gF G) s.heap H locs) {ls : Array Slot} (hl : lv_has ls 4 [(0, .ref (gA G 8)), (1, .int x1)]) : W p l e (RM 2 43 0 0) s m args below meth c H locs 0 0 (vx_MQ below (QCr G lo r) (XCr G lo r) args s 0 0 (gF G)) (F0 m 79 ls [.int s1, .ref (gA G 8)]) := by
  obtain ⟨hx, hb, hrt, hml, hown, hts, hlocks, hC, htab, hst⟩ := id F
  unfold f_X4_done_79 at hm
  refine xp F (v := s1) (ty := .int) 0 inX4 tyX4_ok nmX4 hP hS (kd_k kdc_8 (by decide)) (wc4 kdc_8) (wu4_0 kdc_8) rfl (by decide) tk_553 rfl rfl rfl rfl rfl (Nat.le_of_ble_eq_true rfl) dX4_done_79 (fun H locs hP hS => ?_)
  exact w_X4_done_82 F hm hP hS (lv_sub hl [0, 1] rfl)
def f_X4_done_74 (σ : St) (x1 : Int32) : Option (RV × St) :=
  f_X4_done_79 σ x1 2
set_option maxHeartbeats 4000000 in
set_option maxRecDepth 100000 in
theorem w_X4_done_74 {p : Program} {l : Launch} {e : Env} {s : State} {m : MethodId} {args : Array Value} {below : List Frame} {meth : Method} {c : Code} {G : GT} {lo : Nat → Int64} (F : Fx p l s args m meth c G cX4_done 4 (some .int) RX4) {σ : St} {x1 : Int32} {r : RV × St} (hm : f_X4_done_74 σ x1 = some r) {H : Heap} {locs : List Loc} (hP : va_P (gD G) vwCl (wld G lo σ) H) (hS : va_S (gF G) s.heap H locs) {ls : Array Slot} (hl : lv_has ls 4 [(0, .ref (gA G 8)), (1, .int x1)]) : W p l e (RM 2 43 0 0) s m args below meth c H locs 0 0 (vx_MQ below (QCr G lo r) (XCr G lo r) args s 0 0 (gF G)) (F0 m 74 ls [.ref (gA G 8)]) := by
  obtain ⟨hx, hb, hrt, hml, hown, hts, hlocks, hC, htab, hst⟩ := id F
  unfold f_X4_done_74 at hm
  refine lv_iconst (v := 2) hx hb dX4_done_74 (by decide) ?_
  refine lv_goto (tgt := 79) hx hb dX4_done_75 (by decide) ?_
  exact w_X4_done_79 F hm hP hS (lv_sub hl [0, 1] rfl)
def f_X4_done_43 (σ : St) (x1 : Int32) : Option (RV × St) :=
  if (σ 8 0) = 0 then
    if x1 < 0 ∨ 16 ≤ x1.toNatClampNeg then none
    else
      if (σ 13 x1.toNatClampNeg) < 0 ∨ 17 ≤ (σ 13 x1.toNatClampNeg).toNatClampNeg then none
      else
        if (σ 20 (σ 13 x1.toNatClampNeg).toNatClampNeg) = 0 then
          f_X4_done_74 σ x1
        else
          if (σ 15 x1.toNatClampNeg) = 0 then
            f_X4_done_79 σ x1 0
          else
            f_X4_done_74 σ x1
  else
    f_X4_done_82 σ x1
set_option maxHeartbeats 4000000 in
set_option maxRecDepth 100000 in
theorem w_X4_done_43 {p : Program} {l : Launch} {e : Env} {s : State} {m : MethodId} {args : Array Value} {below : List Frame} {meth : Method} {c : Code} {G : GT} {lo : Nat → Int64} (F : Fx p l s args m meth c G cX4_done 4 (some .int) RX4) {σ : St} {x1 : Int32} {r : RV × St} (hm : f_X4_done_43 σ x1 = some r) {H : Heap} {locs : List Loc} (hP : va_P (gD G) vwCl (wld G lo σ) H) (hS : va_S (gF G) s.heap H locs) {ls : Array Slot} (hl : lv_has ls 4 [(0, .ref (gA G 8)), (1, .int x1)]) : W p l e (RM 2 43 0 0) s m args below meth c H locs 0 0 (vx_MQ below (QCr G lo r) (XCr G lo r) args s 0 0 (gF G)) (F0 m 43 ls []) := by
  obtain ⟨hx, hb, hrt, hml, hown, hts, hlocks, hC, htab, hst⟩ := id F
  unfold f_X4_done_43 at hm
  refine lv_aload_n hx hb dX4_done_43 rfl (lv_at hl 0 rfl) ?_
  refine xg F 0 inX4 hP (kd_k kdc_8 (by decide)) (wc4 kdc_8) rfl (by decide) tk_553 rfl rfl dX4_done_44 ?_
  refine lv_if_ne (tgt := 82) hx hb dX4_done_47 (by decide) (fun b1 => ?_) (fun b1 => ?_)
  · rw [if_neg b1] at hm
    exact w_X4_done_82 F hm hP hS (lv_sub hl [0, 1] rfl)
  · rw [if_pos b1] at hm
    refine lv_aload_n hx hb dX4_done_50 rfl (lv_at hl 0 rfl) ?_
    refine lv_aload_n hx hb dX4_done_51 rfl (lv_at hl 0 rfl) ?_
    refine xg F 17 inX4 hP (kd_k kdc_8 (by decide)) (wc4 kdc_8) rfl (by decide) tk_570 rfl rfl dX4_done_52 ?_
    refine lv_aload_n hx hb dX4_done_55 rfl (lv_at hl 0 rfl) ?_
    refine xg F 7 inX4 hP (kd_k kdc_8 (by decide)) (wc4 kdc_8) rfl (by decide) tk_560 rfl rfl dX4_done_56 ?_
    refine lv_iload_n hx hb dX4_done_59 rfl (lv_at hl 1 rfl) ?_
    by_cases b2 : (x1 < 0 ∨ 16 ≤ x1.toNatClampNeg)
    · rw [if_pos b2] at hm
      cases hm
    · rw [if_neg b2] at hm
      refine xil F hP kdc_13 lnc_13 b2 dX4_done_60 ?_
      by_cases b3 : ((σ 13 x1.toNatClampNeg) < 0 ∨ 17 ≤ (σ 13 x1.toNatClampNeg).toNatClampNeg)
      · rw [if_pos b3] at hm
        cases hm
      · rw [if_neg b3] at hm
        refine xzl F hP kdc_20 lnc_20 b3 dX4_done_61 ?_
        refine lv_if_eq (tgt := 74) hx hb dX4_done_62 (by decide) (fun b4 => ?_) (fun b4 => ?_)
        · rw [if_pos b4] at hm
          exact w_X4_done_74 F hm hP hS (lv_sub hl [0, 1] rfl)
        · rw [if_neg b4] at hm
          refine lv_aload_n hx hb dX4_done_65 rfl (lv_at hl 0 rfl) ?_
          refine xg F 9 inX4 hP (kd_k kdc_8 (by decide)) (wc4 kdc_8) rfl (by decide) tk_562 rfl rfl dX4_done_66 ?_
          refine lv_iload_n hx hb dX4_done_69 rfl (lv_at hl 1 rfl) ?_
          refine xzl F hP kdc_15 lnc_15 b2 dX4_done_70 ?_
          refine lv_if_eq (tgt := 78) hx hb dX4_done_71 (by decide) (fun b5 => ?_) (fun b5 => ?_)
          · rw [if_pos b5] at hm
            refine lv_iconst (v := 0) hx hb dX4_done_78 (by decide) ?_
            exact w_X4_done_79 F hm hP hS (lv_sub hl [0, 1] rfl)
          · rw [if_neg b5] at hm
            exact w_X4_done_74 F hm hP hS (lv_sub hl [0, 1] rfl)
def f_X4_done_40 (σ : St) (x1 : Int32) (s1 : Int32) : Option (RV × St) :=
  f_X4_done_43 (up2 σ 8 0 s1) x1
set_option maxHeartbeats 4000000 in
set_option maxRecDepth 100000 in
theorem w_X4_done_40 {p : Program} {l : Launch} {e : Env} {s : State} {m : MethodId} {args : Array Value} {below : List Frame} {meth : Method} {c : Code} {G : GT} {lo : Nat → Int64} (F : Fx p l s args m meth c G cX4_done 4 (some .int) RX4) {σ : St} {x1 : Int32} {s1 : Int32} {r : RV × St} (hm : f_X4_done_40 σ x1 s1 = some r) {H : Heap} {locs : List Loc} (hP : va_P (gD G) vwCl (wld G lo σ) H) (hS : va_S (gF G) s.heap H locs) {ls : Array Slot} (hl : lv_has ls 4 [(0, .ref (gA G 8)), (1, .int x1)]) : W p l e (RM 2 43 0 0) s m args below meth c H locs 0 0 (vx_MQ below (QCr G lo r) (XCr G lo r) args s 0 0 (gF G)) (F0 m 40 ls [.int s1, .ref (gA G 8)]) := by
  obtain ⟨hx, hb, hrt, hml, hown, hts, hlocks, hC, htab, hst⟩ := id F
  unfold f_X4_done_40 at hm
  refine xp F (v := s1) (ty := .int) 0 inX4 tyX4_ok nmX4 hP hS (kd_k kdc_8 (by decide)) (wc4 kdc_8) (wu4_0 kdc_8) rfl (by decide) tk_553 rfl rfl rfl rfl rfl (Nat.le_of_ble_eq_true rfl) dX4_done_40 (fun H locs hP hS => ?_)
  exact w_X4_done_43 F hm hP hS (lv_sub hl [0, 1] rfl)
def f_X4_done_14 (σ : St) (x1 : Int32) (s1 : Int32) : Option (RV × St) :=
  if ((up2 σ 8 0 s1) 8 0) = 0 then
    if x1 < 0 ∨ 16 ≤ x1.toNatClampNeg then none
    else
      if 1 ≤ ((up2 σ 8 0 s1) 13 x1.toNatClampNeg) then
        f_X4_done_40 (up2 σ 8 0 s1) x1 0
      else
        f_X4_done_40 (up2 σ 8 0 s1) x1 2
  else
    f_X4_done_43 (up2 σ 8 0 s1) x1
set_option maxHeartbeats 4000000 in
set_option maxRecDepth 100000 in
theorem w_X4_done_14 {p : Program} {l : Launch} {e : Env} {s : State} {m : MethodId} {args : Array Value} {below : List Frame} {meth : Method} {c : Code} {G : GT} {lo : Nat → Int64} (F : Fx p l s args m meth c G cX4_done 4 (some .int) RX4) {σ : St} {x1 : Int32} {s1 : Int32} {r : RV × St} (hm : f_X4_done_14 σ x1 s1 = some r) {H : Heap} {locs : List Loc} (hP : va_P (gD G) vwCl (wld G lo σ) H) (hS : va_S (gF G) s.heap H locs) {ls : Array Slot} (hl : lv_has ls 4 [(0, .ref (gA G 8)), (1, .int x1)]) : W p l e (RM 2 43 0 0) s m args below meth c H locs 0 0 (vx_MQ below (QCr G lo r) (XCr G lo r) args s 0 0 (gF G)) (F0 m 14 ls [.int s1, .ref (gA G 8)]) := by
  obtain ⟨hx, hb, hrt, hml, hown, hts, hlocks, hC, htab, hst⟩ := id F
  unfold f_X4_done_14 at hm
  refine xp F (v := s1) (ty := .int) 0 inX4 tyX4_ok nmX4 hP hS (kd_k kdc_8 (by decide)) (wc4 kdc_8) (wu4_0 kdc_8) rfl (by decide) tk_553 rfl rfl rfl rfl rfl (Nat.le_of_ble_eq_true rfl) dX4_done_14 (fun H locs hP hS => ?_)
  refine lv_aload_n hx hb dX4_done_17 rfl (lv_at hl 0 rfl) ?_
  refine xg F 0 inX4 hP (kd_k kdc_8 (by decide)) (wc4 kdc_8) rfl (by decide) tk_553 rfl rfl dX4_done_18 ?_
  refine lv_if_ne (tgt := 43) hx hb dX4_done_21 (by decide) (fun b1 => ?_) (fun b1 => ?_)
  · rw [if_neg b1] at hm
    exact w_X4_done_43 F hm hP hS (lv_sub hl [0, 1] rfl)
  · rw [if_pos b1] at hm
    refine lv_aload_n hx hb dX4_done_24 rfl (lv_at hl 0 rfl) ?_
    refine lv_aload_n hx hb dX4_done_25 rfl (lv_at hl 0 rfl) ?_
    refine xg F 7 inX4 hP (kd_k kdc_8 (by decide)) (wc4 kdc_8) rfl (by decide) tk_560 rfl rfl dX4_done_26 ?_
    refine lv_iload_n hx hb dX4_done_29 rfl (lv_at hl 1 rfl) ?_
    by_cases b2 : (x1 < 0 ∨ 16 ≤ x1.toNatClampNeg)
    · rw [if_pos b2] at hm
      cases hm
    · rw [if_neg b2] at hm
      refine xil F hP kdc_13 lnc_13 b2 dX4_done_30 ?_
      refine lv_iconst (v := 1) hx hb dX4_done_31 (by decide) ?_
      refine lv_icmp_ge (tgt := 39) hx hb dX4_done_32 (by decide) (fun b3 => ?_) (fun b3 => ?_)
      · rw [if_pos b3] at hm
        refine lv_iconst (v := 0) hx hb dX4_done_39 (by decide) ?_
        exact w_X4_done_40 F hm hP hS (lv_sub hl [0, 1] rfl)
      · rw [if_neg b3] at hm
        refine lv_iconst (v := 2) hx hb dX4_done_35 (by decide) ?_
        refine lv_goto (tgt := 40) hx hb dX4_done_36 (by decide) ?_
        exact w_X4_done_40 F hm hP hS (lv_sub hl [0, 1] rfl)
def f_X4_done (σ : St) (x1 : Int32) : Option (RV × St) :=
  ri (f_X4_isOrder σ x1) (fun x1_ =>
    if x1_ = 0 then
      f_X4_done_14 σ x1 1
    else
      f_X4_done_14 σ x1 0)
set_option maxHeartbeats 4000000 in
set_option maxRecDepth 100000 in
theorem c_X4_done {l : Launch} {G : GT} {σ : St} {x1 : Int32} {r : RV × St} (hm : f_X4_done σ x1 = some r) : MC l G yX4_done cX4_done 4 (some .int) 2 43 0 0 [.inr 8, .inl x1] σ r := by
  refine xbody (by decide) (Nat.le_of_ble_eq_true rfl) ?_
  intro lo p e s m args below meth c F hP ls hl
  have F : Fx p l s args m meth c G cX4_done 4 (some .int) RX4 := F
  obtain ⟨hx, hb, hrt, hml, hown, hts, hlocks, hC, htab, hst⟩ := id F
  have hS : va_S (gF G) s.heap s.heap [] := va_S.rf
  have hl : lv_has ls 4 [(0, .ref (gA G 8)), (1, .int x1)] := hl
  unfold f_X4_done at hm
  refine lv_aload_n hx hb dX4_done_0 rfl (lv_at hl 0 rfl) ?_
  refine lv_aload_n hx hb dX4_done_1 rfl (lv_at hl 0 rfl) ?_
  refine lv_iload_n hx hb dX4_done_2 rfl (lv_at hl 1 rfl) ?_
  obtain ⟨x1_, h1, hm⟩ := ri_inv hm
  refine xV F (c_X4_isOrder h1) tk_643 tk_640 tk_642 tu_34 tk_6 rfl 1 (by decide +kernel) rfl ⟨Nat.le_of_ble_eq_true rfl, Nat.le_of_ble_eq_true rfl⟩ hP hS (kd_k kdc_8 (by decide)) (wc4 kdc_8) rfl hl.1 rfl (Nat.le_of_ble_eq_true rfl) dX4_done_3 ⟨Nat.le_of_ble_eq_true rfl, Nat.le_of_ble_eq_true rfl⟩ (fun v hv H locs hP hS => ?_) (fun E hE => by cases hE)
  cases hv
  replace hP : va_P (gD G) vwCl (wld G lo σ) H := hP
  refine W.eq (g2 := F0 m 6 ls [.int x1_, .ref (gA G 8)]) rfl ?_
  refine lv_if_ne (tgt := 13) hx hb dX4_done_6 (by decide) (fun b2 => ?_) (fun b2 => ?_)
  · rw [if_neg b2] at hm
    refine lv_iconst (v := 0) hx hb dX4_done_13 (by decide) ?_
    exact w_X4_done_14 F hm hP hS (lv_sub hl [0, 1] rfl)
  · rw [if_pos b2] at hm
    refine lv_iconst (v := 1) hx hb dX4_done_9 (by decide) ?_
    refine lv_goto (tgt := 14) hx hb dX4_done_10 (by decide) ?_
    exact w_X4_done_14 F hm hP hS (lv_sub hl [0, 1] rfl)
/-! ===== X4_change ===== -/
def f_X4_change_134 (σ : St) (x1 : Int32) (s0 : Int32) : Option (RV × St) :=
  if s0 = 0 then
    if s0 = 0 ∨ s0 = 1 then some (.inl (some (.inl s0)), σ) else none
  else
    if x1 < 0 ∨ 16 ≤ x1.toNatClampNeg then none
    else
      if s0 = 0 ∨ s0 = 1 then some (.inl (some (.inl s0)), (up2 σ 13 x1.toNatClampNeg 0)) else none
set_option maxHeartbeats 4000000 in
set_option maxRecDepth 100000 in
theorem w_X4_change_134 {p : Program} {l : Launch} {e : Env} {s : State} {m : MethodId} {args : Array Value} {below : List Frame} {meth : Method} {c : Code} {G : GT} {lo : Nat → Int64} (F : Fx p l s args m meth c G cX4_change 4 (some .boolean) RX4) {σ : St} {x1 : Int32} {s0 : Int32} {r : RV × St} (hm : f_X4_change_134 σ x1 s0 = some r) {H : Heap} {locs : List Loc} (hP : va_P (gD G) vwCl (wld G lo σ) H) (hS : va_S (gF G) s.heap H locs) {ls : Array Slot} (hl : lv_has ls 4 [(0, .ref (gA G 8)), (1, .int x1)]) : W p l e (RM 2 43 0 0) s m args below meth c H locs 0 0 (vx_MQ below (QCr G lo r) (XCr G lo r) args s 0 0 (gF G)) (F0 m 134 ls [.int s0]) := by
  obtain ⟨hx, hb, hrt, hml, hown, hts, hlocks, hC, htab, hst⟩ := id F
  unfold f_X4_change_134 at hm
  refine lv_istore_n (lv' := [(3, .int s0), (0, .ref (gA G 8)), (1, .int x1)]) hx hb dX4_change_134 rfl hl (by decide) rfl (fun ls hl => ?_)
  refine lv_iload_n hx hb dX4_change_135 rfl (lv_at hl 0 rfl) ?_
  refine lv_if_eq (tgt := 146) hx hb dX4_change_136 (by decide) (fun b1 => ?_) (fun b1 => ?_)
  · rw [if_pos b1] at hm
    refine lv_iload_n hx hb dX4_change_146 rfl (lv_at hl 0 rfl) ?_
    by_cases b2 : (s0 = 0 ∨ s0 = 1)
    · rw [if_pos b2] at hm
      exact xzr F hP hS (nar_b b2) (Option.some.inj hm).symm (by decide) (by decide) dX4_change_147
    · rw [if_neg b2] at hm
      cases hm
  · rw [if_neg b1] at hm
    refine lv_aload_n hx hb dX4_change_139 rfl (lv_at hl 1 rfl) ?_
    refine xg F 7 inX4 hP (kd_k kdc_8 (by decide)) (wc4 kdc_8) rfl (by decide) tk_560 rfl rfl dX4_change_140 ?_
    refine lv_iload_n hx hb dX4_change_143 rfl (lv_at hl 2 rfl) ?_
    refine lv_iconst (v := 0) hx hb dX4_change_144 (by decide) ?_
    by_cases b3 : (x1 < 0 ∨ 16 ≤ x1.toNatClampNeg)
    · rw [if_pos b3] at hm
      cases hm
    · rw [if_neg b3] at hm
      refine xis F (v := 0) hP hS kdc_13 lnc_13 b3 dX4_change_145 (fun H locs hP hS => ?_)
      refine lv_iload_n hx hb dX4_change_146 rfl (lv_at hl 0 rfl) ?_
      by_cases b4 : (s0 = 0 ∨ s0 = 1)
      · rw [if_pos b4] at hm
        exact xzr F hP hS (nar_b b4) (Option.some.inj hm).symm (by decide) (by decide) dX4_change_147
      · rw [if_neg b4] at hm
        cases hm
def f_X4_change_133 (σ : St) (x1 : Int32) : Option (RV × St) :=
  f_X4_change_134 σ x1 0
set_option maxHeartbeats 4000000 in
set_option maxRecDepth 100000 in
theorem w_X4_change_133 {p : Program} {l : Launch} {e : Env} {s : State} {m : MethodId} {args : Array Value} {below : List Frame} {meth : Method} {c : Code} {G : GT} {lo : Nat → Int64} (F : Fx p l s args m meth c G cX4_change 4 (some .boolean) RX4) {σ : St} {x1 : Int32} {r : RV × St} (hm : f_X4_change_133 σ x1 = some r) {H : Heap} {locs : List Loc} (hP : va_P (gD G) vwCl (wld G lo σ) H) (hS : va_S (gF G) s.heap H locs) {ls : Array Slot} (hl : lv_has ls 4 [(0, .ref (gA G 8)), (1, .int x1)]) : W p l e (RM 2 43 0 0) s m args below meth c H locs 0 0 (vx_MQ below (QCr G lo r) (XCr G lo r) args s 0 0 (gF G)) (F0 m 133 ls []) := by
  obtain ⟨hx, hb, hrt, hml, hown, hts, hlocks, hC, htab, hst⟩ := id F
  unfold f_X4_change_133 at hm
  refine lv_iconst (v := 0) hx hb dX4_change_133 (by decide) ?_
  exact w_X4_change_134 F hm hP hS (lv_sub hl [0, 1] rfl)
def f_X4_change_111 (σ : St) (x1 : Int32) (x2 : Int32) (s1 : Int32) : Option (RV × St) :=
  if s1 < 0 ∨ 17 ≤ s1.toNatClampNeg then none
  else
    if (σ 20 s1.toNatClampNeg) = 0 then
      if x1 < 0 ∨ 16 ≤ x1.toNatClampNeg then none
      else
        ri (f_X4_fits σ (σ 12 x1.toNatClampNeg) x2) (fun x4_ =>
          if x4_ = 0 then
            f_X4_change_134 σ x1 1
          else
            f_X4_change_133 σ x1)
    else
      f_X4_change_133 σ x1
set_option maxHeartbeats 4000000 in
set_option maxRecDepth 100000 in
theorem w_X4_change_111 {p : Program} {l : Launch} {e : Env} {s : State} {m : MethodId} {args : Array Value} {below : List Frame} {meth : Method} {c : Code} {G : GT} {lo : Nat → Int64} (F : Fx p l s args m meth c G cX4_change 4 (some .boolean) RX4) {σ : St} {x1 : Int32} {x2 : Int32} {s1 : Int32} {r : RV × St} (hm : f_X4_change_111 σ x1 x2 s1 = some r) {H : Heap} {locs : List Loc} (hP : va_P (gD G) vwCl (wld G lo σ) H) (hS : va_S (gF G) s.heap H locs) {ls : Array Slot} (hl : lv_has ls 4 [(0, .ref (gA G 8)), (1, .int x1), (2, .int x2)]) : W p l e (RM 2 43 0 0) s m args below meth c H locs 0 0 (vx_MQ below (QCr G lo r) (XCr G lo r) args s 0 0 (gF G)) (F0 m 111 ls [.int s1, .ref (gA G 20)]) := by
  obtain ⟨hx, hb, hrt, hml, hown, hts, hlocks, hC, htab, hst⟩ := id F
  unfold f_X4_change_111 at hm
  by_cases b1 : (s1 < 0 ∨ 17 ≤ s1.toNatClampNeg)
  · rw [if_pos b1] at hm
    cases hm
  · rw [if_neg b1] at hm
    refine xzl F hP kdc_20 lnc_20 b1 dX4_change_111 ?_
    refine lv_if_ne (tgt := 133) hx hb dX4_change_112 (by decide) (fun b2 => ?_) (fun b2 => ?_)
    · rw [if_neg b2] at hm
      exact w_X4_change_133 F hm hP hS (lv_sub hl [0, 1] rfl)
    · rw [if_pos b2] at hm
      refine lv_aload_n hx hb dX4_change_115 rfl (lv_at hl 0 rfl) ?_
      refine lv_aload_n hx hb dX4_change_116 rfl (lv_at hl 0 rfl) ?_
      refine xg F 6 inX4 hP (kd_k kdc_8 (by decide)) (wc4 kdc_8) rfl (by decide) tk_559 rfl rfl dX4_change_117 ?_
      refine lv_iload_n hx hb dX4_change_120 rfl (lv_at hl 1 rfl) ?_
      by_cases b3 : (x1 < 0 ∨ 16 ≤ x1.toNatClampNeg)
      · rw [if_pos b3] at hm
        cases hm
      · rw [if_neg b3] at hm
        refine xil F hP kdc_12 lnc_12 b3 dX4_change_121 ?_
        refine lv_iload_n hx hb dX4_change_122 rfl (lv_at hl 2 rfl) ?_
        obtain ⟨x4_, h4, hm⟩ := ri_inv hm
        refine xV F (c_X4_fits h4) tk_675 tk_672 tk_674 tu_38 tk_6 rfl 2 (by decide +kernel) rfl ⟨Nat.le_of_ble_eq_true rfl, Nat.le_of_ble_eq_true rfl⟩ hP hS (kd_k kdc_8 (by decide)) (wc4 kdc_8) rfl hl.1 rfl (Nat.le_of_ble_eq_true rfl) dX4_change_123 ⟨Nat.le_of_ble_eq_true rfl, Nat.le_of_ble_eq_true rfl⟩ (fun v hv H locs hP hS => ?_) (fun E hE => by cases hE)
        cases hv
        replace hP : va_P (gD G) vwCl (wld G lo σ) H := hP
        refine W.eq (g2 := F0 m 126 ls [.int x4_]) rfl ?_
        refine lv_if_ne (tgt := 133) hx hb dX4_change_126 (by decide) (fun b5 => ?_) (fun b5 => ?_)
        · rw [if_neg b5] at hm
          exact w_X4_change_133 F hm hP hS (lv_sub hl [0, 1] rfl)
        · rw [if_pos b5] at hm
          refine lv_iconst (v := 1) hx hb dX4_change_129 (by decide) ?_
          refine lv_goto (tgt := 134) hx hb dX4_change_130 (by decide) ?_
          exact w_X4_change_134 F hm hP hS (lv_sub hl [0, 1] rfl)
def f_X4_change_63 (σ : St) (x1 : Int32) (x2 : Int32) : Option (RV × St) :=
  if (σ 8 0) ≤ 0 then
    if x1 < 0 ∨ 16 ≤ x1.toNatClampNeg then none
    else
      if ((up2 σ 9 x1.toNatClampNeg x2) 13 x1.toNatClampNeg) ≤ 0 then
        f_X4_change_133 (up2 σ 9 x1.toNatClampNeg x2) x1
      else
        if ((up2 σ 9 x1.toNatClampNeg x2) 13 x1.toNatClampNeg) ≤ 0 then
          f_X4_change_111 (up2 σ 9 x1.toNatClampNeg x2) x1 x2 0
        else
          f_X4_change_111 (up2 σ 9 x1.toNatClampNeg x2) x1 x2 ((up2 σ 9 x1.toNatClampNeg x2) 13 x1.toNatClampNeg)
  else
    some (.inl (some (.inl 0)), σ)
set_option maxHeartbeats 4000000 in
set_option maxRecDepth 100000 in
theorem w_X4_change_63 {p : Program} {l : Launch} {e : Env} {s : State} {m : MethodId} {args : Array Value} {below : List Frame} {meth : Method} {c : Code} {G : GT} {lo : Nat → Int64} (F : Fx p l s args m meth c G cX4_change 4 (some .boolean) RX4) {σ : St} {x1 : Int32} {x2 : Int32} {r : RV × St} (hm : f_X4_change_63 σ x1 x2 = some r) {H : Heap} {locs : List Loc} (hP : va_P (gD G) vwCl (wld G lo σ) H) (hS : va_S (gF G) s.heap H locs) {ls : Array Slot} (hl : lv_has ls 4 [(0, .ref (gA G 8)), (1, .int x1), (2, .int x2)]) : W p l e (RM 2 43 0 0) s m args below meth c H locs 0 0 (vx_MQ below (QCr G lo r) (XCr G lo r) args s 0 0 (gF G)) (F0 m 63 ls []) := by
  obtain ⟨hx, hb, hrt, hml, hown, hts, hlocks, hC, htab, hst⟩ := id F
  unfold f_X4_change_63 at hm
  refine lv_aload_n hx hb dX4_change_63 rfl (lv_at hl 0 rfl) ?_
  refine xg F 0 inX4 hP (kd_k kdc_8 (by decide)) (wc4 kdc_8) rfl (by decide) tk_553 rfl rfl dX4_change_64 ?_
  refine lv_if_le (tgt := 72) hx hb dX4_change_67 (by decide) (fun b1 => ?_) (fun b1 => ?_)
  · rw [if_pos b1] at hm
    refine lv_aload_n hx hb dX4_change_72 rfl (lv_at hl 0 rfl) ?_
    refine xg F 3 inX4 hP (kd_k kdc_8 (by decide)) (wc4 kdc_8) rfl (by decide) tk_556 rfl rfl dX4_change_73 ?_
    refine lv_iload_n hx hb dX4_change_76 rfl (lv_at hl 1 rfl) ?_
    refine lv_iload_n hx hb dX4_change_77 rfl (lv_at hl 2 rfl) ?_
    by_cases b2 : (x1 < 0 ∨ 16 ≤ x1.toNatClampNeg)
    · rw [if_pos b2] at hm
      cases hm
    · rw [if_neg b2] at hm
      refine xis F (v := x2) hP hS kdc_9 lnc_9 b2 dX4_change_78 (fun H locs hP hS => ?_)
      refine lv_aload_n hx hb dX4_change_79 rfl (lv_at hl 0 rfl) ?_
      refine xg F 7 inX4 hP (kd_k kdc_8 (by decide)) (wc4 kdc_8) rfl (by decide) tk_560 rfl rfl dX4_change_80 ?_
      refine lv_iload_n hx hb dX4_change_83 rfl (lv_at hl 1 rfl) ?_
      refine xil F hP kdc_13 lnc_13 b2 dX4_change_84 ?_
      refine lv_if_le (tgt := 133) hx hb dX4_change_85 (by decide) (fun b3 => ?_) (fun b3 => ?_)
      · rw [if_pos b3] at hm
        exact w_X4_change_133 F hm hP hS (lv_sub hl [0, 1] rfl)
      · rw [if_neg b3] at hm
        refine lv_aload_n hx hb dX4_change_88 rfl (lv_at hl 0 rfl) ?_
        refine xg F 17 inX4 hP (kd_k kdc_8 (by decide)) (wc4 kdc_8) rfl (by decide) tk_570 rfl rfl dX4_change_89 ?_
        refine lv_aload_n hx hb dX4_change_92 rfl (lv_at hl 0 rfl) ?_
        refine xg F 7 inX4 hP (kd_k kdc_8 (by decide)) (wc4 kdc_8) rfl (by decide) tk_560 rfl rfl dX4_change_93 ?_
        refine lv_iload_n hx hb dX4_change_96 rfl (lv_at hl 1 rfl) ?_
        refine xil F hP kdc_13 lnc_13 b2 dX4_change_97 ?_
        refine lv_if_le (tgt := 110) hx hb dX4_change_98 (by decide) (fun b4 => ?_) (fun b4 => ?_)
        · rw [if_pos b4] at hm
          refine lv_iconst (v := 0) hx hb dX4_change_110 (by decide) ?_
          exact w_X4_change_111 F hm hP hS (lv_sub hl [0, 1, 2] rfl)
        · rw [if_neg b4] at hm
          refine lv_aload_n hx hb dX4_change_101 rfl (lv_at hl 0 rfl) ?_
          refine xg F 7 inX4 hP (kd_k kdc_8 (by decide)) (wc4 kdc_8) rfl (by decide) tk_560 rfl rfl dX4_change_102 ?_
          refine lv_iload_n hx hb dX4_change_105 rfl (lv_at hl 1 rfl) ?_
          refine xil F hP kdc_13 lnc_13 b2 dX4_change_106 ?_
          refine lv_goto (tgt := 111) hx hb dX4_change_107 (by decide) ?_
          exact w_X4_change_111 F hm hP hS (lv_sub hl [0, 1, 2] rfl)
  · rw [if_neg b1] at hm
    refine lv_iconst (v := 0) hx hb dX4_change_70 (by decide) ?_
    exact xzr F hP hS rfl (Option.some.inj hm).symm (by decide) (by decide) dX4_change_71
def f_X4_change_60 (σ : St) (x1 : Int32) (x2 : Int32) (s1 : Int32) : Option (RV × St) :=
  f_X4_change_63 (up2 σ 8 0 s1) x1 x2
set_option maxHeartbeats 4000000 in
set_option maxRecDepth 100000 in
theorem w_X4_change_60 {p : Program} {l : Launch} {e : Env} {s : State} {m : MethodId} {args : Array Value} {below : List Frame} {meth : Method} {c : Code} {G : GT} {lo : Nat → Int64} (F : Fx p l s args m meth c G cX4_change 4 (some .boolean) RX4) {σ : St} {x1 : Int32} {x2 : Int32} {s1 : Int32} {r : RV × St} (hm : f_X4_change_60 σ x1 x2 s1 = some r) {H : Heap} {locs : List Loc} (hP : va_P (gD G) vwCl (wld G lo σ) H) (hS : va_S (gF G) s.heap H locs) {ls : Array Slot} (hl : lv_has ls 4 [(0, .ref (gA G 8)), (1, .int x1), (2, .int x2)]) : W p l e (RM 2 43 0 0) s m args below meth c H locs 0 0 (vx_MQ below (QCr G lo r) (XCr G lo r) args s 0 0 (gF G)) (F0 m 60 ls [.int s1, .ref (gA G 8)]) := by
  obtain ⟨hx, hb, hrt, hml, hown, hts, hlocks, hC, htab, hst⟩ := id F
  unfold f_X4_change_60 at hm
  refine xp F (v := s1) (ty := .int) 0 inX4 tyX4_ok nmX4 hP hS (kd_k kdc_8 (by decide)) (wc4 kdc_8) (wu4_0 kdc_8) rfl (by decide) tk_553 rfl rfl rfl rfl rfl (Nat.le_of_ble_eq_true rfl) dX4_change_60 (fun H locs hP hS => ?_)
  exact w_X4_change_63 F hm hP hS (lv_sub hl [0, 1, 2] rfl)
def f_X4_change_55 (σ : St) (x1 : Int32) (x2 : Int32) : Option (RV × St) :=
  f_X4_change_60 σ x1 x2 3
set_option maxHeartbeats 4000000 in
set_option maxRecDepth 100000 in
theorem w_X4_change_55 {p : Program} {l : Launch} {e : Env} {s : State} {m : MethodId} {args : Array Value} {below : List Frame} {meth : Method} {c : Code} {G : GT} {lo : Nat → Int64} (F : Fx p l s args m meth c G cX4_change 4 (some .boolean) RX4) {σ : St} {x1 : Int32} {x2 : Int32} {r : RV × St} (hm : f_X4_change_55 σ x1 x2 = some r) {H : Heap} {locs : List Loc} (hP : va_P (gD G) vwCl (wld G lo σ) H) (hS : va_S (gF G) s.heap H locs) {ls : Array Slot} (hl : lv_has ls 4 [(0, .ref (gA G 8)), (1, .int x1), (2, .int x2)]) : W p l e (RM 2 43 0 0) s m args below meth c H locs 0 0 (vx_MQ below (QCr G lo r) (XCr G lo r) args s 0 0 (gF G)) (F0 m 55 ls [.ref (gA G 8)]) := by
  obtain ⟨hx, hb, hrt, hml, hown, hts, hlocks, hC, htab, hst⟩ := id F
  unfold f_X4_change_55 at hm
  refine lv_iconst (v := 3) hx hb dX4_change_55 (by decide) ?_
  refine lv_goto (tgt := 60) hx hb dX4_change_56 (by decide) ?_
  exact w_X4_change_60 F hm hP hS (lv_sub hl [0, 1, 2] rfl)
def f_X4_change_25 (σ : St) (x1 : Int32) (x2 : Int32) (s1 : Int32) : Option (RV × St) :=
  if ((up2 σ 8 0 s1) 8 0) = 0 then
    if x1 < 0 ∨ 16 ≤ x1.toNatClampNeg then none
    else
      if ((up2 σ 8 0 s1) 13 x1.toNatClampNeg) = (-1) then
        f_X4_change_55 (up2 σ 8 0 s1) x1 x2
      else
        if ((up2 σ 8 0 s1) 15 x1.toNatClampNeg) = 0 then
          f_X4_change_60 (up2 σ 8 0 s1) x1 x2 0
        else
          f_X4_change_55 (up2 σ 8 0 s1) x1 x2
  else
    f_X4_change_63 (up2 σ 8 0 s1) x1 x2
set_option maxHeartbeats 4000000 in
set_option maxRecDepth 100000 in
theorem w_X4_change_25 {p : Program} {l : Launch} {e : Env} {s : State} {m : MethodId} {args : Array Value} {below : List Frame} {meth : Method} {c : Code} {G : GT} {lo : Nat → Int64} (F : Fx p l s args m meth c G cX4_change 4 (some .boolean) RX4) {σ : St} {x1 : Int32} {x2 : Int32} {s1 : Int32} {r : RV × St} (hm : f_X4_change_25 σ x1 x2 s1 = some r) {H : Heap} {locs : List Loc} (hP : va_P (gD G) vwCl (wld G lo σ) H) (hS : va_S (gF G) s.heap H locs) {ls : Array Slot} (hl : lv_has ls 4 [(0, .ref (gA G 8)), (1, .int x1), (2, .int x2)]) : W p l e (RM 2 43 0 0) s m args below meth c H locs 0 0 (vx_MQ below (QCr G lo r) (XCr G lo r) args s 0 0 (gF G)) (F0 m 25 ls [.int s1, .ref (gA G 8)]) := by
  obtain ⟨hx, hb, hrt, hml, hown, hts, hlocks, hC, htab, hst⟩ := id F
  unfold f_X4_change_25 at hm
  refine xp F (v := s1) (ty := .int) 0 inX4 tyX4_ok nmX4 hP hS (kd_k kdc_8 (by decide)) (wc4 kdc_8) (wu4_0 kdc_8) rfl (by decide) tk_553 rfl rfl rfl rfl rfl (Nat.le_of_ble_eq_true rfl) dX4_change_25 (fun H locs hP hS => ?_)
  refine lv_aload_n hx hb dX4_change_28 rfl (lv_at hl 0 rfl) ?_
  refine xg F 0 inX4 hP (kd_k kdc_8 (by decide)) (wc4 kdc_8) rfl (by decide) tk_553 rfl rfl dX4_change_29 ?_
  refine lv_if_ne (tgt := 63) hx hb dX4_change_32 (by decide) (fun b1 => ?_) (fun b1 => ?_)
  · rw [if_neg b1] at hm
    exact w_X4_change_63 F hm hP hS (lv_sub hl [0, 1, 2] rfl)
  · rw [if_pos b1] at hm
    refine lv_aload_n hx hb dX4_change_35 rfl (lv_at hl 0 rfl) ?_
    refine lv_aload_n hx hb dX4_change_36 rfl (lv_at hl 0 rfl) ?_
    refine xg F 7 inX4 hP (kd_k kdc_8 (by decide)) (wc4 kdc_8) rfl (by decide) tk_560 rfl rfl dX4_change_37 ?_
    refine lv_iload_n hx hb dX4_change_40 rfl (lv_at hl 1 rfl) ?_
    by_cases b2 : (x1 < 0 ∨ 16 ≤ x1.toNatClampNeg)
    · rw [if_pos b2] at hm
      cases hm
    · rw [if_neg b2] at hm
      refine xil F hP kdc_13 lnc_13 b2 dX4_change_41 ?_
      refine lv_iconst (v := (-1)) hx hb dX4_change_42 (by decide) ?_
      refine lv_icmp_eq (tgt := 55) hx hb dX4_change_43 (by decide) (fun b3 => ?_) (fun b3 => ?_)
      · rw [if_pos b3] at hm
        exact w_X4_change_55 F hm hP hS (lv_sub hl [0, 1, 2] rfl)
      · rw [if_neg b3] at hm
        refine lv_aload_n hx hb dX4_change_46 rfl (lv_at hl 0 rfl) ?_
        refine xg F 9 inX4 hP (kd_k kdc_8 (by decide)) (wc4 kdc_8) rfl (by decide) tk_562 rfl rfl dX4_change_47 ?_
        refine lv_iload_n hx hb dX4_change_50 rfl (lv_at hl 1 rfl) ?_
        refine xzl F hP kdc_15 lnc_15 b2 dX4_change_51 ?_
        refine lv_if_eq (tgt := 59) hx hb dX4_change_52 (by decide) (fun b4 => ?_) (fun b4 => ?_)
        · rw [if_pos b4] at hm
          refine lv_iconst (v := 0) hx hb dX4_change_59 (by decide) ?_
          exact w_X4_change_60 F hm hP hS (lv_sub hl [0, 1, 2] rfl)
        · rw [if_neg b4] at hm
          exact w_X4_change_55 F hm hP hS (lv_sub hl [0, 1, 2] rfl)
def f_X4_change (σ : St) (x1 : Int32) (x2 : Int32) : Option (RV × St) :=
  ri (f_X4_isOrder σ x1) (fun x1_ =>
    if x1_ = 0 then
      f_X4_change_25 σ x1 x2 1
    else
      ri (f_X4_isTime σ x2) (fun x3_ =>
        if x3_ = 0 then
          f_X4_change_25 σ x1 x2 2
        else
          f_X4_change_25 σ x1 x2 0))
set_option maxHeartbeats 4000000 in
set_option maxRecDepth 100000 in
theorem c_X4_change {l : Launch} {G : GT} {σ : St} {x1 : Int32} {x2 : Int32} {r : RV × St} (hm : f_X4_change σ x1 x2 = some r) : MC l G yX4_change cX4_change 4 (some .boolean) 2 43 0 0 [.inr 8, .inl x1, .inl x2] σ r := by
  refine xbody (by decide) (Nat.le_of_ble_eq_true rfl) ?_
  intro lo p e s m args below meth c F hP ls hl
  have F : Fx p l s args m meth c G cX4_change 4 (some .boolean) RX4 := F
  obtain ⟨hx, hb, hrt, hml, hown, hts, hlocks, hC, htab, hst⟩ := id F
  have hS : va_S (gF G) s.heap s.heap [] := va_S.rf
  have hl : lv_has ls 4 [(0, .ref (gA G 8)), (1, .int x1), (2, .int x2)] := hl
  unfold f_X4_change at hm
  refine lv_aload_n hx hb dX4_change_0 rfl (lv_at hl 0 rfl) ?_
  refine lv_aload_n hx hb dX4_change_1 rfl (lv_at hl 0 rfl) ?_
  refine lv_iload_n hx hb dX4_change_2 rfl (lv_at hl 1 rfl) ?_
  obtain ⟨x1_, h1, hm⟩ := ri_inv hm
  refine xV F (c_X4_isOrder h1) tk_643 tk_640 tk_642 tu_34 tk_6 rfl 1 (by decide +kernel) rfl ⟨Nat.le_of_ble_eq_true rfl, Nat.le_of_ble_eq_true rfl⟩ hP hS (kd_k kdc_8 (by decide)) (wc4 kdc_8) rfl hl.1 rfl (Nat.le_of_ble_eq_true rfl) dX4_change_3 ⟨Nat.le_of_ble_eq_true rfl, Nat.le_of_ble_eq_true rfl⟩ (fun v hv H locs hP hS => ?_) (fun E hE => by cases hE)
  cases hv
  replace hP : va_P (gD G) vwCl (wld G lo σ) H := hP
  refine W.eq (g2 := F0 m 6 ls [.int x1_, .ref (gA G 8)]) rfl ?_
  refine lv_if_ne (tgt := 13) hx hb dX4_change_6 (by decide) (fun b2 => ?_) (fun b2 => ?_)
  · rw [if_neg b2] at hm
    refine lv_iload_n hx hb dX4_change_13 rfl (lv_at hl 2 rfl) ?_
    obtain ⟨x3_, h3, hm⟩ := ri_inv hm
    refine xSt F (c_X4_isTime h3) tk_631 tk_629 tk_630 tk_6 rfl 1 (by decide +kernel) rfl ⟨Nat.le_of_ble_eq_true rfl, Nat.le_of_ble_eq_true rfl⟩ hP hS hl.1 rfl (Nat.le_of_ble_eq_true rfl) dX4_change_14 ⟨Nat.le_of_ble_eq_true rfl, Nat.le_of_ble_eq_true rfl⟩ (fun v hv H locs hP hS => ?_) (fun E hE => by cases hE)
    cases hv
    replace hP : va_P (gD G) vwCl (wld G lo σ) H := hP
    refine W.eq (g2 := F0 m 17 ls [.int x3_, .ref (gA G 8)]) rfl ?_
    refine lv_if_ne (tgt := 24) hx hb dX4_change_17 (by decide) (fun b4 => ?_) (fun b4 => ?_)
    · rw [if_neg b4] at hm
      refine lv_iconst (v := 0) hx hb dX4_change_24 (by decide) ?_
      exact w_X4_change_25 F hm hP hS (lv_sub hl [0, 1, 2] rfl)
    · rw [if_pos b4] at hm
      refine lv_iconst (v := 2) hx hb dX4_change_20 (by decide) ?_
      refine lv_goto (tgt := 25) hx hb dX4_change_21 (by decide) ?_
      exact w_X4_change_25 F hm hP hS (lv_sub hl [0, 1, 2] rfl)
  · rw [if_pos b2] at hm
    refine lv_iconst (v := 1) hx hb dX4_change_9 (by decide) ?_
    refine lv_goto (tgt := 25) hx hb dX4_change_10 (by decide) ?_
    exact w_X4_change_25 F hm hP hS (lv_sub hl [0, 1, 2] rfl)
/-! ===== X4_join ===== -/
def f_X4_join_217 : Nat → St → Int32 → Option (RV × St)
  | 0, _, _ => none
  | n + 1, σ, x4 =>
    if (σ 8 2) ≤ x4 then
      some (.inl (some (.inl 0)), (up2 σ 8 0 2))
    else
      if x4 < 0 ∨ 16 ≤ x4.toNatClampNeg then none
      else
        f_X4_join_217 n (up2 (up2 σ 14 x4.toNatClampNeg (σ 23 x4.toNatClampNeg)) 13 x4.toNatClampNeg ((up2 σ 14 x4.toNatClampNeg (σ 23 x4.toNatClampNeg)) 22 x4.toNatClampNeg)) (x4 + 1)
set_option maxHeartbeats 4000000 in
set_option maxRecDepth 100000 in
theorem w_X4_join_217 {p : Program} {l : Launch} {e : Env} {s : State} {m : MethodId} {args : Array Value} {below : List Frame} {meth : Method} {c : Code} {G : GT} {lo : Nat → Int64} (F : Fx p l s args m meth c G cX4_join 6 (some .int) RX4) : ∀ (n : Nat) {σ : St} {x4 : Int32} {r : RV × St}, f_X4_join_217 n σ x4 = some r → ∀ {H : Heap} {locs : List Loc}, va_P (gD G) vwCl (wld G lo σ) H → va_S (gF G) s.heap H locs → ∀ {ls : Array Slot}, lv_has ls 6 [(0, .ref (gA G 8)), (4, .int x4)] → W p l e (RM 4 94 0 0) s m args below meth c H locs 0 0 (vx_MQ below (QCr G lo r) (XCr G lo r) args s 0 0 (gF G)) (F0 m 217 ls []) := by
  obtain ⟨hx, hb, hrt, hml, hown, hts, hlocks, hC, htab, hst⟩ := id F
  intro n
  induction n with
  | zero =>
    intro σ x4 r hm
    simp only [f_X4_join_217] at hm
    cases hm
  | succ n ih =>
    intro σ x4 r hm H locs hP hS ls hl
    rw [f_X4_join_217] at hm
    refine lv_iload hx hb dX4_join_217 (lv_at hl 1 rfl) ?_
    refine lv_aload_n hx hb dX4_join_219 rfl (lv_at hl 0 rfl) ?_
    refine xg F 2 inX4 hP (kd_k kdc_8 (by decide)) (wc4 kdc_8) rfl (by decide) tk_555 rfl rfl dX4_join_220 ?_
    refine lv_icmp_ge (tgt := 260) hx hb dX4_join_223 (by decide) (fun b1 => ?_) (fun b1 => ?_)
    · rw [if_pos b1] at hm
      refine lv_aload_n hx hb dX4_join_260 rfl (lv_at hl 0 rfl) ?_
      refine lv_iconst (v := 2) hx hb dX4_join_261 (by decide) ?_
      refine xp F (v := 2) (ty := .int) 0 inX4 tyX4_ok nmX4 hP hS (kd_k kdc_8 (by decide)) (wc4 kdc_8) (wu4_0 kdc_8) rfl (by decide) tk_553 rfl rfl rfl rfl rfl (Nat.le_of_ble_eq_true rfl) dX4_join_262 (fun H locs hP hS => ?_)
      refine lv_iconst (v := 0) hx hb dX4_join_265 (by decide) ?_
      exact xir F hP hS (Option.some.inj hm).symm (by decide) (by decide) dX4_join_266
    · rw [if_neg b1] at hm
      refine lv_aload_n hx hb dX4_join_226 rfl (lv_at hl 0 rfl) ?_
      refine xg F 8 inX4 hP (kd_k kdc_8 (by decide)) (wc4 kdc_8) rfl (by decide) tk_561 rfl rfl dX4_join_227 ?_
      refine lv_iload hx hb dX4_join_230 (lv_at hl 1 rfl) ?_
      refine lv_aload_n hx hb dX4_join_232 rfl (lv_at hl 0 rfl) ?_
      refine xg F 20 inX4 hP (kd_k kdc_8 (by decide)) (wc4 kdc_8) rfl (by decide) tk_573 rfl rfl dX4_join_233 ?_
      refine lv_iload hx hb dX4_join_236 (lv_at hl 1 rfl) ?_
      by_cases b2 : (x4 < 0 ∨ 16 ≤ x4.toNatClampNeg)
      · rw [if_pos b2] at hm
        cases hm
      · rw [if_neg b2] at hm
        refine xil F hP kdc_23 lnc_23 b2 dX4_join_238 ?_
        refine xis F (v := (σ 23 x4.toNatClampNeg)) hP hS kdc_14 lnc_14 b2 dX4_join_239 (fun H locs hP hS => ?_)
        refine lv_aload_n hx hb dX4_join_240 rfl (lv_at hl 0 rfl) ?_
        refine xg F 7 inX4 hP (kd_k kdc_8 (by decide)) (wc4 kdc_8) rfl (by decide) tk_560 rfl rfl dX4_join_241 ?_
        refine lv_iload hx hb dX4_join_244 (lv_at hl 1 rfl) ?_
        refine lv_aload_n hx hb dX4_join_246 rfl (lv_at hl 0 rfl) ?_
        refine xg F 19 inX4 hP (kd_k kdc_8 (by decide)) (wc4 kdc_8) rfl (by decide) tk_572 rfl rfl dX4_join_247 ?_
        refine lv_iload hx hb dX4_join_250 (lv_at hl 1 rfl) ?_
        refine xil F hP kdc_22 lnc_22 b2 dX4_join_252 ?_
        refine xis F (v := ((up2 σ 14 x4.toNatClampNeg (σ 23 x4.toNatClampNeg)) 22 x4.toNatClampNeg)) hP hS kdc_13 lnc_13 b2 dX4_join_253 (fun H locs hP hS => ?_)
        refine lv_iinc (v := (x4 + 1)) (lv' := [(4, .int (x4 + 1)), (0, .ref (gA G 8))]) hx hb dX4_join_254 hl (k := 1) rfl rfl (by decide) rfl (fun ls hl => ?_)
        refine lv_goto (tgt := 217) hx hb dX4_join_257 (by decide) ?_
        exact ih hm hP hS (lv_sub hl [1, 0] rfl)
def f_X4_join_147 (x1 : Int32) (x2 : Int32) (x3 : Int32) : Nat → St → Int32 → Option (RV × St)
  | 0, _, _ => none
  | n + 1, σ, x4 =>
    if x3 ≤ x4 then
      ri (f_X4_secondsOf σ x1) (fun x2_ =>
        if (σ 8 1) < x2_ then
          f_X4_join_217 40 σ 0
        else
          ri (f_X4_secondsOf σ x1) (fun x4_ =>
            some (.inl (some (.inl x4_)), σ)))
    else
      ri (f_X4_memberAt σ x2 0) (fun x5_ =>
        if x5_ < 0 ∨ 16 ≤ x5_.toNatClampNeg then none
        else
          f_X4_join_147 x1 x2 x3 n (up2 (up2 (up2 σ 13 x5_.toNatClampNeg x1) 14 x5_.toNatClampNeg ((up2 σ 13 x5_.toNatClampNeg x1) 8 11)) 8 11 (((up2 (up2 σ 13 x5_.toNatClampNeg x1) 14 x5_.toNatClampNeg ((up2 σ 13 x5_.toNatClampNeg x1) 8 11)) 8 11) + 1)) (x4 + 1))
set_option maxHeartbeats 4000000 in
set_option maxRecDepth 100000 in
theorem w_X4_join_147 {p : Program} {l : Launch} {e : Env} {s : State} {m : MethodId} {args : Array Value} {below : List Frame} {meth : Method} {c : Code} {G : GT} {lo : Nat → Int64} (F : Fx p l s args m meth c G cX4_join 6 (some .int) RX4) {x1 : Int32} {x2 : Int32} {x3 : Int32} : ∀ (n : Nat) {σ : St} {x4 : Int32} {r : RV × St}, f_X4_join_147 x1 x2 x3 n σ x4 = some r → ∀ {H : Heap} {locs : List Loc}, va_P (gD G) vwCl (wld G lo σ) H → va_S (gF G) s.heap H locs → ∀ {ls : Array Slot}, lv_has ls 6 [(0, .ref (gA G 8)), (1, .int x1), (2, .int x2), (3, .int x3), (4, .int x4)] → W p l e (RM 4 94 0 0) s m args below meth c H locs 0 0 (vx_MQ below (QCr G lo r) (XCr G lo r) args s 0 0 (gF G)) (F0 m 147 ls []) := by
  obtain ⟨hx, hb, hrt, hml, hown, hts, hlocks, hC, htab, hst⟩ := id F
  intro n
  induction n with
  | zero =>
    intro σ x4 r hm
    simp only [f_X4_join_147] at hm
    cases hm
  | succ n ih =>
    intro σ x4 r hm H locs hP hS ls hl
    rw [f_X4_join_147] at hm
    refine lv_iload hx hb dX4_join_147 (lv_at hl 4 rfl) ?_
    refine lv_iload_n hx hb dX4_join_149 rfl (lv_at hl 3 rfl) ?_
    refine lv_icmp_ge (tgt := 196) hx hb dX4_join_150 (by decide) (fun b1 => ?_) (fun b1 => ?_)
    · rw [if_pos b1] at hm
      refine lv_aload_n hx hb dX4_join_196 rfl (lv_at hl 0 rfl) ?_
      refine lv_iload_n hx hb dX4_join_197 rfl (lv_at hl 1 rfl) ?_
      obtain ⟨x2_, h2, hm⟩ := ri_inv hm
      refine xV F (c_X4_secondsOf h2) tk_719 tk_716 tk_718 tu_47 tk_6 rfl 1 (by decide +kernel) rfl ⟨Nat.le_of_ble_eq_true rfl, Nat.le_of_ble_eq_true rfl⟩ hP hS (kd_k kdc_8 (by decide)) (wc4 kdc_8) rfl hl.1 rfl (Nat.le_of_ble_eq_true rfl) dX4_join_198 ⟨Nat.le_of_ble_eq_true rfl, Nat.le_of_ble_eq_true rfl⟩ (fun v hv H locs hP hS => ?_) (fun E hE => by cases hE)
      cases hv
      replace hP : va_P (gD G) vwCl (wld G lo σ) H := hP
      refine W.eq (g2 := F0 m 201 ls [.int x2_]) rfl ?_
      refine lv_aload_n hx hb dX4_join_201 rfl (lv_at hl 0 rfl) ?_
      refine xg F 1 inX4 hP (kd_k kdc_8 (by decide)) (wc4 kdc_8) rfl (by decide) tk_554 rfl rfl dX4_join_202 ?_
      refine lv_icmp_gt (tgt := 214) hx hb dX4_join_205 (by decide) (fun b3 => ?_) (fun b3 => ?_)
      · rw [if_pos b3] at hm
        refine lv_iconst (v := 0) hx hb dX4_join_214 (by decide) ?_
        refine lv_istore (lv' := [(4, .int 0), (0, .ref (gA G 8)), (1, .int x1), (2, .int x2), (3, .int x3)]) hx hb dX4_join_215 hl (by decide) rfl (fun ls hl => ?_)
        exact w_X4_join_217 F 40 hm hP hS (lv_sub hl [1, 0] rfl)
      · rw [if_neg b3] at hm
        refine lv_aload_n hx hb dX4_join_208 rfl (lv_at hl 0 rfl) ?_
        refine lv_iload_n hx hb dX4_join_209 rfl (lv_at hl 1 rfl) ?_
        obtain ⟨x4_, h4, hm⟩ := ri_inv hm
        refine xV F (c_X4_secondsOf h4) tk_719 tk_716 tk_718 tu_47 tk_6 rfl 1 (by decide +kernel) rfl ⟨Nat.le_of_ble_eq_true rfl, Nat.le_of_ble_eq_true rfl⟩ hP hS (kd_k kdc_8 (by decide)) (wc4 kdc_8) rfl hl.1 rfl (Nat.le_of_ble_eq_true rfl) dX4_join_210 ⟨Nat.le_of_ble_eq_true rfl, Nat.le_of_ble_eq_true rfl⟩ (fun v hv H locs hP hS => ?_) (fun E hE => by cases hE)
        cases hv
        replace hP : va_P (gD G) vwCl (wld G lo σ) H := hP
        refine W.eq (g2 := F0 m 213 ls [.int x4_]) rfl ?_
        exact xir F hP hS (Option.some.inj hm).symm (by decide) (by decide) dX4_join_213
    · rw [if_neg b1] at hm
      refine lv_aload_n hx hb dX4_join_153 rfl (lv_at hl 0 rfl) ?_
      refine lv_iload_n hx hb dX4_join_154 rfl (lv_at hl 2 rfl) ?_
      refine lv_iconst (v := 0) hx hb dX4_join_155 (by decide) ?_
      obtain ⟨x5_, h5, hm⟩ := ri_inv hm
      refine xV F (c_X4_memberAt h5) tk_731 tk_728 tk_730 tu_50 tk_6 rfl 2 (by decide +kernel) rfl ⟨Nat.le_of_ble_eq_true rfl, Nat.le_of_ble_eq_true rfl⟩ hP hS (kd_k kdc_8 (by decide)) (wc4 kdc_8) rfl hl.1 rfl (Nat.le_of_ble_eq_true rfl) dX4_join_156 ⟨Nat.le_of_ble_eq_true rfl, Nat.le_of_ble_eq_true rfl⟩ (fun v hv H locs hP hS => ?_) (fun E hE => by cases hE)
      cases hv
      replace hP : va_P (gD G) vwCl (wld G lo σ) H := hP
      refine W.eq (g2 := F0 m 159 ls [.int x5_]) rfl ?_
      refine lv_istore (lv' := [(5, .int x5_), (0, .ref (gA G 8)), (1, .int x1), (2, .int x2), (3, .int x3), (4, .int x4)]) hx hb dX4_join_159 hl (by decide) rfl (fun ls hl => ?_)
      refine lv_aload_n hx hb dX4_join_161 rfl (lv_at hl 1 rfl) ?_
      refine xg F 7 inX4 hP (kd_k kdc_8 (by decide)) (wc4 kdc_8) rfl (by decide) tk_560 rfl rfl dX4_join_162 ?_
      refine lv_iload hx hb dX4_join_165 (lv_at hl 0 rfl) ?_
      refine lv_iload_n hx hb dX4_join_167 rfl (lv_at hl 2 rfl) ?_
      by_cases b6 : (x5_ < 0 ∨ 16 ≤ x5_.toNatClampNeg)
      · rw [if_pos b6] at hm
        cases hm
      · rw [if_neg b6] at hm
        refine xis F (v := x1) hP hS kdc_13 lnc_13 b6 dX4_join_168 (fun H locs hP hS => ?_)
        refine lv_aload_n hx hb dX4_join_169 rfl (lv_at hl 1 rfl) ?_
        refine xg F 8 inX4 hP (kd_k kdc_8 (by decide)) (wc4 kdc_8) rfl (by decide) tk_561 rfl rfl dX4_join_170 ?_
        refine lv_iload hx hb dX4_join_173 (lv_at hl 0 rfl) ?_
        refine lv_aload_n hx hb dX4_join_175 rfl (lv_at hl 1 rfl) ?_
        refine xg F 11 inX4 hP (kd_k kdc_8 (by decide)) (wc4 kdc_8) rfl (by decide) tk_564 rfl rfl dX4_join_176 ?_
        refine xis F (v := ((up2 σ 13 x5_.toNatClampNeg x1) 8 11)) hP hS kdc_14 lnc_14 b6 dX4_join_179 (fun H locs hP hS => ?_)
        refine lv_aload_n hx hb dX4_join_180 rfl (lv_at hl 1 rfl) ?_
        refine lv_dup hx hb dX4_join_181 rfl ?_
        refine xg F 11 inX4 hP (kd_k kdc_8 (by decide)) (wc4 kdc_8) rfl (by decide) tk_564 rfl rfl dX4_join_182 ?_
        refine lv_iconst (v := 1) hx hb dX4_join_185 (by decide) ?_
        refine lv_iadd hx hb dX4_join_186 ?_
        refine xp F (v := (((up2 (up2 σ 13 x5_.toNatClampNeg x1) 14 x5_.toNatClampNeg ((up2 σ 13 x5_.toNatClampNeg x1) 8 11)) 8 11) + 1)) (ty := .int) 11 inX4 tyX4_ok nmX4 hP hS (kd_k kdc_8 (by decide)) (wc4 kdc_8) (wu4_11 kdc_8) rfl (by decide) tk_564 rfl rfl rfl rfl rfl (Nat.le_of_ble_eq_true rfl) dX4_join_187 (fun H locs hP hS => ?_)
        refine lv_iinc (v := (x4 + 1)) (lv' := [(4, .int (x4 + 1)), (5, .int x5_), (0, .ref (gA G 8)), (1, .int x1), (2, .int x2), (3, .int x3)]) hx hb dX4_join_190 hl (k := 5) rfl rfl (by decide) rfl (fun ls hl => ?_)
        refine lv_goto (tgt := 147) hx hb dX4_join_193 (by decide) ?_
        exact ih hm hP hS (lv_sub hl [2, 3, 4, 5, 0] rfl)
def f_X4_join_100 (x1 : Int32) (x2 : Int32) : Nat → St → Int32 → Option (RV × St)
  | 0, _, _ => none
  | n + 1, σ, x3 =>
    if (σ 8 2) ≤ x3 then
      ri (f_X4_sizeOf σ x2) (fun x2_ =>
        f_X4_join_147 x1 x2 x2_ 40 σ 0)
    else
      if x3 < 0 ∨ 16 ≤ x3.toNatClampNeg then none
      else
        f_X4_join_100 x1 x2 n (up2 (up2 σ 23 x3.toNatClampNeg (σ 14 x3.toNatClampNeg)) 22 x3.toNatClampNeg ((up2 σ 23 x3.toNatClampNeg (σ 14 x3.toNatClampNeg)) 13 x3.toNatClampNeg)) (x3 + 1)
set_option maxHeartbeats 4000000 in
set_option maxRecDepth 100000 in
theorem w_X4_join_100 {p : Program} {l : Launch} {e : Env} {s : State} {m : MethodId} {args : Array Value} {below : List Frame} {meth : Method} {c : Code} {G : GT} {lo : Nat → Int64} (F : Fx p l s args m meth c G cX4_join 6 (some .int) RX4) {x1 : Int32} {x2 : Int32} : ∀ (n : Nat) {σ : St} {x3 : Int32} {r : RV × St}, f_X4_join_100 x1 x2 n σ x3 = some r → ∀ {H : Heap} {locs : List Loc}, va_P (gD G) vwCl (wld G lo σ) H → va_S (gF G) s.heap H locs → ∀ {ls : Array Slot}, lv_has ls 6 [(0, .ref (gA G 8)), (1, .int x1), (2, .int x2), (3, .int x3)] → W p l e (RM 4 94 0 0) s m args below meth c H locs 0 0 (vx_MQ below (QCr G lo r) (XCr G lo r) args s 0 0 (gF G)) (F0 m 100 ls []) := by
  obtain ⟨hx, hb, hrt, hml, hown, hts, hlocks, hC, htab, hst⟩ := id F
  intro n
  induction n with
  | zero =>
    intro σ x3 r hm
    simp only [f_X4_join_100] at hm
    cases hm
  | succ n ih =>
    intro σ x3 r hm H locs hP hS ls hl
    rw [f_X4_join_100] at hm
    refine lv_iload_n hx hb dX4_join_100 rfl (lv_at hl 3 rfl) ?_
    refine lv_aload_n hx hb dX4_join_101 rfl (lv_at hl 0 rfl) ?_
    refine xg F 2 inX4 hP (kd_k kdc_8 (by decide)) (wc4 kdc_8) rfl (by decide) tk_555 rfl rfl dX4_join_102 ?_
    refine lv_icmp_ge (tgt := 138) hx hb dX4_join_105 (by decide) (fun b1 => ?_) (fun b1 => ?_)
    · rw [if_pos b1] at hm
      refine lv_aload_n hx hb dX4_join_138 rfl (lv_at hl 0 rfl) ?_
      refine lv_iload_n hx hb dX4_join_139 rfl (lv_at hl 2 rfl) ?_
      obtain ⟨x2_, h2, hm⟩ := ri_inv hm
      refine xV F (c_X4_sizeOf h2) tk_715 tk_712 tk_714 tu_46 tk_6 rfl 1 (by decide +kernel) rfl ⟨Nat.le_of_ble_eq_true rfl, Nat.le_of_ble_eq_true rfl⟩ hP hS (kd_k kdc_8 (by decide)) (wc4 kdc_8) rfl hl.1 rfl (Nat.le_of_ble_eq_true rfl) dX4_join_140 ⟨Nat.le_of_ble_eq_true rfl, Nat.le_of_ble_eq_true rfl⟩ (fun v hv H locs hP hS => ?_) (fun E hE => by cases hE)
      cases hv
      replace hP : va_P (gD G) vwCl (wld G lo σ) H := hP
      refine W.eq (g2 := F0 m 143 ls [.int x2_]) rfl ?_
      refine lv_istore_n (lv' := [(3, .int x2_), (0, .ref (gA G 8)), (1, .int x1), (2, .int x2)]) hx hb dX4_join_143 rfl hl (by decide) rfl (fun ls hl => ?_)
      refine lv_iconst (v := 0) hx hb dX4_join_144 (by decide) ?_
      refine lv_istore (lv' := [(4, .int 0), (3, .int x2_), (0, .ref (gA G 8)), (1, .int x1), (2, .int x2)]) hx hb dX4_join_145 hl (by decide) rfl (fun ls hl => ?_)
      exact w_X4_join_147 F 40 hm hP hS (lv_sub hl [2, 3, 4, 1, 0] rfl)
    · rw [if_neg b1] at hm
      refine lv_aload_n hx hb dX4_join_108 rfl (lv_at hl 0 rfl) ?_
      refine xg F 20 inX4 hP (kd_k kdc_8 (by decide)) (wc4 kdc_8) rfl (by decide) tk_573 rfl rfl dX4_join_109 ?_
      refine lv_iload_n hx hb dX4_join_112 rfl (lv_at hl 3 rfl) ?_
      refine lv_aload_n hx hb dX4_join_113 rfl (lv_at hl 0 rfl) ?_
      refine xg F 8 inX4 hP (kd_k kdc_8 (by decide)) (wc4 kdc_8) rfl (by decide) tk_561 rfl rfl dX4_join_114 ?_
      refine lv_iload_n hx hb dX4_join_117 rfl (lv_at hl 3 rfl) ?_
      by_cases b3 : (x3 < 0 ∨ 16 ≤ x3.toNatClampNeg)
      · rw [if_pos b3] at hm
        cases hm
      · rw [if_neg b3] at hm
        refine xil F hP kdc_14 lnc_14 b3 dX4_join_118 ?_
        refine xis F (v := (σ 14 x3.toNatClampNeg)) hP hS kdc_23 lnc_23 b3 dX4_join_119 (fun H locs hP hS => ?_)
        refine lv_aload_n hx hb dX4_join_120 rfl (lv_at hl 0 rfl) ?_
        refine xg F 19 inX4 hP (kd_k kdc_8 (by decide)) (wc4 kdc_8) rfl (by decide) tk_572 rfl rfl dX4_join_121 ?_
        refine lv_iload_n hx hb dX4_join_124 rfl (lv_at hl 3 rfl) ?_
        refine lv_aload_n hx hb dX4_join_125 rfl (lv_at hl 0 rfl) ?_
        refine xg F 7 inX4 hP (kd_k kdc_8 (by decide)) (wc4 kdc_8) rfl (by decide) tk_560 rfl rfl dX4_join_126 ?_
        refine lv_iload_n hx hb dX4_join_129 rfl (lv_at hl 3 rfl) ?_
        refine xil F hP kdc_13 lnc_13 b3 dX4_join_130 ?_
        refine xis F (v := ((up2 σ 23 x3.toNatClampNeg (σ 14 x3.toNatClampNeg)) 13 x3.toNatClampNeg)) hP hS kdc_22 lnc_22 b3 dX4_join_131 (fun H locs hP hS => ?_)
        refine lv_iinc (v := (x3 + 1)) (lv' := [(3, .int (x3 + 1)), (0, .ref (gA G 8)), (1, .int x1), (2, .int x2)]) hx hb dX4_join_132 hl (k := 3) rfl rfl (by decide) rfl (fun ls hl => ?_)
        refine lv_goto (tgt := 100) hx hb dX4_join_135 (by decide) ?_
        exact ih hm hP hS (lv_sub hl [1, 2, 3, 0] rfl)
def f_X4_join_89 (σ : St) (x1 : Int32) (x2 : Int32) : Option (RV × St) :=
  if (σ 8 0) ≤ 0 then
    f_X4_join_100 x1 x2 40 σ 0
  else
    some (.inl (some (.inl 0)), σ)
set_option maxHeartbeats 4000000 in
set_option maxRecDepth 100000 in
theorem w_X4_join_89 {p : Program} {l : Launch} {e : Env} {s : State} {m : MethodId} {args : Array Value} {below : List Frame} {meth : Method} {c : Code} {G : GT} {lo : Nat → Int64} (F : Fx p l s args m meth c G cX4_join 6 (some .int) RX4) {σ : St} {x1 : Int32} {x2 : Int32} {r : RV × St} (hm : f_X4_join_89 σ x1 x2 = some r) {H : Heap} {locs : List Loc} (hP : va_P (gD G) vwCl (wld G lo σ) H) (hS : va_S (gF G) s.heap H locs) {ls : Array Slot} (hl : lv_has ls 6 [(0, .ref (gA G 8)), (1, .int x1), (2, .int x2)]) : W p l e (RM 4 94 0 0) s m args below meth c H locs 0 0 (vx_MQ below (QCr G lo r) (XCr G lo r) args s 0 0 (gF G)) (F0 m 89 ls []) := by
  obtain ⟨hx, hb, hrt, hml, hown, hts, hlocks, hC, htab, hst⟩ := id F
  unfold f_X4_join_89 at hm
  refine lv_aload_n hx hb dX4_join_89 rfl (lv_at hl 0 rfl) ?_
  refine xg F 0 inX4 hP (kd_k kdc_8 (by decide)) (wc4 kdc_8) rfl (by decide) tk_553 rfl rfl dX4_join_90 ?_
  refine lv_if_le (tgt := 98) hx hb dX4_join_93 (by decide) (fun b1 => ?_) (fun b1 => ?_)
  · rw [if_pos b1] at hm
    refine lv_iconst (v := 0) hx hb dX4_join_98 (by decide) ?_
    refine lv_istore_n (lv' := [(3, .int 0), (0, .ref (gA G 8)), (1, .int x1), (2, .int x2)]) hx hb dX4_join_99 rfl hl (by decide) rfl (fun ls hl => ?_)
    exact w_X4_join_100 F 40 hm hP hS (lv_sub hl [1, 2, 3, 0] rfl)
  · rw [if_neg b1] at hm
    refine lv_iconst (v := 0) hx hb dX4_join_96 (by decide) ?_
    exact xir F hP hS (Option.some.inj hm).symm (by decide) (by decide) dX4_join_97
def f_X4_join_86 (σ : St) (x1 : Int32) (x2 : Int32) (s1 : Int32) : Option (RV × St) :=
  f_X4_join_89 (up2 σ 8 0 s1) x1 x2
set_option maxHeartbeats 4000000 in
set_option maxRecDepth 100000 in
theorem w_X4_join_86 {p : Program} {l : Launch} {e : Env} {s : State} {m : MethodId} {args : Array Value} {below : List Frame} {meth : Method} {c : Code} {G : GT} {lo : Nat → Int64} (F : Fx p l s args m meth c G cX4_join 6 (some .int) RX4) {σ : St} {x1 : Int32} {x2 : Int32} {s1 : Int32} {r : RV × St} (hm : f_X4_join_86 σ x1 x2 s1 = some r) {H : Heap} {locs : List Loc} (hP : va_P (gD G) vwCl (wld G lo σ) H) (hS : va_S (gF G) s.heap H locs) {ls : Array Slot} (hl : lv_has ls 6 [(0, .ref (gA G 8)), (1, .int x1), (2, .int x2)]) : W p l e (RM 4 94 0 0) s m args below meth c H locs 0 0 (vx_MQ below (QCr G lo r) (XCr G lo r) args s 0 0 (gF G)) (F0 m 86 ls [.int s1, .ref (gA G 8)]) := by
  obtain ⟨hx, hb, hrt, hml, hown, hts, hlocks, hC, htab, hst⟩ := id F
  unfold f_X4_join_86 at hm
  refine xp F (v := s1) (ty := .int) 0 inX4 tyX4_ok nmX4 hP hS (kd_k kdc_8 (by decide)) (wc4 kdc_8) (wu4_0 kdc_8) rfl (by decide) tk_553 rfl rfl rfl rfl rfl (Nat.le_of_ble_eq_true rfl) dX4_join_86 (fun H locs hP hS => ?_)
  exact w_X4_join_89 F hm hP hS (lv_sub hl [0, 1, 2] rfl)
def f_X4_join_81 (σ : St) (x1 : Int32) (x2 : Int32) : Option (RV × St) :=
  f_X4_join_86 σ x1 x2 2
set_option maxHeartbeats 4000000 in
set_option maxRecDepth 100000 in
theorem w_X4_join_81 {p : Program} {l : Launch} {e : Env} {s : State} {m : MethodId} {args : Array Value} {below : List Frame} {meth : Method} {c : Code} {G : GT} {lo : Nat → Int64} (F : Fx p l s args m meth c G cX4_join 6 (some .int) RX4) {σ : St} {x1 : Int32} {x2 : Int32} {r : RV × St} (hm : f_X4_join_81 σ x1 x2 = some r) {H : Heap} {locs : List Loc} (hP : va_P (gD G) vwCl (wld G lo σ) H) (hS : va_S (gF G) s.heap H locs) {ls : Array Slot} (hl : lv_has ls 6 [(0, .ref (gA G 8)), (1, .int x1), (2, .int x2)]) : W p l e (RM 4 94 0 0) s m args below meth c H locs 0 0 (vx_MQ below (QCr G lo r) (XCr G lo r) args s 0 0 (gF G)) (F0 m 81 ls [.ref (gA G 8)]) := by
  obtain ⟨hx, hb, hrt, hml, hown, hts, hlocks, hC, htab, hst⟩ := id F
  unfold f_X4_join_81 at hm
  refine lv_iconst (v := 2) hx hb dX4_join_81 (by decide) ?_
  refine lv_goto (tgt := 86) hx hb dX4_join_82 (by decide) ?_
  exact w_X4_join_86 F hm hP hS (lv_sub hl [0, 1, 2] rfl)
def f_X4_join_22 (σ : St) (x1 : Int32) (x2 : Int32) (s1 : Int32) : Option (RV × St) :=
  if ((up2 σ 8 0 s1) 8 0) = 0 then
    if x1 = x2 then
      f_X4_join_81 (up2 σ 8 0 s1) x1 x2
    else
      if x1 < 0 ∨ 17 ≤ x1.toNatClampNeg then none
      else
        if ((up2 σ 8 0 s1) 20 x1.toNatClampNeg) = 0 then
          if x2 < 0 ∨ 17 ≤ x2.toNatClampNeg then none
          else
            if ((up2 σ 8 0 s1) 20 x2.toNatClampNeg) = 0 then
              ri (f_X4_memberAt (up2 σ 8 0 s1) x1 0) (fun x7_ =>
                if x7_ < 0 ∨ 16 ≤ x7_.toNatClampNeg then none
                else
                  ri (f_X4_memberAt (up2 σ 8 0 s1) x2 0) (fun x9_ =>
                    if x9_ < 0 ∨ 16 ≤ x9_.toNatClampNeg then none
                    else
                      if ((up2 σ 8 0 s1) 12 x7_.toNatClampNeg) = ((up2 σ 8 0 s1) 12 x9_.toNatClampNeg) then
                        f_X4_join_86 (up2 σ 8 0 s1) x1 x2 0
                      else
                        f_X4_join_81 (up2 σ 8 0 s1) x1 x2))
            else
              f_X4_join_81 (up2 σ 8 0 s1) x1 x2
        else
          f_X4_join_81 (up2 σ 8 0 s1) x1 x2
  else
    f_X4_join_89 (up2 σ 8 0 s1) x1 x2
set_option maxHeartbeats 4000000 in
set_option maxRecDepth 100000 in
theorem w_X4_join_22 {p : Program} {l : Launch} {e : Env} {s : State} {m : MethodId} {args : Array Value} {below : List Frame} {meth : Method} {c : Code} {G : GT} {lo : Nat → Int64} (F : Fx p l s args m meth c G cX4_join 6 (some .int) RX4) {σ : St} {x1 : Int32} {x2 : Int32} {s1 : Int32} {r : RV × St} (hm : f_X4_join_22 σ x1 x2 s1 = some r) {H : Heap} {locs : List Loc} (hP : va_P (gD G) vwCl (wld G lo σ) H) (hS : va_S (gF G) s.heap H locs) {ls : Array Slot} (hl : lv_has ls 6 [(0, .ref (gA G 8)), (1, .int x1), (2, .int x2)]) : W p l e (RM 4 94 0 0) s m args below meth c H locs 0 0 (vx_MQ below (QCr G lo r) (XCr G lo r) args s 0 0 (gF G)) (F0 m 22 ls [.int s1, .ref (gA G 8)]) := by
  obtain ⟨hx, hb, hrt, hml, hown, hts, hlocks, hC, htab, hst⟩ := id F
  unfold f_X4_join_22 at hm
  refine xp F (v := s1) (ty := .int) 0 inX4 tyX4_ok nmX4 hP hS (kd_k kdc_8 (by decide)) (wc4 kdc_8) (wu4_0 kdc_8) rfl (by decide) tk_553 rfl rfl rfl rfl rfl (Nat.le_of_ble_eq_true rfl) dX4_join_22 (fun H locs hP hS => ?_)
  refine lv_aload_n hx hb dX4_join_25 rfl (lv_at hl 0 rfl) ?_
  refine xg F 0 inX4 hP (kd_k kdc_8 (by decide)) (wc4 kdc_8) rfl (by decide) tk_553 rfl rfl dX4_join_26 ?_
  refine lv_if_ne (tgt := 89) hx hb dX4_join_29 (by decide) (fun b1 => ?_) (fun b1 => ?_)
  · rw [if_neg b1] at hm
    exact w_X4_join_89 F hm hP hS (lv_sub hl [0, 1, 2] rfl)
  · rw [if_pos b1] at hm
    refine lv_aload_n hx hb dX4_join_32 rfl (lv_at hl 0 rfl) ?_
    refine lv_iload_n hx hb dX4_join_33 rfl (lv_at hl 1 rfl) ?_
    refine lv_iload_n hx hb dX4_join_34 rfl (lv_at hl 2 rfl) ?_
    refine lv_icmp_eq (tgt := 81) hx hb dX4_join_35 (by decide) (fun b2 => ?_) (fun b2 => ?_)
    · rw [if_pos b2] at hm
      exact w_X4_join_81 F hm hP hS (lv_sub hl [0, 1, 2] rfl)
    · rw [if_neg b2] at hm
      refine lv_aload_n hx hb dX4_join_38 rfl (lv_at hl 0 rfl) ?_
      refine xg F 17 inX4 hP (kd_k kdc_8 (by decide)) (wc4 kdc_8) rfl (by decide) tk_570 rfl rfl dX4_join_39 ?_
      refine lv_iload_n hx hb dX4_join_42 rfl (lv_at hl 1 rfl) ?_
      by_cases b3 : (x1 < 0 ∨ 17 ≤ x1.toNatClampNeg)
      · rw [if_pos b3] at hm
        cases hm
      · rw [if_neg b3] at hm
        refine xzl F hP kdc_20 lnc_20 b3 dX4_join_43 ?_
        refine lv_if_ne (tgt := 81) hx hb dX4_join_44 (by decide) (fun b4 => ?_) (fun b4 => ?_)
        · rw [if_neg b4] at hm
          exact w_X4_join_81 F hm hP hS (lv_sub hl [0, 1, 2] rfl)
        · rw [if_pos b4] at hm
          refine lv_aload_n hx hb dX4_join_47 rfl (lv_at hl 0 rfl) ?_
          refine xg F 17 inX4 hP (kd_k kdc_8 (by decide)) (wc4 kdc_8) rfl (by decide) tk_570 rfl rfl dX4_join_48 ?_
          refine lv_iload_n hx hb dX4_join_51 rfl (lv_at hl 2 rfl) ?_
          by_cases b5 : (x2 < 0 ∨ 17 ≤ x2.toNatClampNeg)
          · rw [if_pos b5] at hm
            cases hm
          · rw [if_neg b5] at hm
            refine xzl F hP kdc_20 lnc_20 b5 dX4_join_52 ?_
            refine lv_if_ne (tgt := 81) hx hb dX4_join_53 (by decide) (fun b6 => ?_) (fun b6 => ?_)
            · rw [if_neg b6] at hm
              exact w_X4_join_81 F hm hP hS (lv_sub hl [0, 1, 2] rfl)
            · rw [if_pos b6] at hm
              refine lv_aload_n hx hb dX4_join_56 rfl (lv_at hl 0 rfl) ?_
              refine xg F 6 inX4 hP (kd_k kdc_8 (by decide)) (wc4 kdc_8) rfl (by decide) tk_559 rfl rfl dX4_join_57 ?_
              refine lv_aload_n hx hb dX4_join_60 rfl (lv_at hl 0 rfl) ?_
              refine lv_iload_n hx hb dX4_join_61 rfl (lv_at hl 1 rfl) ?_
              refine lv_iconst (v := 0) hx hb dX4_join_62 (by decide) ?_
              obtain ⟨x7_, h7, hm⟩ := ri_inv hm
              refine xV F (c_X4_memberAt h7) tk_731 tk_728 tk_730 tu_50 tk_6 rfl 2 (by decide +kernel) rfl ⟨Nat.le_of_ble_eq_true rfl, Nat.le_of_ble_eq_true rfl⟩ hP hS (kd_k kdc_8 (by decide)) (wc4 kdc_8) rfl hl.1 rfl (Nat.le_of_ble_eq_true rfl) dX4_join_63 ⟨Nat.le_of_ble_eq_true rfl, Nat.le_of_ble_eq_true rfl⟩ (fun v hv H locs hP hS => ?_) (fun E hE => by cases hE)
              cases hv
              replace hP : va_P (gD G) vwCl (wld G lo (up2 σ 8 0 s1)) H := hP
              refine W.eq (g2 := F0 m 66 ls [.int x7_, .ref (gA G 12), .ref (gA G 8)]) rfl ?_
              by_cases b8 : (x7_ < 0 ∨ 16 ≤ x7_.toNatClampNeg)
              · rw [if_pos b8] at hm
                cases hm
              · rw [if_neg b8] at hm
                refine xil F hP kdc_12 lnc_12 b8 dX4_join_66 ?_
                refine lv_aload_n hx hb dX4_join_67 rfl (lv_at hl 0 rfl) ?_
                refine xg F 6 inX4 hP (kd_k kdc_8 (by decide)) (wc4 kdc_8) rfl (by decide) tk_559 rfl rfl dX4_join_68 ?_
                refine lv_aload_n hx hb dX4_join_71 rfl (lv_at hl 0 rfl) ?_
                refine lv_iload_n hx hb dX4_join_72 rfl (lv_at hl 2 rfl) ?_
                refine lv_iconst (v := 0) hx hb dX4_join_73 (by decide) ?_
                obtain ⟨x9_, h9, hm⟩ := ri_inv hm
                refine xV F (c_X4_memberAt h9) tk_731 tk_728 tk_730 tu_50 tk_6 rfl 2 (by decide +kernel) rfl ⟨Nat.le_of_ble_eq_true rfl, Nat.le_of_ble_eq_true rfl⟩ hP hS (kd_k kdc_8 (by decide)) (wc4 kdc_8) rfl hl.1 rfl (Nat.le_of_ble_eq_true rfl) dX4_join_74 ⟨Nat.le_of_ble_eq_true rfl, Nat.le_of_ble_eq_true rfl⟩ (fun v hv H locs hP hS => ?_) (fun E hE => by cases hE)
                cases hv
                replace hP : va_P (gD G) vwCl (wld G lo (up2 σ 8 0 s1)) H := hP
                refine W.eq (g2 := F0 m 77 ls [.int x9_, .ref (gA G 12), .int ((up2 σ 8 0 s1) 12 x7_.toNatClampNeg), .ref (gA G 8)]) rfl ?_
                by_cases b10 : (x9_ < 0 ∨ 16 ≤ x9_.toNatClampNeg)
                · rw [if_pos b10] at hm
                  cases hm
                · rw [if_neg b10] at hm
                  refine xil F hP kdc_12 lnc_12 b10 dX4_join_77 ?_
                  refine lv_icmp_eq (tgt := 85) hx hb dX4_join_78 (by decide) (fun b11 => ?_) (fun b11 => ?_)
                  · rw [if_pos b11] at hm
                    refine lv_iconst (v := 0) hx hb dX4_join_85 (by decide) ?_
                    exact w_X4_join_86 F hm hP hS (lv_sub hl [0, 1, 2] rfl)
                  · rw [if_neg b11] at hm
                    exact w_X4_join_81 F hm hP hS (lv_sub hl [0, 1, 2] rfl)
def f_X4_join_17 (σ : St) (x1 : Int32) (x2 : Int32) : Option (RV × St) :=
  f_X4_join_22 σ x1 x2 1
set_option maxHeartbeats 4000000 in
set_option maxRecDepth 100000 in
theorem w_X4_join_17 {p : Program} {l : Launch} {e : Env} {s : State} {m : MethodId} {args : Array Value} {below : List Frame} {meth : Method} {c : Code} {G : GT} {lo : Nat → Int64} (F : Fx p l s args m meth c G cX4_join 6 (some .int) RX4) {σ : St} {x1 : Int32} {x2 : Int32} {r : RV × St} (hm : f_X4_join_17 σ x1 x2 = some r) {H : Heap} {locs : List Loc} (hP : va_P (gD G) vwCl (wld G lo σ) H) (hS : va_S (gF G) s.heap H locs) {ls : Array Slot} (hl : lv_has ls 6 [(0, .ref (gA G 8)), (1, .int x1), (2, .int x2)]) : W p l e (RM 4 94 0 0) s m args below meth c H locs 0 0 (vx_MQ below (QCr G lo r) (XCr G lo r) args s 0 0 (gF G)) (F0 m 17 ls [.ref (gA G 8)]) := by
  obtain ⟨hx, hb, hrt, hml, hown, hts, hlocks, hC, htab, hst⟩ := id F
  unfold f_X4_join_17 at hm
  refine lv_iconst (v := 1) hx hb dX4_join_17 (by decide) ?_
  refine lv_goto (tgt := 22) hx hb dX4_join_18 (by decide) ?_
  exact w_X4_join_22 F hm hP hS (lv_sub hl [0, 1, 2] rfl)
def f_X4_join (σ : St) (x1 : Int32) (x2 : Int32) : Option (RV × St) :=
  ri (f_X4_isWave σ x1) (fun x1_ =>
    if x1_ = 0 then
      f_X4_join_17 σ x1 x2
    else
      ri (f_X4_isWave σ x2) (fun x3_ =>
        if x3_ = 0 then
          f_X4_join_17 σ x1 x2
        else
          f_X4_join_22 σ x1 x2 0))
set_option maxHeartbeats 4000000 in
set_option maxRecDepth 100000 in
theorem c_X4_join {l : Launch} {G : GT} {σ : St} {x1 : Int32} {x2 : Int32} {r : RV × St} (hm : f_X4_join σ x1 x2 = some r) : MC l G yX4_join cX4_join 6 (some .int) 4 94 0 0 [.inr 8, .inl x1, .inl x2] σ r := by
  refine xbody (by decide) (Nat.le_of_ble_eq_true rfl) ?_
  intro lo p e s m args below meth c F hP ls hl
  have F : Fx p l s args m meth c G cX4_join 6 (some .int) RX4 := F
  obtain ⟨hx, hb, hrt, hml, hown, hts, hlocks, hC, htab, hst⟩ := id F
  have hS : va_S (gF G) s.heap s.heap [] := va_S.rf
  have hl : lv_has ls 6 [(0, .ref (gA G 8)), (1, .int x1), (2, .int x2)] := hl
  unfold f_X4_join at hm
  refine lv_aload_n hx hb dX4_join_0 rfl (lv_at hl 0 rfl) ?_
  refine lv_aload_n hx hb dX4_join_1 rfl (lv_at hl 0 rfl) ?_
  refine lv_iload_n hx hb dX4_join_2 rfl (lv_at hl 1 rfl) ?_
  obtain ⟨x1_, h1, hm⟩ := ri_inv hm
  refine xV F (c_X4_isWave h1) tk_711 tk_708 tk_710 tu_45 tk_6 rfl 1 (by decide +kernel) rfl ⟨Nat.le_of_ble_eq_true rfl, Nat.le_of_ble_eq_true rfl⟩ hP hS (kd_k kdc_8 (by decide)) (wc4 kdc_8) rfl hl.1 rfl (Nat.le_of_ble_eq_true rfl) dX4_join_3 ⟨Nat.le_of_ble_eq_true rfl, Nat.le_of_ble_eq_true rfl⟩ (fun v hv H locs hP hS => ?_) (fun E hE => by cases hE)
  cases hv
  replace hP : va_P (gD G) vwCl (wld G lo σ) H := hP
  refine W.eq (g2 := F0 m 6 ls [.int x1_, .ref (gA G 8)]) rfl ?_
  refine lv_if_eq (tgt := 17) hx hb dX4_join_6 (by decide) (fun b2 => ?_) (fun b2 => ?_)
  · rw [if_pos b2] at hm
    exact w_X4_join_17 F hm hP hS (lv_sub hl [0, 1, 2] rfl)
  · rw [if_neg b2] at hm
    refine lv_aload_n hx hb dX4_join_9 rfl (lv_at hl 0 rfl) ?_
    refine lv_iload_n hx hb dX4_join_10 rfl (lv_at hl 2 rfl) ?_
    obtain ⟨x3_, h3, hm⟩ := ri_inv hm
    refine xV F (c_X4_isWave h3) tk_711 tk_708 tk_710 tu_45 tk_6 rfl 1 (by decide +kernel) rfl ⟨Nat.le_of_ble_eq_true rfl, Nat.le_of_ble_eq_true rfl⟩ hP hS (kd_k kdc_8 (by decide)) (wc4 kdc_8) rfl hl.1 rfl (Nat.le_of_ble_eq_true rfl) dX4_join_11 ⟨Nat.le_of_ble_eq_true rfl, Nat.le_of_ble_eq_true rfl⟩ (fun v hv H locs hP hS => ?_) (fun E hE => by cases hE)
    cases hv
    replace hP : va_P (gD G) vwCl (wld G lo σ) H := hP
    refine W.eq (g2 := F0 m 14 ls [.int x3_, .ref (gA G 8)]) rfl ?_
    refine lv_if_ne (tgt := 21) hx hb dX4_join_14 (by decide) (fun b4 => ?_) (fun b4 => ?_)
    · rw [if_neg b4] at hm
      refine lv_iconst (v := 0) hx hb dX4_join_21 (by decide) ?_
      exact w_X4_join_22 F hm hP hS (lv_sub hl [0, 1, 2] rfl)
    · rw [if_pos b4] at hm
      exact w_X4_join_17 F hm hP hS (lv_sub hl [0, 1, 2] rfl)
