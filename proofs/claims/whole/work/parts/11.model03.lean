/-! ===== X4_cutoff ===== -/
def f_X4_cutoff_39 (x1 : Int32) (x2 : Int32) : Nat → St → Int32 → Int32 → Option (RV × St)
  | 0, _, _, _ => none
  | n + 1, σ, x3, x4 =>
    if (σ 8 2) ≤ x4 then
      some (.inl (some (.inl x3)), σ)
    else
      if x4 < 0 ∨ 16 ≤ x4.toNatClampNeg then none
      else
        if (σ 12 x4.toNatClampNeg) = x1 then
          if x2 < (σ 9 x4.toNatClampNeg) then
            f_X4_cutoff_39 x1 x2 n σ x3 (x4 + 1)
          else
            if (σ 13 x4.toNatClampNeg) = (-1) then
              f_X4_cutoff_39 x1 x2 n σ x3 (x4 + 1)
            else
              if (σ 13 x4.toNatClampNeg) ≤ 0 then
                f_X4_cutoff_39 x1 x2 n (up2 σ 13 x4.toNatClampNeg (-1)) (x3 + 1) (x4 + 1)
              else
                if (σ 13 x4.toNatClampNeg) < 0 ∨ 17 ≤ (σ 13 x4.toNatClampNeg).toNatClampNeg then none
                else
                  if (σ 20 (σ 13 x4.toNatClampNeg).toNatClampNeg) = 0 then
                    f_X4_cutoff_39 x1 x2 n (up2 σ 13 x4.toNatClampNeg (-1)) (x3 + 1) (x4 + 1)
                  else
                    f_X4_cutoff_39 x1 x2 n σ x3 (x4 + 1)
        else
          f_X4_cutoff_39 x1 x2 n σ x3 (x4 + 1)
set_option maxHeartbeats 4000000 in
set_option maxRecDepth 100000 in
theorem w_X4_cutoff_39 {p : Program} {l : Launch} {e : Env} {s : State} {m : MethodId} {args : Array Value} {below : List Frame} {meth : Method} {c : Code} {G : GT} {lo : Nat → Int64} (F : Fx p l s args m meth c G cX4_cutoff 5 (some .int) RX4) {x1 : Int32} {x2 : Int32} : ∀ (n : Nat) {σ : St} {x3 : Int32} {x4 : Int32} {r : RV × St}, f_X4_cutoff_39 x1 x2 n σ x3 x4 = some r → ∀ {H : Heap} {locs : List Loc}, va_P (gD G) vwCl (wld G lo σ) H → va_S (gF G) s.heap H locs → ∀ {ls : Array Slot}, lv_has ls 5 [(0, .ref (gA G 8)), (1, .int x1), (2, .int x2), (3, .int x3), (4, .int x4)] → W p l e (RM 2 42 0 0) s m args below meth c H locs 0 0 (vx_MQ below (QCr G lo r) (XCr G lo r) args s 0 0 (gF G)) (F0 m 39 ls []) := by
  obtain ⟨hx, hb, hrt, hml, hown, hts, hlocks, hC, htab, hst⟩ := id F
  intro n
  induction n with
  | zero =>
    intro σ x3 x4 r hm
    simp only [f_X4_cutoff_39] at hm
    cases hm
  | succ n ih =>
    intro σ x3 x4 r hm H locs hP hS ls hl
    rw [f_X4_cutoff_39] at hm
    refine lv_iload hx hb dX4_cutoff_39 (lv_at hl 4 rfl) ?_
    refine lv_aload_n hx hb dX4_cutoff_41 rfl (lv_at hl 0 rfl) ?_
    refine xg F 2 inX4 hP (kd_k kdc_8 (by decide)) (wc4 kdc_8) rfl (by decide) tk_555 rfl rfl dX4_cutoff_42 ?_
    refine lv_icmp_ge (tgt := 126) hx hb dX4_cutoff_45 (by decide) (fun b1 => ?_) (fun b1 => ?_)
    · rw [if_pos b1] at hm
      refine lv_iload_n hx hb dX4_cutoff_126 rfl (lv_at hl 3 rfl) ?_
      exact xir F hP hS (Option.some.inj hm).symm (by decide) (by decide) dX4_cutoff_127
    · rw [if_neg b1] at hm
      refine lv_aload_n hx hb dX4_cutoff_48 rfl (lv_at hl 0 rfl) ?_
      refine xg F 6 inX4 hP (kd_k kdc_8 (by decide)) (wc4 kdc_8) rfl (by decide) tk_559 rfl rfl dX4_cutoff_49 ?_
      refine lv_iload hx hb dX4_cutoff_52 (lv_at hl 4 rfl) ?_
      by_cases b2 : (x4 < 0 ∨ 16 ≤ x4.toNatClampNeg)
      · rw [if_pos b2] at hm
        cases hm
      · rw [if_neg b2] at hm
        refine xil F hP kdc_12 lnc_12 b2 dX4_cutoff_54 ?_
        refine lv_iload_n hx hb dX4_cutoff_55 rfl (lv_at hl 1 rfl) ?_
        refine lv_icmp_ne (tgt := 120) hx hb dX4_cutoff_56 (by decide) (fun b3 => ?_) (fun b3 => ?_)
        · rw [if_neg b3] at hm
          refine lv_iinc (v := (x4 + 1)) (lv' := [(4, .int (x4 + 1)), (0, .ref (gA G 8)), (1, .int x1), (2, .int x2), (3, .int x3)]) hx hb dX4_cutoff_120 hl (k := 4) rfl rfl (by decide) rfl (fun ls hl => ?_)
          refine lv_goto (tgt := 39) hx hb dX4_cutoff_123 (by decide) ?_
          exact ih hm hP hS (lv_sub hl [1, 2, 3, 4, 0] rfl)
        · rw [if_pos b3] at hm
          refine lv_aload_n hx hb dX4_cutoff_59 rfl (lv_at hl 0 rfl) ?_
          refine xg F 3 inX4 hP (kd_k kdc_8 (by decide)) (wc4 kdc_8) rfl (by decide) tk_556 rfl rfl dX4_cutoff_60 ?_
          refine lv_iload hx hb dX4_cutoff_63 (lv_at hl 4 rfl) ?_
          refine xil F hP kdc_9 lnc_9 b2 dX4_cutoff_65 ?_
          refine lv_iload_n hx hb dX4_cutoff_66 rfl (lv_at hl 2 rfl) ?_
          refine lv_icmp_gt (tgt := 120) hx hb dX4_cutoff_67 (by decide) (fun b4 => ?_) (fun b4 => ?_)
          · rw [if_pos b4] at hm
            refine lv_iinc (v := (x4 + 1)) (lv' := [(4, .int (x4 + 1)), (0, .ref (gA G 8)), (1, .int x1), (2, .int x2), (3, .int x3)]) hx hb dX4_cutoff_120 hl (k := 4) rfl rfl (by decide) rfl (fun ls hl => ?_)
            refine lv_goto (tgt := 39) hx hb dX4_cutoff_123 (by decide) ?_
            exact ih hm hP hS (lv_sub hl [1, 2, 3, 4, 0] rfl)
          · rw [if_neg b4] at hm
            refine lv_aload_n hx hb dX4_cutoff_70 rfl (lv_at hl 0 rfl) ?_
            refine xg F 7 inX4 hP (kd_k kdc_8 (by decide)) (wc4 kdc_8) rfl (by decide) tk_560 rfl rfl dX4_cutoff_71 ?_
            refine lv_iload hx hb dX4_cutoff_74 (lv_at hl 4 rfl) ?_
            refine xil F hP kdc_13 lnc_13 b2 dX4_cutoff_76 ?_
            refine lv_iconst (v := (-1)) hx hb dX4_cutoff_77 (by decide) ?_
            refine lv_icmp_eq (tgt := 120) hx hb dX4_cutoff_78 (by decide) (fun b5 => ?_) (fun b5 => ?_)
            · rw [if_pos b5] at hm
              refine lv_iinc (v := (x4 + 1)) (lv' := [(4, .int (x4 + 1)), (0, .ref (gA G 8)), (1, .int x1), (2, .int x2), (3, .int x3)]) hx hb dX4_cutoff_120 hl (k := 4) rfl rfl (by decide) rfl (fun ls hl => ?_)
              refine lv_goto (tgt := 39) hx hb dX4_cutoff_123 (by decide) ?_
              exact ih hm hP hS (lv_sub hl [1, 2, 3, 4, 0] rfl)
            · rw [if_neg b5] at hm
              refine lv_aload_n hx hb dX4_cutoff_81 rfl (lv_at hl 0 rfl) ?_
              refine xg F 7 inX4 hP (kd_k kdc_8 (by decide)) (wc4 kdc_8) rfl (by decide) tk_560 rfl rfl dX4_cutoff_82 ?_
              refine lv_iload hx hb dX4_cutoff_85 (lv_at hl 4 rfl) ?_
              refine xil F hP kdc_13 lnc_13 b2 dX4_cutoff_87 ?_
              refine lv_if_le (tgt := 109) hx hb dX4_cutoff_88 (by decide) (fun b6 => ?_) (fun b6 => ?_)
              · rw [if_pos b6] at hm
                refine lv_aload_n hx hb dX4_cutoff_109 rfl (lv_at hl 0 rfl) ?_
                refine xg F 7 inX4 hP (kd_k kdc_8 (by decide)) (wc4 kdc_8) rfl (by decide) tk_560 rfl rfl dX4_cutoff_110 ?_
                refine lv_iload hx hb dX4_cutoff_113 (lv_at hl 4 rfl) ?_
                refine lv_iconst (v := (-1)) hx hb dX4_cutoff_115 (by decide) ?_
                refine xis F (v := (-1)) hP hS kdc_13 lnc_13 b2 dX4_cutoff_116 (fun H locs hP hS => ?_)
                refine lv_iinc (v := (x3 + 1)) (lv' := [(3, .int (x3 + 1)), (0, .ref (gA G 8)), (1, .int x1), (2, .int x2), (4, .int x4)]) hx hb dX4_cutoff_117 hl (k := 3) rfl rfl (by decide) rfl (fun ls hl => ?_)
                refine lv_iinc (v := (x4 + 1)) (lv' := [(4, .int (x4 + 1)), (3, .int (x3 + 1)), (0, .ref (gA G 8)), (1, .int x1), (2, .int x2)]) hx hb dX4_cutoff_120 hl (k := 4) rfl rfl (by decide) rfl (fun ls hl => ?_)
                refine lv_goto (tgt := 39) hx hb dX4_cutoff_123 (by decide) ?_
                exact ih hm hP hS (lv_sub hl [2, 3, 4, 1, 0] rfl)
              · rw [if_neg b6] at hm
                refine lv_aload_n hx hb dX4_cutoff_91 rfl (lv_at hl 0 rfl) ?_
                refine xg F 17 inX4 hP (kd_k kdc_8 (by decide)) (wc4 kdc_8) rfl (by decide) tk_570 rfl rfl dX4_cutoff_92 ?_
                refine lv_aload_n hx hb dX4_cutoff_95 rfl (lv_at hl 0 rfl) ?_
                refine xg F 7 inX4 hP (kd_k kdc_8 (by decide)) (wc4 kdc_8) rfl (by decide) tk_560 rfl rfl dX4_cutoff_96 ?_
                refine lv_iload hx hb dX4_cutoff_99 (lv_at hl 4 rfl) ?_
                refine xil F hP kdc_13 lnc_13 b2 dX4_cutoff_101 ?_
                by_cases b7 : ((σ 13 x4.toNatClampNeg) < 0 ∨ 17 ≤ (σ 13 x4.toNatClampNeg).toNatClampNeg)
                · rw [if_pos b7] at hm
                  cases hm
                · rw [if_neg b7] at hm
                  refine xzl F hP kdc_20 lnc_20 b7 dX4_cutoff_102 ?_
                  refine lv_if_eq (tgt := 109) hx hb dX4_cutoff_103 (by decide) (fun b8 => ?_) (fun b8 => ?_)
                  · rw [if_pos b8] at hm
                    refine lv_aload_n hx hb dX4_cutoff_109 rfl (lv_at hl 0 rfl) ?_
                    refine xg F 7 inX4 hP (kd_k kdc_8 (by decide)) (wc4 kdc_8) rfl (by decide) tk_560 rfl rfl dX4_cutoff_110 ?_
                    refine lv_iload hx hb dX4_cutoff_113 (lv_at hl 4 rfl) ?_
                    refine lv_iconst (v := (-1)) hx hb dX4_cutoff_115 (by decide) ?_
                    refine xis F (v := (-1)) hP hS kdc_13 lnc_13 b2 dX4_cutoff_116 (fun H locs hP hS => ?_)
                    refine lv_iinc (v := (x3 + 1)) (lv' := [(3, .int (x3 + 1)), (0, .ref (gA G 8)), (1, .int x1), (2, .int x2), (4, .int x4)]) hx hb dX4_cutoff_117 hl (k := 3) rfl rfl (by decide) rfl (fun ls hl => ?_)
                    refine lv_iinc (v := (x4 + 1)) (lv' := [(4, .int (x4 + 1)), (3, .int (x3 + 1)), (0, .ref (gA G 8)), (1, .int x1), (2, .int x2)]) hx hb dX4_cutoff_120 hl (k := 4) rfl rfl (by decide) rfl (fun ls hl => ?_)
                    refine lv_goto (tgt := 39) hx hb dX4_cutoff_123 (by decide) ?_
                    exact ih hm hP hS (lv_sub hl [2, 3, 4, 1, 0] rfl)
                  · rw [if_neg b8] at hm
                    refine lv_goto (tgt := 120) hx hb dX4_cutoff_106 (by decide) ?_
                    refine lv_iinc (v := (x4 + 1)) (lv' := [(4, .int (x4 + 1)), (0, .ref (gA G 8)), (1, .int x1), (2, .int x2), (3, .int x3)]) hx hb dX4_cutoff_120 hl (k := 4) rfl rfl (by decide) rfl (fun ls hl => ?_)
                    refine lv_goto (tgt := 39) hx hb dX4_cutoff_123 (by decide) ?_
                    exact ih hm hP hS (lv_sub hl [1, 2, 3, 4, 0] rfl)
def f_X4_cutoff_22 (σ : St) (x1 : Int32) (x2 : Int32) (s1 : Int32) : Option (RV × St) :=
  if ((up2 σ 8 0 s1) 8 0) ≤ 0 then
    f_X4_cutoff_39 x1 x2 40 (up2 σ 8 0 s1) 0 0
  else
    some (.inl (some (.inl 0)), (up2 σ 8 0 s1))
set_option maxHeartbeats 4000000 in
set_option maxRecDepth 100000 in
theorem w_X4_cutoff_22 {p : Program} {l : Launch} {e : Env} {s : State} {m : MethodId} {args : Array Value} {below : List Frame} {meth : Method} {c : Code} {G : GT} {lo : Nat → Int64} (F : Fx p l s args m meth c G cX4_cutoff 5 (some .int) RX4) {σ : St} {x1 : Int32} {x2 : Int32} {s1 : Int32} {r : RV × St} (hm : f_X4_cutoff_22 σ x1 x2 s1 = some r) {H : Heap} {locs : List Loc} (hP : va_P (gD G) vwCl (wld G lo σ) H) (hS : va_S (gF G) s.heap H locs) {ls : Array Slot} (hl : lv_has ls 5 [(0, .ref (gA G 8)), (1, .int x1), (2, .int x2)]) : W p l e (RM 2 42 0 0) s m args below meth c H locs 0 0 (vx_MQ below (QCr G lo r) (XCr G lo r) args s 0 0 (gF G)) (F0 m 22 ls [.int s1, .ref (gA G 8)]) := by
  obtain ⟨hx, hb, hrt, hml, hown, hts, hlocks, hC, htab, hst⟩ := id F
  unfold f_X4_cutoff_22 at hm
  refine xp F (v := s1) (ty := .int) 0 inX4 tyX4_ok nmX4 hP hS (kd_k kdc_8 (by decide)) (wc4 kdc_8) (wu4_0 kdc_8) rfl (by decide) tk_553 rfl rfl rfl rfl rfl (Nat.le_of_ble_eq_true rfl) dX4_cutoff_22 (fun H locs hP hS => ?_)
  refine lv_aload_n hx hb dX4_cutoff_25 rfl (lv_at hl 0 rfl) ?_
  refine xg F 0 inX4 hP (kd_k kdc_8 (by decide)) (wc4 kdc_8) rfl (by decide) tk_553 rfl rfl dX4_cutoff_26 ?_
  refine lv_if_le (tgt := 34) hx hb dX4_cutoff_29 (by decide) (fun b1 => ?_) (fun b1 => ?_)
  · rw [if_pos b1] at hm
    refine lv_iconst (v := 0) hx hb dX4_cutoff_34 (by decide) ?_
    refine lv_istore_n (lv' := [(3, .int 0), (0, .ref (gA G 8)), (1, .int x1), (2, .int x2)]) hx hb dX4_cutoff_35 rfl hl (by decide) rfl (fun ls hl => ?_)
    refine lv_iconst (v := 0) hx hb dX4_cutoff_36 (by decide) ?_
    refine lv_istore (lv' := [(4, .int 0), (3, .int 0), (0, .ref (gA G 8)), (1, .int x1), (2, .int x2)]) hx hb dX4_cutoff_37 hl (by decide) rfl (fun ls hl => ?_)
    exact w_X4_cutoff_39 F 40 hm hP hS (lv_sub hl [2, 3, 4, 1, 0] rfl)
  · rw [if_neg b1] at hm
    refine lv_iconst (v := 0) hx hb dX4_cutoff_32 (by decide) ?_
    exact xir F hP hS (Option.some.inj hm).symm (by decide) (by decide) dX4_cutoff_33
def f_X4_cutoff_21 (σ : St) (x1 : Int32) (x2 : Int32) : Option (RV × St) :=
  f_X4_cutoff_22 σ x1 x2 1
set_option maxHeartbeats 4000000 in
set_option maxRecDepth 100000 in
theorem w_X4_cutoff_21 {p : Program} {l : Launch} {e : Env} {s : State} {m : MethodId} {args : Array Value} {below : List Frame} {meth : Method} {c : Code} {G : GT} {lo : Nat → Int64} (F : Fx p l s args m meth c G cX4_cutoff 5 (some .int) RX4) {σ : St} {x1 : Int32} {x2 : Int32} {r : RV × St} (hm : f_X4_cutoff_21 σ x1 x2 = some r) {H : Heap} {locs : List Loc} (hP : va_P (gD G) vwCl (wld G lo σ) H) (hS : va_S (gF G) s.heap H locs) {ls : Array Slot} (hl : lv_has ls 5 [(0, .ref (gA G 8)), (1, .int x1), (2, .int x2)]) : W p l e (RM 2 42 0 0) s m args below meth c H locs 0 0 (vx_MQ below (QCr G lo r) (XCr G lo r) args s 0 0 (gF G)) (F0 m 21 ls [.ref (gA G 8)]) := by
  obtain ⟨hx, hb, hrt, hml, hown, hts, hlocks, hC, htab, hst⟩ := id F
  unfold f_X4_cutoff_21 at hm
  refine lv_iconst (v := 1) hx hb dX4_cutoff_21 (by decide) ?_
  exact w_X4_cutoff_22 F hm hP hS (lv_sub hl [0, 1, 2] rfl)
def f_X4_cutoff (σ : St) (x1 : Int32) (x2 : Int32) : Option (RV × St) :=
  ri (f_X4_in σ x1 0 3) (fun x1_ =>
    if x1_ = 0 then
      f_X4_cutoff_21 σ x1 x2
    else
      ri (f_X4_isTime σ x2) (fun x3_ =>
        if x3_ = 0 then
          f_X4_cutoff_21 σ x1 x2
        else
          f_X4_cutoff_22 σ x1 x2 0))
set_option maxHeartbeats 4000000 in
set_option maxRecDepth 100000 in
theorem c_X4_cutoff {l : Launch} {G : GT} {σ : St} {x1 : Int32} {x2 : Int32} {r : RV × St} (hm : f_X4_cutoff σ x1 x2 = some r) : MC l G yX4_cutoff cX4_cutoff 5 (some .int) 2 42 0 0 [.inr 8, .inl x1, .inl x2] σ r := by
  refine xbody (by decide) (Nat.le_of_ble_eq_true rfl) ?_
  intro lo p e s m args below meth c F hP ls hl
  have F : Fx p l s args m meth c G cX4_cutoff 5 (some .int) RX4 := F
  obtain ⟨hx, hb, hrt, hml, hown, hts, hlocks, hC, htab, hst⟩ := id F
  have hS : va_S (gF G) s.heap s.heap [] := va_S.rf
  have hl : lv_has ls 5 [(0, .ref (gA G 8)), (1, .int x1), (2, .int x2)] := hl
  unfold f_X4_cutoff at hm
  refine lv_aload_n hx hb dX4_cutoff_0 rfl (lv_at hl 0 rfl) ?_
  refine lv_iload_n hx hb dX4_cutoff_1 rfl (lv_at hl 1 rfl) ?_
  refine lv_iconst (v := 0) hx hb dX4_cutoff_2 (by decide) ?_
  refine lv_iconst (v := 3) hx hb dX4_cutoff_3 (by decide) ?_
  obtain ⟨x1_, h1, hm⟩ := ri_inv hm
  refine xSt F (c_X4_in h1) tk_635 tk_633 tk_634 tk_6 rfl 3 (by decide +kernel) rfl ⟨Nat.le_of_ble_eq_true rfl, Nat.le_of_ble_eq_true rfl⟩ hP hS hl.1 rfl (Nat.le_of_ble_eq_true rfl) dX4_cutoff_4 ⟨Nat.le_of_ble_eq_true rfl, Nat.le_of_ble_eq_true rfl⟩ (fun v hv H locs hP hS => ?_) (fun E hE => by cases hE)
  cases hv
  replace hP : va_P (gD G) vwCl (wld G lo σ) H := hP
  refine W.eq (g2 := F0 m 7 ls [.int x1_, .ref (gA G 8)]) rfl ?_
  refine lv_if_eq (tgt := 21) hx hb dX4_cutoff_7 (by decide) (fun b2 => ?_) (fun b2 => ?_)
  · rw [if_pos b2] at hm
    exact w_X4_cutoff_21 F hm hP hS (lv_sub hl [0, 1, 2] rfl)
  · rw [if_neg b2] at hm
    refine lv_iload_n hx hb dX4_cutoff_10 rfl (lv_at hl 2 rfl) ?_
    obtain ⟨x3_, h3, hm⟩ := ri_inv hm
    refine xSt F (c_X4_isTime h3) tk_631 tk_629 tk_630 tk_6 rfl 1 (by decide +kernel) rfl ⟨Nat.le_of_ble_eq_true rfl, Nat.le_of_ble_eq_true rfl⟩ hP hS hl.1 rfl (Nat.le_of_ble_eq_true rfl) dX4_cutoff_11 ⟨Nat.le_of_ble_eq_true rfl, Nat.le_of_ble_eq_true rfl⟩ (fun v hv H locs hP hS => ?_) (fun E hE => by cases hE)
    cases hv
    replace hP : va_P (gD G) vwCl (wld G lo σ) H := hP
    refine W.eq (g2 := F0 m 14 ls [.int x3_, .ref (gA G 8)]) rfl ?_
    refine lv_if_eq (tgt := 21) hx hb dX4_cutoff_14 (by decide) (fun b4 => ?_) (fun b4 => ?_)
    · rw [if_pos b4] at hm
      exact w_X4_cutoff_21 F hm hP hS (lv_sub hl [0, 1, 2] rfl)
    · rw [if_neg b4] at hm
      refine lv_iconst (v := 0) hx hb dX4_cutoff_17 (by decide) ?_
      refine lv_goto (tgt := 22) hx hb dX4_cutoff_18 (by decide) ?_
      exact w_X4_cutoff_22 F hm hP hS (lv_sub hl [0, 1, 2] rfl)
/-! ===== X4_late ===== -/
def f_X4_late_26 (σ : St) : Nat → Int32 → Int32 → Option (RV × St)
  | 0, _, _ => none
  | n + 1, x2, x3 =>
    if (σ 8 2) ≤ x3 then
      some (.inl (some (.inl (-1))), σ)
    else
      if x3 < 0 ∨ 16 ≤ x3.toNatClampNeg then none
      else
        if (σ 13 x3.toNatClampNeg) = (-1) then
          if x2 = 0 then
            some (.inl (some (.inl x3)), σ)
          else
            f_X4_late_26 σ n (x2 + (-1)) (x3 + 1)
        else
          f_X4_late_26 σ n x2 (x3 + 1)
set_option maxHeartbeats 4000000 in
set_option maxRecDepth 100000 in
theorem w_X4_late_26 {p : Program} {l : Launch} {e : Env} {s : State} {m : MethodId} {args : Array Value} {below : List Frame} {meth : Method} {c : Code} {G : GT} {lo : Nat → Int64} (F : Fx p l s args m meth c G cX4_late 4 (some .int) RX4) {σ : St} : ∀ (n : Nat) {x2 : Int32} {x3 : Int32} {r : RV × St}, f_X4_late_26 σ n x2 x3 = some r → ∀ {H : Heap} {locs : List Loc}, va_P (gD G) vwCl (wld G lo σ) H → va_S (gF G) s.heap H locs → ∀ {ls : Array Slot}, lv_has ls 4 [(0, .ref (gA G 8)), (2, .int x2), (3, .int x3)] → W p l e (RM 0 0 0 0) s m args below meth c H locs 0 0 (vx_MQ below (QCr G lo r) (XCr G lo r) args s 0 0 (gF G)) (F0 m 26 ls []) := by
  obtain ⟨hx, hb, hrt, hml, hown, hts, hlocks, hC, htab, hst⟩ := id F
  intro n
  induction n with
  | zero =>
    intro x2 x3 r hm
    simp only [f_X4_late_26] at hm
    cases hm
  | succ n ih =>
    intro x2 x3 r hm H locs hP hS ls hl
    rw [f_X4_late_26] at hm
    refine lv_iload_n hx hb dX4_late_26 rfl (lv_at hl 2 rfl) ?_
    refine lv_aload_n hx hb dX4_late_27 rfl (lv_at hl 0 rfl) ?_
    refine xg F 2 inX4 hP (kd_k kdc_8 (by decide)) (wc4 kdc_8) rfl (by decide) tk_555 rfl rfl dX4_late_28 ?_
    refine lv_icmp_ge (tgt := 62) hx hb dX4_late_31 (by decide) (fun b1 => ?_) (fun b1 => ?_)
    · rw [if_pos b1] at hm
      refine lv_iconst (v := (-1)) hx hb dX4_late_62 (by decide) ?_
      exact xir F hP hS (Option.some.inj hm).symm (by decide) (by decide) dX4_late_63
    · rw [if_neg b1] at hm
      refine lv_aload_n hx hb dX4_late_34 rfl (lv_at hl 0 rfl) ?_
      refine xg F 7 inX4 hP (kd_k kdc_8 (by decide)) (wc4 kdc_8) rfl (by decide) tk_560 rfl rfl dX4_late_35 ?_
      refine lv_iload_n hx hb dX4_late_38 rfl (lv_at hl 2 rfl) ?_
      by_cases b2 : (x3 < 0 ∨ 16 ≤ x3.toNatClampNeg)
      · rw [if_pos b2] at hm
        cases hm
      · rw [if_neg b2] at hm
        refine xil F hP kdc_13 lnc_13 b2 dX4_late_39 ?_
        refine lv_iconst (v := (-1)) hx hb dX4_late_40 (by decide) ?_
        refine lv_icmp_eq (tgt := 47) hx hb dX4_late_41 (by decide) (fun b3 => ?_) (fun b3 => ?_)
        · rw [if_pos b3] at hm
          refine lv_iload_n hx hb dX4_late_47 rfl (lv_at hl 1 rfl) ?_
          refine lv_if_ne (tgt := 53) hx hb dX4_late_48 (by decide) (fun b4 => ?_) (fun b4 => ?_)
          · rw [if_neg b4] at hm
            refine lv_iinc (v := (x2 + (-1))) (lv' := [(2, .int (x2 + (-1))), (0, .ref (gA G 8)), (3, .int x3)]) hx hb dX4_late_53 hl (k := 1) rfl rfl (by decide) rfl (fun ls hl => ?_)
            refine lv_iinc (v := (x3 + 1)) (lv' := [(3, .int (x3 + 1)), (2, .int (x2 + (-1))), (0, .ref (gA G 8))]) hx hb dX4_late_56 hl (k := 2) rfl rfl (by decide) rfl (fun ls hl => ?_)
            refine lv_goto (tgt := 26) hx hb dX4_late_59 (by decide) ?_
            exact ih hm hP hS (lv_sub hl [2, 1, 0] rfl)
          · rw [if_pos b4] at hm
            refine lv_iload_n hx hb dX4_late_51 rfl (lv_at hl 2 rfl) ?_
            exact xir F hP hS (Option.some.inj hm).symm (by decide) (by decide) dX4_late_52
        · rw [if_neg b3] at hm
          refine lv_goto (tgt := 56) hx hb dX4_late_44 (by decide) ?_
          refine lv_iinc (v := (x3 + 1)) (lv' := [(3, .int (x3 + 1)), (0, .ref (gA G 8)), (2, .int x2)]) hx hb dX4_late_56 hl (k := 2) rfl rfl (by decide) rfl (fun ls hl => ?_)
          refine lv_goto (tgt := 26) hx hb dX4_late_59 (by decide) ?_
          exact ih hm hP hS (lv_sub hl [1, 2, 0] rfl)
def f_X4_late_10 (σ : St) (x1 : Int32) (s1 : Int32) : Option (RV × St) :=
  if ((up2 σ 8 0 s1) 8 0) ≤ 0 then
    f_X4_late_26 (up2 σ 8 0 s1) 40 x1 0
  else
    some (.inl (some (.inl 0)), (up2 σ 8 0 s1))
set_option maxHeartbeats 4000000 in
set_option maxRecDepth 100000 in
theorem w_X4_late_10 {p : Program} {l : Launch} {e : Env} {s : State} {m : MethodId} {args : Array Value} {below : List Frame} {meth : Method} {c : Code} {G : GT} {lo : Nat → Int64} (F : Fx p l s args m meth c G cX4_late 4 (some .int) RX4) {σ : St} {x1 : Int32} {s1 : Int32} {r : RV × St} (hm : f_X4_late_10 σ x1 s1 = some r) {H : Heap} {locs : List Loc} (hP : va_P (gD G) vwCl (wld G lo σ) H) (hS : va_S (gF G) s.heap H locs) {ls : Array Slot} (hl : lv_has ls 4 [(0, .ref (gA G 8)), (1, .int x1)]) : W p l e (RM 0 0 0 0) s m args below meth c H locs 0 0 (vx_MQ below (QCr G lo r) (XCr G lo r) args s 0 0 (gF G)) (F0 m 10 ls [.int s1, .ref (gA G 8)]) := by
  obtain ⟨hx, hb, hrt, hml, hown, hts, hlocks, hC, htab, hst⟩ := id F
  unfold f_X4_late_10 at hm
  refine xp F (v := s1) (ty := .int) 0 inX4 tyX4_ok nmX4 hP hS (kd_k kdc_8 (by decide)) (wc4 kdc_8) (wu4_0 kdc_8) rfl (by decide) tk_553 rfl rfl rfl rfl rfl (Nat.le_of_ble_eq_true rfl) dX4_late_10 (fun H locs hP hS => ?_)
  refine lv_aload_n hx hb dX4_late_13 rfl (lv_at hl 0 rfl) ?_
  refine xg F 0 inX4 hP (kd_k kdc_8 (by decide)) (wc4 kdc_8) rfl (by decide) tk_553 rfl rfl dX4_late_14 ?_
  refine lv_if_le (tgt := 22) hx hb dX4_late_17 (by decide) (fun b1 => ?_) (fun b1 => ?_)
  · rw [if_pos b1] at hm
    refine lv_iload_n hx hb dX4_late_22 rfl (lv_at hl 1 rfl) ?_
    refine lv_istore_n (lv' := [(2, .int x1), (0, .ref (gA G 8)), (1, .int x1)]) hx hb dX4_late_23 rfl hl (by decide) rfl (fun ls hl => ?_)
    refine lv_iconst (v := 0) hx hb dX4_late_24 (by decide) ?_
    refine lv_istore_n (lv' := [(3, .int 0), (2, .int x1), (0, .ref (gA G 8)), (1, .int x1)]) hx hb dX4_late_25 rfl hl (by decide) rfl (fun ls hl => ?_)
    exact w_X4_late_26 F 40 hm hP hS (lv_sub hl [2, 1, 0] rfl)
  · rw [if_neg b1] at hm
    refine lv_iconst (v := 0) hx hb dX4_late_20 (by decide) ?_
    exact xir F hP hS (Option.some.inj hm).symm (by decide) (by decide) dX4_late_21
def f_X4_late (σ : St) (x1 : Int32) : Option (RV × St) :=
  if 0 ≤ x1 then
    f_X4_late_10 σ x1 0
  else
    f_X4_late_10 σ x1 1
set_option maxHeartbeats 4000000 in
set_option maxRecDepth 100000 in
theorem c_X4_late {l : Launch} {G : GT} {σ : St} {x1 : Int32} {r : RV × St} (hm : f_X4_late σ x1 = some r) : MC l G yX4_late cX4_late 4 (some .int) 0 0 0 0 [.inr 8, .inl x1] σ r := by
  refine xbody (by decide) (Nat.le_of_ble_eq_true rfl) ?_
  intro lo p e s m args below meth c F hP ls hl
  have F : Fx p l s args m meth c G cX4_late 4 (some .int) RX4 := F
  obtain ⟨hx, hb, hrt, hml, hown, hts, hlocks, hC, htab, hst⟩ := id F
  have hS : va_S (gF G) s.heap s.heap [] := va_S.rf
  have hl : lv_has ls 4 [(0, .ref (gA G 8)), (1, .int x1)] := hl
  unfold f_X4_late at hm
  refine lv_aload_n hx hb dX4_late_0 rfl (lv_at hl 0 rfl) ?_
  refine lv_iload_n hx hb dX4_late_1 rfl (lv_at hl 1 rfl) ?_
  refine lv_if_ge (tgt := 9) hx hb dX4_late_2 (by decide) (fun b1 => ?_) (fun b1 => ?_)
  · rw [if_pos b1] at hm
    refine lv_iconst (v := 0) hx hb dX4_late_9 (by decide) ?_
    exact w_X4_late_10 F hm hP hS (lv_sub hl [0, 1] rfl)
  · rw [if_neg b1] at hm
    refine lv_iconst (v := 1) hx hb dX4_late_5 (by decide) ?_
    refine lv_goto (tgt := 10) hx hb dX4_late_6 (by decide) ?_
    exact w_X4_late_10 F hm hP hS (lv_sub hl [0, 1] rfl)
/-! ===== X4_count ===== -/
def f_X4_count_83 (σ : St) (x1 : Int32) : Nat → Int32 → Int32 → Option (RV × St)
  | 0, _, _ => none
  | n + 1, x2, x3 =>
    if (σ 8 2) ≤ x3 then
      ri (f_X4_in σ x1 1 5) (fun x2_ =>
        if x2_ = 0 then
          some (.inl (some (.inl (-1))), σ)
        else
          some (.inl (some (.inl x2)), σ))
    else
      if x1 = 2 then
        if x3 < 0 ∨ 16 ≤ x3.toNatClampNeg then none
        else
          if (σ 13 x3.toNatClampNeg) = 0 then
            f_X4_count_83 σ x1 n (x2 + 1) (x3 + 1)
          else
            if x1 = 3 then
              if (σ 13 x3.toNatClampNeg) = (-1) then
                f_X4_count_83 σ x1 n (x2 + 1) (x3 + 1)
              else
                if x1 = 4 then
                  if (σ 15 x3.toNatClampNeg) = 0 then
                    f_X4_count_83 σ x1 n (x2 + 0) (x3 + 1)
                  else
                    f_X4_count_83 σ x1 n (x2 + 1) (x3 + 1)
                else
                  f_X4_count_83 σ x1 n (x2 + 0) (x3 + 1)
            else
              if x1 = 4 then
                if (σ 15 x3.toNatClampNeg) = 0 then
                  f_X4_count_83 σ x1 n (x2 + 0) (x3 + 1)
                else
                  f_X4_count_83 σ x1 n (x2 + 1) (x3 + 1)
              else
                f_X4_count_83 σ x1 n (x2 + 0) (x3 + 1)
      else
        if x1 = 3 then
          if x3 < 0 ∨ 16 ≤ x3.toNatClampNeg then none
          else
            if (σ 13 x3.toNatClampNeg) = (-1) then
              f_X4_count_83 σ x1 n (x2 + 1) (x3 + 1)
            else
              if x1 = 4 then
                if (σ 15 x3.toNatClampNeg) = 0 then
                  f_X4_count_83 σ x1 n (x2 + 0) (x3 + 1)
                else
                  f_X4_count_83 σ x1 n (x2 + 1) (x3 + 1)
              else
                f_X4_count_83 σ x1 n (x2 + 0) (x3 + 1)
        else
          if x1 = 4 then
            if x3 < 0 ∨ 16 ≤ x3.toNatClampNeg then none
            else
              if (σ 15 x3.toNatClampNeg) = 0 then
                f_X4_count_83 σ x1 n (x2 + 0) (x3 + 1)
              else
                f_X4_count_83 σ x1 n (x2 + 1) (x3 + 1)
          else
            f_X4_count_83 σ x1 n (x2 + 0) (x3 + 1)
set_option maxHeartbeats 4000000 in
set_option maxRecDepth 100000 in
theorem w_X4_count_83 {p : Program} {l : Launch} {e : Env} {s : State} {m : MethodId} {args : Array Value} {below : List Frame} {meth : Method} {c : Code} {G : GT} {lo : Nat → Int64} (F : Fx p l s args m meth c G cX4_count 4 (some .int) RX4) {σ : St} {x1 : Int32} : ∀ (n : Nat) {x2 : Int32} {x3 : Int32} {r : RV × St}, f_X4_count_83 σ x1 n x2 x3 = some r → ∀ {H : Heap} {locs : List Loc}, va_P (gD G) vwCl (wld G lo σ) H → va_S (gF G) s.heap H locs → ∀ {ls : Array Slot}, lv_has ls 4 [(0, .ref (gA G 8)), (1, .int x1), (2, .int x2), (3, .int x3)] → W p l e (RM 3 71 0 0) s m args below meth c H locs 0 0 (vx_MQ below (QCr G lo r) (XCr G lo r) args s 0 0 (gF G)) (F0 m 83 ls []) := by
  obtain ⟨hx, hb, hrt, hml, hown, hts, hlocks, hC, htab, hst⟩ := id F
  intro n
  induction n with
  | zero =>
    intro x2 x3 r hm
    simp only [f_X4_count_83] at hm
    cases hm
  | succ n ih =>
    intro x2 x3 r hm H locs hP hS ls hl
    rw [f_X4_count_83] at hm
    refine lv_iload_n hx hb dX4_count_83 rfl (lv_at hl 3 rfl) ?_
    refine lv_aload_n hx hb dX4_count_84 rfl (lv_at hl 0 rfl) ?_
    refine xg F 2 inX4 hP (kd_k kdc_8 (by decide)) (wc4 kdc_8) rfl (by decide) tk_555 rfl rfl dX4_count_85 ?_
    refine lv_icmp_ge (tgt := 148) hx hb dX4_count_88 (by decide) (fun b1 => ?_) (fun b1 => ?_)
    · rw [if_pos b1] at hm
      refine lv_iload_n hx hb dX4_count_148 rfl (lv_at hl 1 rfl) ?_
      refine lv_iconst (v := 1) hx hb dX4_count_149 (by decide) ?_
      refine lv_iconst (v := 5) hx hb dX4_count_150 (by decide) ?_
      obtain ⟨x2_, h2, hm⟩ := ri_inv hm
      refine xSt F (c_X4_in h2) tk_635 tk_633 tk_634 tk_6 rfl 3 (by decide +kernel) rfl ⟨Nat.le_of_ble_eq_true rfl, Nat.le_of_ble_eq_true rfl⟩ hP hS hl.1 rfl (Nat.le_of_ble_eq_true rfl) dX4_count_151 ⟨Nat.le_of_ble_eq_true rfl, Nat.le_of_ble_eq_true rfl⟩ (fun v hv H locs hP hS => ?_) (fun E hE => by cases hE)
      cases hv
      replace hP : va_P (gD G) vwCl (wld G lo σ) H := hP
      refine W.eq (g2 := F0 m 154 ls [.int x2_]) rfl ?_
      refine lv_if_eq (tgt := 161) hx hb dX4_count_154 (by decide) (fun b3 => ?_) (fun b3 => ?_)
      · rw [if_pos b3] at hm
        refine lv_iconst (v := (-1)) hx hb dX4_count_161 (by decide) ?_
        exact xir F hP hS (Option.some.inj hm).symm (by decide) (by decide) dX4_count_162
      · rw [if_neg b3] at hm
        refine lv_iload_n hx hb dX4_count_157 rfl (lv_at hl 2 rfl) ?_
        refine lv_goto (tgt := 162) hx hb dX4_count_158 (by decide) ?_
        exact xir F hP hS (Option.some.inj hm).symm (by decide) (by decide) dX4_count_162
    · rw [if_neg b1] at hm
      refine lv_iload_n hx hb dX4_count_91 rfl (lv_at hl 2 rfl) ?_
      refine lv_iload_n hx hb dX4_count_92 rfl (lv_at hl 1 rfl) ?_
      refine lv_iconst (v := 2) hx hb dX4_count_93 (by decide) ?_
      refine lv_icmp_ne (tgt := 106) hx hb dX4_count_94 (by decide) (fun b4 => ?_) (fun b4 => ?_)
      · rw [if_neg b4] at hm
        refine lv_iload_n hx hb dX4_count_106 rfl (lv_at hl 1 rfl) ?_
        refine lv_iconst (v := 3) hx hb dX4_count_107 (by decide) ?_
        refine lv_icmp_ne (tgt := 121) hx hb dX4_count_108 (by decide) (fun b5 => ?_) (fun b5 => ?_)
        · rw [if_neg b5] at hm
          refine lv_iload_n hx hb dX4_count_121 rfl (lv_at hl 1 rfl) ?_
          refine lv_iconst (v := 4) hx hb dX4_count_122 (by decide) ?_
          refine lv_icmp_ne (tgt := 139) hx hb dX4_count_123 (by decide) (fun b6 => ?_) (fun b6 => ?_)
          · rw [if_neg b6] at hm
            refine lv_iconst (v := 0) hx hb dX4_count_139 (by decide) ?_
            refine lv_iadd hx hb dX4_count_140 ?_
            refine lv_istore_n (lv' := [(2, .int (x2 + 0)), (0, .ref (gA G 8)), (1, .int x1), (3, .int x3)]) hx hb dX4_count_141 rfl hl (by decide) rfl (fun ls hl => ?_)
            refine lv_iinc (v := (x3 + 1)) (lv' := [(3, .int (x3 + 1)), (2, .int (x2 + 0)), (0, .ref (gA G 8)), (1, .int x1)]) hx hb dX4_count_142 hl (k := 3) rfl rfl (by decide) rfl (fun ls hl => ?_)
            refine lv_goto (tgt := 83) hx hb dX4_count_145 (by decide) ?_
            exact ih hm hP hS (lv_sub hl [2, 3, 1, 0] rfl)
          · rw [if_pos b6] at hm
            refine lv_aload_n hx hb dX4_count_126 rfl (lv_at hl 0 rfl) ?_
            refine xg F 9 inX4 hP (kd_k kdc_8 (by decide)) (wc4 kdc_8) rfl (by decide) tk_562 rfl rfl dX4_count_127 ?_
            refine lv_iload_n hx hb dX4_count_130 rfl (lv_at hl 3 rfl) ?_
            by_cases b7 : (x3 < 0 ∨ 16 ≤ x3.toNatClampNeg)
            · rw [if_pos b7] at hm
              cases hm
            · rw [if_neg b7] at hm
              refine xzl F hP kdc_15 lnc_15 b7 dX4_count_131 ?_
              refine lv_if_eq (tgt := 139) hx hb dX4_count_132 (by decide) (fun b8 => ?_) (fun b8 => ?_)
              · rw [if_pos b8] at hm
                refine lv_iconst (v := 0) hx hb dX4_count_139 (by decide) ?_
                refine lv_iadd hx hb dX4_count_140 ?_
                refine lv_istore_n (lv' := [(2, .int (x2 + 0)), (0, .ref (gA G 8)), (1, .int x1), (3, .int x3)]) hx hb dX4_count_141 rfl hl (by decide) rfl (fun ls hl => ?_)
                refine lv_iinc (v := (x3 + 1)) (lv' := [(3, .int (x3 + 1)), (2, .int (x2 + 0)), (0, .ref (gA G 8)), (1, .int x1)]) hx hb dX4_count_142 hl (k := 3) rfl rfl (by decide) rfl (fun ls hl => ?_)
                refine lv_goto (tgt := 83) hx hb dX4_count_145 (by decide) ?_
                exact ih hm hP hS (lv_sub hl [2, 3, 1, 0] rfl)
              · rw [if_neg b8] at hm
                refine lv_iconst (v := 1) hx hb dX4_count_135 (by decide) ?_
                refine lv_goto (tgt := 140) hx hb dX4_count_136 (by decide) ?_
                refine lv_iadd hx hb dX4_count_140 ?_
                refine lv_istore_n (lv' := [(2, .int (x2 + 1)), (0, .ref (gA G 8)), (1, .int x1), (3, .int x3)]) hx hb dX4_count_141 rfl hl (by decide) rfl (fun ls hl => ?_)
                refine lv_iinc (v := (x3 + 1)) (lv' := [(3, .int (x3 + 1)), (2, .int (x2 + 1)), (0, .ref (gA G 8)), (1, .int x1)]) hx hb dX4_count_142 hl (k := 3) rfl rfl (by decide) rfl (fun ls hl => ?_)
                refine lv_goto (tgt := 83) hx hb dX4_count_145 (by decide) ?_
                exact ih hm hP hS (lv_sub hl [2, 3, 1, 0] rfl)
        · rw [if_pos b5] at hm
          refine lv_aload_n hx hb dX4_count_111 rfl (lv_at hl 0 rfl) ?_
          refine xg F 7 inX4 hP (kd_k kdc_8 (by decide)) (wc4 kdc_8) rfl (by decide) tk_560 rfl rfl dX4_count_112 ?_
          refine lv_iload_n hx hb dX4_count_115 rfl (lv_at hl 3 rfl) ?_
          by_cases b9 : (x3 < 0 ∨ 16 ≤ x3.toNatClampNeg)
          · rw [if_pos b9] at hm
            cases hm
          · rw [if_neg b9] at hm
            refine xil F hP kdc_13 lnc_13 b9 dX4_count_116 ?_
            refine lv_iconst (v := (-1)) hx hb dX4_count_117 (by decide) ?_
            refine lv_icmp_eq (tgt := 135) hx hb dX4_count_118 (by decide) (fun b10 => ?_) (fun b10 => ?_)
            · rw [if_pos b10] at hm
              refine lv_iconst (v := 1) hx hb dX4_count_135 (by decide) ?_
              refine lv_goto (tgt := 140) hx hb dX4_count_136 (by decide) ?_
              refine lv_iadd hx hb dX4_count_140 ?_
              refine lv_istore_n (lv' := [(2, .int (x2 + 1)), (0, .ref (gA G 8)), (1, .int x1), (3, .int x3)]) hx hb dX4_count_141 rfl hl (by decide) rfl (fun ls hl => ?_)
              refine lv_iinc (v := (x3 + 1)) (lv' := [(3, .int (x3 + 1)), (2, .int (x2 + 1)), (0, .ref (gA G 8)), (1, .int x1)]) hx hb dX4_count_142 hl (k := 3) rfl rfl (by decide) rfl (fun ls hl => ?_)
              refine lv_goto (tgt := 83) hx hb dX4_count_145 (by decide) ?_
              exact ih hm hP hS (lv_sub hl [2, 3, 1, 0] rfl)
            · rw [if_neg b10] at hm
              refine lv_iload_n hx hb dX4_count_121 rfl (lv_at hl 1 rfl) ?_
              refine lv_iconst (v := 4) hx hb dX4_count_122 (by decide) ?_
              refine lv_icmp_ne (tgt := 139) hx hb dX4_count_123 (by decide) (fun b11 => ?_) (fun b11 => ?_)
              · rw [if_neg b11] at hm
                refine lv_iconst (v := 0) hx hb dX4_count_139 (by decide) ?_
                refine lv_iadd hx hb dX4_count_140 ?_
                refine lv_istore_n (lv' := [(2, .int (x2 + 0)), (0, .ref (gA G 8)), (1, .int x1), (3, .int x3)]) hx hb dX4_count_141 rfl hl (by decide) rfl (fun ls hl => ?_)
                refine lv_iinc (v := (x3 + 1)) (lv' := [(3, .int (x3 + 1)), (2, .int (x2 + 0)), (0, .ref (gA G 8)), (1, .int x1)]) hx hb dX4_count_142 hl (k := 3) rfl rfl (by decide) rfl (fun ls hl => ?_)
                refine lv_goto (tgt := 83) hx hb dX4_count_145 (by decide) ?_
                exact ih hm hP hS (lv_sub hl [2, 3, 1, 0] rfl)
              · rw [if_pos b11] at hm
                refine lv_aload_n hx hb dX4_count_126 rfl (lv_at hl 0 rfl) ?_
                refine xg F 9 inX4 hP (kd_k kdc_8 (by decide)) (wc4 kdc_8) rfl (by decide) tk_562 rfl rfl dX4_count_127 ?_
                refine lv_iload_n hx hb dX4_count_130 rfl (lv_at hl 3 rfl) ?_
                refine xzl F hP kdc_15 lnc_15 b9 dX4_count_131 ?_
                refine lv_if_eq (tgt := 139) hx hb dX4_count_132 (by decide) (fun b12 => ?_) (fun b12 => ?_)
                · rw [if_pos b12] at hm
                  refine lv_iconst (v := 0) hx hb dX4_count_139 (by decide) ?_
                  refine lv_iadd hx hb dX4_count_140 ?_
                  refine lv_istore_n (lv' := [(2, .int (x2 + 0)), (0, .ref (gA G 8)), (1, .int x1), (3, .int x3)]) hx hb dX4_count_141 rfl hl (by decide) rfl (fun ls hl => ?_)
                  refine lv_iinc (v := (x3 + 1)) (lv' := [(3, .int (x3 + 1)), (2, .int (x2 + 0)), (0, .ref (gA G 8)), (1, .int x1)]) hx hb dX4_count_142 hl (k := 3) rfl rfl (by decide) rfl (fun ls hl => ?_)
                  refine lv_goto (tgt := 83) hx hb dX4_count_145 (by decide) ?_
                  exact ih hm hP hS (lv_sub hl [2, 3, 1, 0] rfl)
                · rw [if_neg b12] at hm
                  refine lv_iconst (v := 1) hx hb dX4_count_135 (by decide) ?_
                  refine lv_goto (tgt := 140) hx hb dX4_count_136 (by decide) ?_
                  refine lv_iadd hx hb dX4_count_140 ?_
                  refine lv_istore_n (lv' := [(2, .int (x2 + 1)), (0, .ref (gA G 8)), (1, .int x1), (3, .int x3)]) hx hb dX4_count_141 rfl hl (by decide) rfl (fun ls hl => ?_)
                  refine lv_iinc (v := (x3 + 1)) (lv' := [(3, .int (x3 + 1)), (2, .int (x2 + 1)), (0, .ref (gA G 8)), (1, .int x1)]) hx hb dX4_count_142 hl (k := 3) rfl rfl (by decide) rfl (fun ls hl => ?_)
                  refine lv_goto (tgt := 83) hx hb dX4_count_145 (by decide) ?_
                  exact ih hm hP hS (lv_sub hl [2, 3, 1, 0] rfl)
      · rw [if_pos b4] at hm
        refine lv_aload_n hx hb dX4_count_97 rfl (lv_at hl 0 rfl) ?_
        refine xg F 7 inX4 hP (kd_k kdc_8 (by decide)) (wc4 kdc_8) rfl (by decide) tk_560 rfl rfl dX4_count_98 ?_
        refine lv_iload_n hx hb dX4_count_101 rfl (lv_at hl 3 rfl) ?_
        by_cases b13 : (x3 < 0 ∨ 16 ≤ x3.toNatClampNeg)
        · rw [if_pos b13] at hm
          cases hm
        · rw [if_neg b13] at hm
          refine xil F hP kdc_13 lnc_13 b13 dX4_count_102 ?_
          refine lv_if_eq (tgt := 135) hx hb dX4_count_103 (by decide) (fun b14 => ?_) (fun b14 => ?_)
          · rw [if_pos b14] at hm
            refine lv_iconst (v := 1) hx hb dX4_count_135 (by decide) ?_
            refine lv_goto (tgt := 140) hx hb dX4_count_136 (by decide) ?_
            refine lv_iadd hx hb dX4_count_140 ?_
            refine lv_istore_n (lv' := [(2, .int (x2 + 1)), (0, .ref (gA G 8)), (1, .int x1), (3, .int x3)]) hx hb dX4_count_141 rfl hl (by decide) rfl (fun ls hl => ?_)
            refine lv_iinc (v := (x3 + 1)) (lv' := [(3, .int (x3 + 1)), (2, .int (x2 + 1)), (0, .ref (gA G 8)), (1, .int x1)]) hx hb dX4_count_142 hl (k := 3) rfl rfl (by decide) rfl (fun ls hl => ?_)
            refine lv_goto (tgt := 83) hx hb dX4_count_145 (by decide) ?_
            exact ih hm hP hS (lv_sub hl [2, 3, 1, 0] rfl)
          · rw [if_neg b14] at hm
            refine lv_iload_n hx hb dX4_count_106 rfl (lv_at hl 1 rfl) ?_
            refine lv_iconst (v := 3) hx hb dX4_count_107 (by decide) ?_
            refine lv_icmp_ne (tgt := 121) hx hb dX4_count_108 (by decide) (fun b15 => ?_) (fun b15 => ?_)
            · rw [if_neg b15] at hm
              refine lv_iload_n hx hb dX4_count_121 rfl (lv_at hl 1 rfl) ?_
              refine lv_iconst (v := 4) hx hb dX4_count_122 (by decide) ?_
              refine lv_icmp_ne (tgt := 139) hx hb dX4_count_123 (by decide) (fun b16 => ?_) (fun b16 => ?_)
              · rw [if_neg b16] at hm
                refine lv_iconst (v := 0) hx hb dX4_count_139 (by decide) ?_
                refine lv_iadd hx hb dX4_count_140 ?_
                refine lv_istore_n (lv' := [(2, .int (x2 + 0)), (0, .ref (gA G 8)), (1, .int x1), (3, .int x3)]) hx hb dX4_count_141 rfl hl (by decide) rfl (fun ls hl => ?_)
                refine lv_iinc (v := (x3 + 1)) (lv' := [(3, .int (x3 + 1)), (2, .int (x2 + 0)), (0, .ref (gA G 8)), (1, .int x1)]) hx hb dX4_count_142 hl (k := 3) rfl rfl (by decide) rfl (fun ls hl => ?_)
                refine lv_goto (tgt := 83) hx hb dX4_count_145 (by decide) ?_
                exact ih hm hP hS (lv_sub hl [2, 3, 1, 0] rfl)
              · rw [if_pos b16] at hm
                refine lv_aload_n hx hb dX4_count_126 rfl (lv_at hl 0 rfl) ?_
                refine xg F 9 inX4 hP (kd_k kdc_8 (by decide)) (wc4 kdc_8) rfl (by decide) tk_562 rfl rfl dX4_count_127 ?_
                refine lv_iload_n hx hb dX4_count_130 rfl (lv_at hl 3 rfl) ?_
                refine xzl F hP kdc_15 lnc_15 b13 dX4_count_131 ?_
                refine lv_if_eq (tgt := 139) hx hb dX4_count_132 (by decide) (fun b17 => ?_) (fun b17 => ?_)
                · rw [if_pos b17] at hm
                  refine lv_iconst (v := 0) hx hb dX4_count_139 (by decide) ?_
                  refine lv_iadd hx hb dX4_count_140 ?_
                  refine lv_istore_n (lv' := [(2, .int (x2 + 0)), (0, .ref (gA G 8)), (1, .int x1), (3, .int x3)]) hx hb dX4_count_141 rfl hl (by decide) rfl (fun ls hl => ?_)
                  refine lv_iinc (v := (x3 + 1)) (lv' := [(3, .int (x3 + 1)), (2, .int (x2 + 0)), (0, .ref (gA G 8)), (1, .int x1)]) hx hb dX4_count_142 hl (k := 3) rfl rfl (by decide) rfl (fun ls hl => ?_)
                  refine lv_goto (tgt := 83) hx hb dX4_count_145 (by decide) ?_
                  exact ih hm hP hS (lv_sub hl [2, 3, 1, 0] rfl)
                · rw [if_neg b17] at hm
                  refine lv_iconst (v := 1) hx hb dX4_count_135 (by decide) ?_
                  refine lv_goto (tgt := 140) hx hb dX4_count_136 (by decide) ?_
                  refine lv_iadd hx hb dX4_count_140 ?_
                  refine lv_istore_n (lv' := [(2, .int (x2 + 1)), (0, .ref (gA G 8)), (1, .int x1), (3, .int x3)]) hx hb dX4_count_141 rfl hl (by decide) rfl (fun ls hl => ?_)
                  refine lv_iinc (v := (x3 + 1)) (lv' := [(3, .int (x3 + 1)), (2, .int (x2 + 1)), (0, .ref (gA G 8)), (1, .int x1)]) hx hb dX4_count_142 hl (k := 3) rfl rfl (by decide) rfl (fun ls hl => ?_)
                  refine lv_goto (tgt := 83) hx hb dX4_count_145 (by decide) ?_
                  exact ih hm hP hS (lv_sub hl [2, 3, 1, 0] rfl)
            · rw [if_pos b15] at hm
              refine lv_aload_n hx hb dX4_count_111 rfl (lv_at hl 0 rfl) ?_
              refine xg F 7 inX4 hP (kd_k kdc_8 (by decide)) (wc4 kdc_8) rfl (by decide) tk_560 rfl rfl dX4_count_112 ?_
              refine lv_iload_n hx hb dX4_count_115 rfl (lv_at hl 3 rfl) ?_
              refine xil F hP kdc_13 lnc_13 b13 dX4_count_116 ?_
              refine lv_iconst (v := (-1)) hx hb dX4_count_117 (by decide) ?_
              refine lv_icmp_eq (tgt := 135) hx hb dX4_count_118 (by decide) (fun b18 => ?_) (fun b18 => ?_)
              · rw [if_pos b18] at hm
                refine lv_iconst (v := 1) hx hb dX4_count_135 (by decide) ?_
                refine lv_goto (tgt := 140) hx hb dX4_count_136 (by decide) ?_
                refine lv_iadd hx hb dX4_count_140 ?_
                refine lv_istore_n (lv' := [(2, .int (x2 + 1)), (0, .ref (gA G 8)), (1, .int x1), (3, .int x3)]) hx hb dX4_count_141 rfl hl (by decide) rfl (fun ls hl => ?_)
                refine lv_iinc (v := (x3 + 1)) (lv' := [(3, .int (x3 + 1)), (2, .int (x2 + 1)), (0, .ref (gA G 8)), (1, .int x1)]) hx hb dX4_count_142 hl (k := 3) rfl rfl (by decide) rfl (fun ls hl => ?_)
                refine lv_goto (tgt := 83) hx hb dX4_count_145 (by decide) ?_
                exact ih hm hP hS (lv_sub hl [2, 3, 1, 0] rfl)
              · rw [if_neg b18] at hm
                refine lv_iload_n hx hb dX4_count_121 rfl (lv_at hl 1 rfl) ?_
                refine lv_iconst (v := 4) hx hb dX4_count_122 (by decide) ?_
                refine lv_icmp_ne (tgt := 139) hx hb dX4_count_123 (by decide) (fun b19 => ?_) (fun b19 => ?_)
                · rw [if_neg b19] at hm
                  refine lv_iconst (v := 0) hx hb dX4_count_139 (by decide) ?_
                  refine lv_iadd hx hb dX4_count_140 ?_
                  refine lv_istore_n (lv' := [(2, .int (x2 + 0)), (0, .ref (gA G 8)), (1, .int x1), (3, .int x3)]) hx hb dX4_count_141 rfl hl (by decide) rfl (fun ls hl => ?_)
                  refine lv_iinc (v := (x3 + 1)) (lv' := [(3, .int (x3 + 1)), (2, .int (x2 + 0)), (0, .ref (gA G 8)), (1, .int x1)]) hx hb dX4_count_142 hl (k := 3) rfl rfl (by decide) rfl (fun ls hl => ?_)
                  refine lv_goto (tgt := 83) hx hb dX4_count_145 (by decide) ?_
                  exact ih hm hP hS (lv_sub hl [2, 3, 1, 0] rfl)
                · rw [if_pos b19] at hm
                  refine lv_aload_n hx hb dX4_count_126 rfl (lv_at hl 0 rfl) ?_
                  refine xg F 9 inX4 hP (kd_k kdc_8 (by decide)) (wc4 kdc_8) rfl (by decide) tk_562 rfl rfl dX4_count_127 ?_
                  refine lv_iload_n hx hb dX4_count_130 rfl (lv_at hl 3 rfl) ?_
                  refine xzl F hP kdc_15 lnc_15 b13 dX4_count_131 ?_
                  refine lv_if_eq (tgt := 139) hx hb dX4_count_132 (by decide) (fun b20 => ?_) (fun b20 => ?_)
                  · rw [if_pos b20] at hm
                    refine lv_iconst (v := 0) hx hb dX4_count_139 (by decide) ?_
                    refine lv_iadd hx hb dX4_count_140 ?_
                    refine lv_istore_n (lv' := [(2, .int (x2 + 0)), (0, .ref (gA G 8)), (1, .int x1), (3, .int x3)]) hx hb dX4_count_141 rfl hl (by decide) rfl (fun ls hl => ?_)
                    refine lv_iinc (v := (x3 + 1)) (lv' := [(3, .int (x3 + 1)), (2, .int (x2 + 0)), (0, .ref (gA G 8)), (1, .int x1)]) hx hb dX4_count_142 hl (k := 3) rfl rfl (by decide) rfl (fun ls hl => ?_)
                    refine lv_goto (tgt := 83) hx hb dX4_count_145 (by decide) ?_
                    exact ih hm hP hS (lv_sub hl [2, 3, 1, 0] rfl)
                  · rw [if_neg b20] at hm
                    refine lv_iconst (v := 1) hx hb dX4_count_135 (by decide) ?_
                    refine lv_goto (tgt := 140) hx hb dX4_count_136 (by decide) ?_
                    refine lv_iadd hx hb dX4_count_140 ?_
                    refine lv_istore_n (lv' := [(2, .int (x2 + 1)), (0, .ref (gA G 8)), (1, .int x1), (3, .int x3)]) hx hb dX4_count_141 rfl hl (by decide) rfl (fun ls hl => ?_)
                    refine lv_iinc (v := (x3 + 1)) (lv' := [(3, .int (x3 + 1)), (2, .int (x2 + 1)), (0, .ref (gA G 8)), (1, .int x1)]) hx hb dX4_count_142 hl (k := 3) rfl rfl (by decide) rfl (fun ls hl => ?_)
                    refine lv_goto (tgt := 83) hx hb dX4_count_145 (by decide) ?_
                    exact ih hm hP hS (lv_sub hl [2, 3, 1, 0] rfl)
def f_X4_count_29 (σ : St) (x1 : Int32) : Nat → Int32 → Int32 → Option (RV × St)
  | 0, _, _ => none
  | n + 1, x2, x3 =>
    if (σ 8 16) < x3 then
      f_X4_count_83 σ x1 40 x2 0
    else
      if x1 = 1 then
        ri (f_X4_sizeOf σ x3) (fun x5_ =>
          if x5_ ≤ 0 then
            f_X4_count_29 σ x1 n (x2 + 0) (x3 + 1)
          else
            f_X4_count_29 σ x1 n (x2 + 1) (x3 + 1))
      else
        if x1 = 5 then
          ri (f_X4_savedOf σ x3) (fun x4_ =>
            f_X4_count_29 σ x1 n (x2 + x4_) (x3 + 1))
        else
          f_X4_count_29 σ x1 n (x2 + 0) (x3 + 1)
set_option maxHeartbeats 4000000 in
set_option maxRecDepth 100000 in
theorem w_X4_count_29 {p : Program} {l : Launch} {e : Env} {s : State} {m : MethodId} {args : Array Value} {below : List Frame} {meth : Method} {c : Code} {G : GT} {lo : Nat → Int64} (F : Fx p l s args m meth c G cX4_count 4 (some .int) RX4) {σ : St} {x1 : Int32} : ∀ (n : Nat) {x2 : Int32} {x3 : Int32} {r : RV × St}, f_X4_count_29 σ x1 n x2 x3 = some r → ∀ {H : Heap} {locs : List Loc}, va_P (gD G) vwCl (wld G lo σ) H → va_S (gF G) s.heap H locs → ∀ {ls : Array Slot}, lv_has ls 4 [(0, .ref (gA G 8)), (1, .int x1), (2, .int x2), (3, .int x3)] → W p l e (RM 3 71 0 0) s m args below meth c H locs 0 0 (vx_MQ below (QCr G lo r) (XCr G lo r) args s 0 0 (gF G)) (F0 m 29 ls []) := by
  obtain ⟨hx, hb, hrt, hml, hown, hts, hlocks, hC, htab, hst⟩ := id F
  intro n
  induction n with
  | zero =>
    intro x2 x3 r hm
    simp only [f_X4_count_29] at hm
    cases hm
  | succ n ih =>
    intro x2 x3 r hm H locs hP hS ls hl
    rw [f_X4_count_29] at hm
    refine lv_iload_n hx hb dX4_count_29 rfl (lv_at hl 3 rfl) ?_
    refine lv_aload_n hx hb dX4_count_30 rfl (lv_at hl 0 rfl) ?_
    refine xg F 16 inX4 hP (kd_k kdc_8 (by decide)) (wc4 kdc_8) rfl (by decide) tk_569 rfl rfl dX4_count_31 ?_
    refine lv_icmp_gt (tgt := 81) hx hb dX4_count_34 (by decide) (fun b1 => ?_) (fun b1 => ?_)
    · rw [if_pos b1] at hm
      refine lv_iconst (v := 0) hx hb dX4_count_81 (by decide) ?_
      refine lv_istore_n (lv' := [(3, .int 0), (0, .ref (gA G 8)), (1, .int x1), (2, .int x2)]) hx hb dX4_count_82 rfl hl (by decide) rfl (fun ls hl => ?_)
      exact w_X4_count_83 F 40 hm hP hS (lv_sub hl [1, 2, 3, 0] rfl)
    · rw [if_neg b1] at hm
      refine lv_iload_n hx hb dX4_count_37 rfl (lv_at hl 2 rfl) ?_
      refine lv_iload_n hx hb dX4_count_38 rfl (lv_at hl 1 rfl) ?_
      refine lv_iconst (v := 1) hx hb dX4_count_39 (by decide) ?_
      refine lv_icmp_ne (tgt := 59) hx hb dX4_count_40 (by decide) (fun b2 => ?_) (fun b2 => ?_)
      · rw [if_neg b2] at hm
        refine lv_iload_n hx hb dX4_count_59 rfl (lv_at hl 1 rfl) ?_
        refine lv_iconst (v := 5) hx hb dX4_count_60 (by decide) ?_
        refine lv_icmp_ne (tgt := 72) hx hb dX4_count_61 (by decide) (fun b3 => ?_) (fun b3 => ?_)
        · rw [if_neg b3] at hm
          refine lv_iconst (v := 0) hx hb dX4_count_72 (by decide) ?_
          refine lv_iadd hx hb dX4_count_73 ?_
          refine lv_istore_n (lv' := [(2, .int (x2 + 0)), (0, .ref (gA G 8)), (1, .int x1), (3, .int x3)]) hx hb dX4_count_74 rfl hl (by decide) rfl (fun ls hl => ?_)
          refine lv_iinc (v := (x3 + 1)) (lv' := [(3, .int (x3 + 1)), (2, .int (x2 + 0)), (0, .ref (gA G 8)), (1, .int x1)]) hx hb dX4_count_75 hl (k := 3) rfl rfl (by decide) rfl (fun ls hl => ?_)
          refine lv_goto (tgt := 29) hx hb dX4_count_78 (by decide) ?_
          exact ih hm hP hS (lv_sub hl [2, 3, 1, 0] rfl)
        · rw [if_pos b3] at hm
          refine lv_aload_n hx hb dX4_count_64 rfl (lv_at hl 0 rfl) ?_
          refine lv_iload_n hx hb dX4_count_65 rfl (lv_at hl 3 rfl) ?_
          obtain ⟨x4_, h4, hm⟩ := ri_inv hm
          refine xV F (c_X4_savedOf h4) tk_723 tk_720 tk_722 tu_48 tk_6 rfl 1 (by decide +kernel) rfl ⟨Nat.le_of_ble_eq_true rfl, Nat.le_of_ble_eq_true rfl⟩ hP hS (kd_k kdc_8 (by decide)) (wc4 kdc_8) rfl hl.1 rfl (Nat.le_of_ble_eq_true rfl) dX4_count_66 ⟨Nat.le_of_ble_eq_true rfl, Nat.le_of_ble_eq_true rfl⟩ (fun v hv H locs hP hS => ?_) (fun E hE => by cases hE)
          cases hv
          replace hP : va_P (gD G) vwCl (wld G lo σ) H := hP
          refine W.eq (g2 := F0 m 69 ls [.int x4_, .int x2]) rfl ?_
          refine lv_goto (tgt := 73) hx hb dX4_count_69 (by decide) ?_
          refine lv_iadd hx hb dX4_count_73 ?_
          refine lv_istore_n (lv' := [(2, .int (x2 + x4_)), (0, .ref (gA G 8)), (1, .int x1), (3, .int x3)]) hx hb dX4_count_74 rfl hl (by decide) rfl (fun ls hl => ?_)
          refine lv_iinc (v := (x3 + 1)) (lv' := [(3, .int (x3 + 1)), (2, .int (x2 + x4_)), (0, .ref (gA G 8)), (1, .int x1)]) hx hb dX4_count_75 hl (k := 3) rfl rfl (by decide) rfl (fun ls hl => ?_)
          refine lv_goto (tgt := 29) hx hb dX4_count_78 (by decide) ?_
          exact ih hm hP hS (lv_sub hl [2, 3, 1, 0] rfl)
      · rw [if_pos b2] at hm
        refine lv_aload_n hx hb dX4_count_43 rfl (lv_at hl 0 rfl) ?_
        refine lv_iload_n hx hb dX4_count_44 rfl (lv_at hl 3 rfl) ?_
        obtain ⟨x5_, h5, hm⟩ := ri_inv hm
        refine xV F (c_X4_sizeOf h5) tk_715 tk_712 tk_714 tu_46 tk_6 rfl 1 (by decide +kernel) rfl ⟨Nat.le_of_ble_eq_true rfl, Nat.le_of_ble_eq_true rfl⟩ hP hS (kd_k kdc_8 (by decide)) (wc4 kdc_8) rfl hl.1 rfl (Nat.le_of_ble_eq_true rfl) dX4_count_45 ⟨Nat.le_of_ble_eq_true rfl, Nat.le_of_ble_eq_true rfl⟩ (fun v hv H locs hP hS => ?_) (fun E hE => by cases hE)
        cases hv
        replace hP : va_P (gD G) vwCl (wld G lo σ) H := hP
        refine W.eq (g2 := F0 m 48 ls [.int x5_, .int x2]) rfl ?_
        refine lv_if_le (tgt := 55) hx hb dX4_count_48 (by decide) (fun b6 => ?_) (fun b6 => ?_)
        · rw [if_pos b6] at hm
          refine lv_iconst (v := 0) hx hb dX4_count_55 (by decide) ?_
          refine lv_goto (tgt := 73) hx hb dX4_count_56 (by decide) ?_
          refine lv_iadd hx hb dX4_count_73 ?_
          refine lv_istore_n (lv' := [(2, .int (x2 + 0)), (0, .ref (gA G 8)), (1, .int x1), (3, .int x3)]) hx hb dX4_count_74 rfl hl (by decide) rfl (fun ls hl => ?_)
          refine lv_iinc (v := (x3 + 1)) (lv' := [(3, .int (x3 + 1)), (2, .int (x2 + 0)), (0, .ref (gA G 8)), (1, .int x1)]) hx hb dX4_count_75 hl (k := 3) rfl rfl (by decide) rfl (fun ls hl => ?_)
          refine lv_goto (tgt := 29) hx hb dX4_count_78 (by decide) ?_
          exact ih hm hP hS (lv_sub hl [2, 3, 1, 0] rfl)
        · rw [if_neg b6] at hm
          refine lv_iconst (v := 1) hx hb dX4_count_51 (by decide) ?_
          refine lv_goto (tgt := 73) hx hb dX4_count_52 (by decide) ?_
          refine lv_iadd hx hb dX4_count_73 ?_
          refine lv_istore_n (lv' := [(2, .int (x2 + 1)), (0, .ref (gA G 8)), (1, .int x1), (3, .int x3)]) hx hb dX4_count_74 rfl hl (by decide) rfl (fun ls hl => ?_)
          refine lv_iinc (v := (x3 + 1)) (lv' := [(3, .int (x3 + 1)), (2, .int (x2 + 1)), (0, .ref (gA G 8)), (1, .int x1)]) hx hb dX4_count_75 hl (k := 3) rfl rfl (by decide) rfl (fun ls hl => ?_)
          refine lv_goto (tgt := 29) hx hb dX4_count_78 (by decide) ?_
          exact ih hm hP hS (lv_sub hl [2, 3, 1, 0] rfl)
def f_X4_count (σ : St) (x1 : Int32) : Option (RV × St) :=
  if x1 = 0 then
    some (.inl (some (.inl ((up2 σ 8 0 0) 8 2))), (up2 σ 8 0 0))
  else
    if x1 = 6 then
      some (.inl (some (.inl ((up2 σ 8 0 0) 8 1))), (up2 σ 8 0 0))
    else
      f_X4_count_29 (up2 σ 8 0 0) x1 40 0 1
set_option maxHeartbeats 4000000 in
set_option maxRecDepth 100000 in
theorem c_X4_count {l : Launch} {G : GT} {σ : St} {x1 : Int32} {r : RV × St} (hm : f_X4_count σ x1 = some r) : MC l G yX4_count cX4_count 4 (some .int) 3 71 0 0 [.inr 8, .inl x1] σ r := by
  refine xbody (by decide) (Nat.le_of_ble_eq_true rfl) ?_
  intro lo p e s m args below meth c F hP ls hl
  have F : Fx p l s args m meth c G cX4_count 4 (some .int) RX4 := F
  obtain ⟨hx, hb, hrt, hml, hown, hts, hlocks, hC, htab, hst⟩ := id F
  have hS : va_S (gF G) s.heap s.heap [] := va_S.rf
  have hl : lv_has ls 4 [(0, .ref (gA G 8)), (1, .int x1)] := hl
  unfold f_X4_count at hm
  refine lv_aload_n hx hb dX4_count_0 rfl (lv_at hl 0 rfl) ?_
  refine lv_iconst (v := 0) hx hb dX4_count_1 (by decide) ?_
  refine xp F (v := 0) (ty := .int) 0 inX4 tyX4_ok nmX4 hP hS (kd_k kdc_8 (by decide)) (wc4 kdc_8) (wu4_0 kdc_8) rfl (by decide) tk_553 rfl rfl rfl rfl rfl (Nat.le_of_ble_eq_true rfl) dX4_count_2 (fun H locs hP hS => ?_)
  refine lv_iload_n hx hb dX4_count_5 rfl (lv_at hl 1 rfl) ?_
  refine lv_if_ne (tgt := 14) hx hb dX4_count_6 (by decide) (fun b1 => ?_) (fun b1 => ?_)
  · rw [if_neg b1] at hm
    refine lv_iload_n hx hb dX4_count_14 rfl (lv_at hl 1 rfl) ?_
    refine lv_bipush (v := 6) hx hb dX4_count_15 (by decide) ?_
    refine lv_icmp_ne (tgt := 25) hx hb dX4_count_17 (by decide) (fun b2 => ?_) (fun b2 => ?_)
    · rw [if_neg b2] at hm
      refine lv_iconst (v := 0) hx hb dX4_count_25 (by decide) ?_
      refine lv_istore_n (lv' := [(2, .int 0), (0, .ref (gA G 8)), (1, .int x1)]) hx hb dX4_count_26 rfl hl (by decide) rfl (fun ls hl => ?_)
      refine lv_iconst (v := 1) hx hb dX4_count_27 (by decide) ?_
      refine lv_istore_n (lv' := [(3, .int 1), (2, .int 0), (0, .ref (gA G 8)), (1, .int x1)]) hx hb dX4_count_28 rfl hl (by decide) rfl (fun ls hl => ?_)
      exact w_X4_count_29 F 40 hm hP hS (lv_sub hl [2, 3, 1, 0] rfl)
    · rw [if_pos b2] at hm
      refine lv_aload_n hx hb dX4_count_20 rfl (lv_at hl 0 rfl) ?_
      refine xg F 1 inX4 hP (kd_k kdc_8 (by decide)) (wc4 kdc_8) rfl (by decide) tk_554 rfl rfl dX4_count_21 ?_
      exact xir F hP hS (Option.some.inj hm).symm (by decide) (by decide) dX4_count_24
  · rw [if_pos b1] at hm
    refine lv_aload_n hx hb dX4_count_9 rfl (lv_at hl 0 rfl) ?_
    refine xg F 2 inX4 hP (kd_k kdc_8 (by decide)) (wc4 kdc_8) rfl (by decide) tk_555 rfl rfl dX4_count_10 ?_
    exact xir F hP hS (Option.some.inj hm).symm (by decide) (by decide) dX4_count_13
