set_option maxHeartbeats 4000000 in
set_option maxRecDepth 100000 in
theorem k_X4_init {l : Launch} {G : GT} {w0 : va_W} {h0 : Nat} {x1 : Int32} : MK l G yX4_init cX4_init 2 1 20 16 377 [.ref h0, .int x1] (w0 ++ [(h0, .inr (4, [.int 0, .int 0, .int 0, .null, .null, .null, .null, .null, .null, .null, .null, .int 0, .int 0, .null, .null, .null, .int 0, .null, .null, .null, .null, .null]))]) (fun ws => ∃ A : Nat → Nat, ws = w0 ++ (h0, .inr (4, [.int 0, .int (if 0 ≤ x1 then (if x1 ≤ 65536 then x1 else 65536) else 0), .int 0, .ref (A 0), .ref (A 1), .ref (A 2), .ref (A 3), .ref (A 4), .ref (A 5), .ref (A 6), .ref (A 7), .int 0, .int 0, .ref (A 8), .ref (A 9), .ref (A 10), .int 0, .ref (A 11), .ref (A 12), .ref (A 13), .ref (A 14), .ref (A 15)])) :: [(A 0, .inl (gC G 0, 16, .inl (fun _ => 0))), (A 1, .inl (gC G 0, 16, .inl (fun _ => 0))), (A 2, .inl (gC G 0, 16, .inl (fun _ => 0))), (A 3, .inl (gC G 0, 16, .inl (fun _ => 0))), (A 4, .inl (gC G 0, 16, .inl (fun _ => 0))), (A 5, .inl (gC G 0, 16, .inl (fun _ => 0))), (A 6, .inl (gC G 1, 16, .inl (fun _ => 0))), (A 7, .inl (gC G 0, 160, .inl (fun _ => 0))), (A 8, .inl (gC G 0, 10, .inl (fun _ => 0))), (A 9, .inl (gC G 0, 10, .inl (fun _ => 0))), (A 10, .inl (gC G 0, 10, .inl (fun _ => 0))), (A 11, .inl (gC G 1, 17, .inl (fun _ => 0))), (A 12, .inl (gC G 0, 10, .inl (fun _ => 0))), (A 13, .inl (gC G 0, 16, .inl (fun _ => 0))), (A 14, .inl (gC G 0, 16, .inl (fun _ => 0))), (A 15, .inl (gC G 1, 16, .inl (fun _ => 0)))]) := by
  refine kbody (by decide) rfl (Nat.le_of_ble_eq_true rfl) ?_
  intro p e s m args below meth c F hP hD ls hl
  have F : Fk p s args m meth c G cX4_init 2 RX4 := F
  obtain ⟨hx, hb, hrt, hml, hown, hts, hlocks, hC, hin2⟩ := id F
  have hS : va_S (gF G) s.heap s.heap [] := va_S.rf
  have hl : lv_has ls 2 [(0, .ref h0), (1, .int x1)] := hl
  refine lv_aload_n hx hb dX4_init_0 rfl (lv_at hl 0 rfl) ?_
  refine kobj F tk_551 tk_20 tk_21 hl.1 dX4_init_1 (Nat.le_of_ble_eq_true rfl) (Nat.le_of_ble_eq_true rfl) ?_
  refine lv_aload_n hx hb dX4_init_4 rfl (lv_at hl 0 rfl) ?_
  refine lv_bipush (v := 16) hx hb dX4_init_5 (by decide) ?_
  refine kArr F (N := 16) (t0 := 0) (ty := .int) 3 inX4 tyX4_ok nmX4 hP hD hS rfl (by decide) tk_556 rfl rfl rfl (Nat.le_of_ble_eq_true rfl) tk_49 rfl rfl rfl (by decide) (by decide) (by decide) (Nat.le_of_ble_eq_true rfl) (Nat.le_of_ble_eq_true rfl) dX4_init_7 dX4_init_9 (fun a3 H locs hP hD hS => ?_)
  refine lv_aload_n hx hb dX4_init_12 rfl (lv_at hl 0 rfl) ?_
  refine lv_bipush (v := 16) hx hb dX4_init_13 (by decide) ?_
  refine kArr F (N := 16) (t0 := 0) (ty := .int) 4 inX4 tyX4_ok nmX4 hP hD hS rfl (by decide) tk_557 rfl rfl rfl (Nat.le_of_ble_eq_true rfl) tk_49 rfl rfl rfl (by decide) (by decide) (by decide) (Nat.le_of_ble_eq_true rfl) (Nat.le_of_ble_eq_true rfl) dX4_init_15 dX4_init_17 (fun a4 H locs hP hD hS => ?_)
  refine lv_aload_n hx hb dX4_init_20 rfl (lv_at hl 0 rfl) ?_
  refine lv_bipush (v := 16) hx hb dX4_init_21 (by decide) ?_
  refine kArr F (N := 16) (t0 := 0) (ty := .int) 5 inX4 tyX4_ok nmX4 hP hD hS rfl (by decide) tk_558 rfl rfl rfl (Nat.le_of_ble_eq_true rfl) tk_49 rfl rfl rfl (by decide) (by decide) (by decide) (Nat.le_of_ble_eq_true rfl) (Nat.le_of_ble_eq_true rfl) dX4_init_23 dX4_init_25 (fun a5 H locs hP hD hS => ?_)
  refine lv_aload_n hx hb dX4_init_28 rfl (lv_at hl 0 rfl) ?_
  refine lv_bipush (v := 16) hx hb dX4_init_29 (by decide) ?_
  refine kArr F (N := 16) (t0 := 0) (ty := .int) 6 inX4 tyX4_ok nmX4 hP hD hS rfl (by decide) tk_559 rfl rfl rfl (Nat.le_of_ble_eq_true rfl) tk_49 rfl rfl rfl (by decide) (by decide) (by decide) (Nat.le_of_ble_eq_true rfl) (Nat.le_of_ble_eq_true rfl) dX4_init_31 dX4_init_33 (fun a6 H locs hP hD hS => ?_)
  refine lv_aload_n hx hb dX4_init_36 rfl (lv_at hl 0 rfl) ?_
  refine lv_bipush (v := 16) hx hb dX4_init_37 (by decide) ?_
  refine kArr F (N := 16) (t0 := 0) (ty := .int) 7 inX4 tyX4_ok nmX4 hP hD hS rfl (by decide) tk_560 rfl rfl rfl (Nat.le_of_ble_eq_true rfl) tk_49 rfl rfl rfl (by decide) (by decide) (by decide) (Nat.le_of_ble_eq_true rfl) (Nat.le_of_ble_eq_true rfl) dX4_init_39 dX4_init_41 (fun a7 H locs hP hD hS => ?_)
  refine lv_aload_n hx hb dX4_init_44 rfl (lv_at hl 0 rfl) ?_
  refine lv_bipush (v := 16) hx hb dX4_init_45 (by decide) ?_
  refine kArr F (N := 16) (t0 := 0) (ty := .int) 8 inX4 tyX4_ok nmX4 hP hD hS rfl (by decide) tk_561 rfl rfl rfl (Nat.le_of_ble_eq_true rfl) tk_49 rfl rfl rfl (by decide) (by decide) (by decide) (Nat.le_of_ble_eq_true rfl) (Nat.le_of_ble_eq_true rfl) dX4_init_47 dX4_init_49 (fun a8 H locs hP hD hS => ?_)
  refine lv_aload_n hx hb dX4_init_52 rfl (lv_at hl 0 rfl) ?_
  refine lv_bipush (v := 16) hx hb dX4_init_53 (by decide) ?_
  refine kArr F (N := 16) (t0 := 1) (ty := .boolean) 9 inX4 tyX4_ok nmX4 hP hD hS rfl (by decide) tk_562 rfl rfl rfl (Nat.le_of_ble_eq_true rfl) tk_620 rfl rfl rfl (by decide) (by decide) (by decide) (Nat.le_of_ble_eq_true rfl) (Nat.le_of_ble_eq_true rfl) dX4_init_55 dX4_init_57 (fun a9 H locs hP hD hS => ?_)
  refine lv_aload_n hx hb dX4_init_60 rfl (lv_at hl 0 rfl) ?_
  refine lv_sipush (v := 160) hx hb dX4_init_61 (by decide) ?_
  refine kArr F (N := 160) (t0 := 0) (ty := .int) 10 inX4 tyX4_ok nmX4 hP hD hS rfl (by decide) tk_563 rfl rfl rfl (Nat.le_of_ble_eq_true rfl) tk_49 rfl rfl rfl (by decide) (by decide) (by decide) (Nat.le_of_ble_eq_true rfl) (Nat.le_of_ble_eq_true rfl) dX4_init_64 dX4_init_66 (fun a10 H locs hP hD hS => ?_)
  refine lv_aload_n hx hb dX4_init_69 rfl (lv_at hl 0 rfl) ?_
  refine lv_bipush (v := 10) hx hb dX4_init_70 (by decide) ?_
  refine kArr F (N := 10) (t0 := 0) (ty := .int) 13 inX4 tyX4_ok nmX4 hP hD hS rfl (by decide) tk_566 rfl rfl rfl (Nat.le_of_ble_eq_true rfl) tk_49 rfl rfl rfl (by decide) (by decide) (by decide) (Nat.le_of_ble_eq_true rfl) (Nat.le_of_ble_eq_true rfl) dX4_init_72 dX4_init_74 (fun a13 H locs hP hD hS => ?_)
  refine lv_aload_n hx hb dX4_init_77 rfl (lv_at hl 0 rfl) ?_
  refine lv_bipush (v := 10) hx hb dX4_init_78 (by decide) ?_
  refine kArr F (N := 10) (t0 := 0) (ty := .int) 14 inX4 tyX4_ok nmX4 hP hD hS rfl (by decide) tk_567 rfl rfl rfl (Nat.le_of_ble_eq_true rfl) tk_49 rfl rfl rfl (by decide) (by decide) (by decide) (Nat.le_of_ble_eq_true rfl) (Nat.le_of_ble_eq_true rfl) dX4_init_80 dX4_init_82 (fun a14 H locs hP hD hS => ?_)
  refine lv_aload_n hx hb dX4_init_85 rfl (lv_at hl 0 rfl) ?_
  refine lv_bipush (v := 10) hx hb dX4_init_86 (by decide) ?_
  refine kArr F (N := 10) (t0 := 0) (ty := .int) 15 inX4 tyX4_ok nmX4 hP hD hS rfl (by decide) tk_568 rfl rfl rfl (Nat.le_of_ble_eq_true rfl) tk_49 rfl rfl rfl (by decide) (by decide) (by decide) (Nat.le_of_ble_eq_true rfl) (Nat.le_of_ble_eq_true rfl) dX4_init_88 dX4_init_90 (fun a15 H locs hP hD hS => ?_)
  refine lv_aload_n hx hb dX4_init_93 rfl (lv_at hl 0 rfl) ?_
  refine lv_bipush (v := 17) hx hb dX4_init_94 (by decide) ?_
  refine kArr F (N := 17) (t0 := 1) (ty := .boolean) 17 inX4 tyX4_ok nmX4 hP hD hS rfl (by decide) tk_570 rfl rfl rfl (Nat.le_of_ble_eq_true rfl) tk_620 rfl rfl rfl (by decide) (by decide) (by decide) (Nat.le_of_ble_eq_true rfl) (Nat.le_of_ble_eq_true rfl) dX4_init_96 dX4_init_98 (fun a17 H locs hP hD hS => ?_)
  refine lv_aload_n hx hb dX4_init_101 rfl (lv_at hl 0 rfl) ?_
  refine lv_bipush (v := 10) hx hb dX4_init_102 (by decide) ?_
  refine kArr F (N := 10) (t0 := 0) (ty := .int) 18 inX4 tyX4_ok nmX4 hP hD hS rfl (by decide) tk_571 rfl rfl rfl (Nat.le_of_ble_eq_true rfl) tk_49 rfl rfl rfl (by decide) (by decide) (by decide) (Nat.le_of_ble_eq_true rfl) (Nat.le_of_ble_eq_true rfl) dX4_init_104 dX4_init_106 (fun a18 H locs hP hD hS => ?_)
  refine lv_aload_n hx hb dX4_init_109 rfl (lv_at hl 0 rfl) ?_
  refine lv_bipush (v := 16) hx hb dX4_init_110 (by decide) ?_
  refine kArr F (N := 16) (t0 := 0) (ty := .int) 19 inX4 tyX4_ok nmX4 hP hD hS rfl (by decide) tk_572 rfl rfl rfl (Nat.le_of_ble_eq_true rfl) tk_49 rfl rfl rfl (by decide) (by decide) (by decide) (Nat.le_of_ble_eq_true rfl) (Nat.le_of_ble_eq_true rfl) dX4_init_112 dX4_init_114 (fun a19 H locs hP hD hS => ?_)
  refine lv_aload_n hx hb dX4_init_117 rfl (lv_at hl 0 rfl) ?_
  refine lv_bipush (v := 16) hx hb dX4_init_118 (by decide) ?_
  refine kArr F (N := 16) (t0 := 0) (ty := .int) 20 inX4 tyX4_ok nmX4 hP hD hS rfl (by decide) tk_573 rfl rfl rfl (Nat.le_of_ble_eq_true rfl) tk_49 rfl rfl rfl (by decide) (by decide) (by decide) (Nat.le_of_ble_eq_true rfl) (Nat.le_of_ble_eq_true rfl) dX4_init_120 dX4_init_122 (fun a20 H locs hP hD hS => ?_)
  refine lv_aload_n hx hb dX4_init_125 rfl (lv_at hl 0 rfl) ?_
  refine lv_bipush (v := 16) hx hb dX4_init_126 (by decide) ?_
  refine kArr F (N := 16) (t0 := 1) (ty := .boolean) 21 inX4 tyX4_ok nmX4 hP hD hS rfl (by decide) tk_574 rfl rfl rfl (Nat.le_of_ble_eq_true rfl) tk_620 rfl rfl rfl (by decide) (by decide) (by decide) (Nat.le_of_ble_eq_true rfl) (Nat.le_of_ble_eq_true rfl) dX4_init_128 dX4_init_130 (fun a21 H locs hP hD hS => ?_)
  refine lv_aload_n hx hb dX4_init_133 rfl (lv_at hl 0 rfl) ?_
  refine lv_iload_n hx hb dX4_init_134 rfl (lv_at hl 1 rfl) ?_
  refine lv_if_ge (tgt := 142) hx hb dX4_init_135 (by decide) (fun b1 => ?_) (fun b1 => ?_)
  · refine lv_iload_n hx hb dX4_init_142 rfl (lv_at hl 1 rfl) ?_
    refine lv_ldc (v := 65536) hx hb hown (hts _ tk_552) dX4_init_143 ?_
    refine lv_icmp_le (tgt := 153) hx hb dX4_init_145 (by decide) (fun b2 => ?_) (fun b2 => ?_)
    · refine lv_iload_n hx hb dX4_init_153 rfl (lv_at hl 1 rfl) ?_
      refine va_putF (v := .int x1) (ty := .int) hx hb hts inX4 tyX4 tyX4_ok nmX4 hown hC.1 hP hD hS w0.length zl_at rfl 1 (by decide) (hts _ tk_554) (fun _ h => h) rfl hin2 rfl (tyX4_ok 1 (by decide)) rfl rfl (Nat.le_of_ble_eq_true rfl) dX4_init_154 (fun H locs hP hD hS => ?_)
      rw [zl_set] at hP hD
      exact kend F hP hD hS ⟨(fun i => match i with | 0 => a3 | 1 => a4 | 2 => a5 | 3 => a6 | 4 => a7 | 5 => a8 | 6 => a9 | 7 => a10 | 8 => a13 | 9 => a14 | 10 => a15 | 11 => a17 | 12 => a18 | 13 => a19 | 14 => a20 | _ => a21), by simp only [if_pos b1, if_pos b2]; rfl⟩ (by decide) (by decide) dX4_init_157
    · refine lv_ldc (v := 65536) hx hb hown (hts _ tk_552) dX4_init_148 ?_
      refine lv_goto (tgt := 154) hx hb dX4_init_150 (by decide) ?_
      refine va_putF (v := .int 65536) (ty := .int) hx hb hts inX4 tyX4 tyX4_ok nmX4 hown hC.1 hP hD hS w0.length zl_at rfl 1 (by decide) (hts _ tk_554) (fun _ h => h) rfl hin2 rfl (tyX4_ok 1 (by decide)) rfl rfl (Nat.le_of_ble_eq_true rfl) dX4_init_154 (fun H locs hP hD hS => ?_)
      rw [zl_set] at hP hD
      exact kend F hP hD hS ⟨(fun i => match i with | 0 => a3 | 1 => a4 | 2 => a5 | 3 => a6 | 4 => a7 | 5 => a8 | 6 => a9 | 7 => a10 | 8 => a13 | 9 => a14 | 10 => a15 | 11 => a17 | 12 => a18 | 13 => a19 | 14 => a20 | _ => a21), by simp only [if_pos b1, if_neg b2]; rfl⟩ (by decide) (by decide) dX4_init_157
  · refine lv_iconst (v := 0) hx hb dX4_init_138 (by decide) ?_
    refine lv_goto (tgt := 154) hx hb dX4_init_139 (by decide) ?_
    refine va_putF (v := .int 0) (ty := .int) hx hb hts inX4 tyX4 tyX4_ok nmX4 hown hC.1 hP hD hS w0.length zl_at rfl 1 (by decide) (hts _ tk_554) (fun _ h => h) rfl hin2 rfl (tyX4_ok 1 (by decide)) rfl rfl (Nat.le_of_ble_eq_true rfl) dX4_init_154 (fun H locs hP hD hS => ?_)
    rw [zl_set] at hP hD
    exact kend F hP hD hS ⟨(fun i => match i with | 0 => a3 | 1 => a4 | 2 => a5 | 3 => a6 | 4 => a7 | 5 => a8 | 6 => a9 | 7 => a10 | 8 => a13 | 9 => a14 | 10 => a15 | 11 => a17 | 12 => a18 | 13 => a19 | 14 => a20 | _ => a21), by simp only [if_neg b1]; rfl⟩ (by decide) (by decide) dX4_init_157
