/-! ===== X3_makeWave ===== -/
def f_X3_makeWave_44 (q2 : Nat) : Nat → St → Int32 → Int32 → Int32 → Option (RV × St)
  | 0, _, _, _, _ => none
  | n + 1, σ, x3, x4, x5 =>
    if 16 ≤ x5 then
      some (.inl none, σ)
    else
      if x4 = (-1) then
        some (.inl none, σ)
      else
        if x4 < 0 ∨ 16 ≤ x4.toNatClampNeg then none
        else
          ri (f_X3_greatestSaving σ (26 + 2 * x4.toNatClampNeg) q2 (σ q2 1)) (fun x4_ =>
            nv (f_X2_add σ q2 x4) (fun σ5 =>
              ri (f_X3_bestAddition (up2 σ5 (26 + 2 * x4.toNatClampNeg) 6 (σ5 0 6)) q2 (x3 - ((σ (26 + 2 * x4.toNatClampNeg) 2) - x4_))) (fun x6_ =>
                f_X3_makeWave_44 q2 n (up2 σ5 (26 + 2 * x4.toNatClampNeg) 6 (σ5 0 6)) (x3 - ((σ (26 + 2 * x4.toNatClampNeg) 2) - x4_)) x6_ (x5 + 1))))
set_option maxHeartbeats 4000000 in
set_option maxRecDepth 100000 in
theorem w_X3_makeWave_44 {p : Program} {l : Launch} {e : Env} {s : State} {m : MethodId} {args : Array Value} {below : List Frame} {meth : Method} {c : Code} {G : GT} {lo : Nat → Int64} (F : Fx p l s args m meth c G cX3_makeWave 7 none RX3) {q2 : Nat} (k2 : kd q2 = 2) : ∀ (n : Nat) {σ : St} {x3 : Int32} {x4 : Int32} {x5 : Int32} {r : RV × St}, f_X3_makeWave_44 q2 n σ x3 x4 x5 = some r → ∀ {H : Heap} {locs : List Loc}, va_P (gD G) vwCl (wld G lo σ) H → va_S (gF G) s.heap H locs → ∀ {ls : Array Slot}, lv_has ls 7 [(0, .ref (gA G 0)), (2, .ref (gA G q2)), (3, .int x3), (4, .int x4), (5, .int x5)] → W p l e (RM 4 97 0 0) s m args below meth c H locs 0 0 (vx_MQ below (QCr G lo r) (XCr G lo r) args s 0 0 (gF G)) (F0 m 44 ls []) := by
  obtain ⟨hx, hb, hrt, hml, hown, hts, hlocks, hC, htab, hst⟩ := id F
  intro n
  induction n with
  | zero =>
    intro σ x3 x4 x5 r hm
    simp only [f_X3_makeWave_44] at hm
    cases hm
  | succ n ih =>
    intro σ x3 x4 x5 r hm H locs hP hS ls hl
    rw [f_X3_makeWave_44] at hm
    refine lv_iload hx hb dX3_makeWave_44 (lv_at hl 4 rfl) ?_
    refine lv_bipush (v := 16) hx hb dX3_makeWave_46 (by decide) ?_
    refine lv_icmp_ge (tgt := 115) hx hb dX3_makeWave_48 (by decide) (fun b1 => ?_) (fun b1 => ?_)
    · rw [if_pos b1] at hm
      exact xvr F hP hS (Option.some.inj hm).symm (by decide) (by decide) dX3_makeWave_115
    · rw [if_neg b1] at hm
      refine lv_iload hx hb dX3_makeWave_51 (lv_at hl 3 rfl) ?_
      refine lv_iconst (v := (-1)) hx hb dX3_makeWave_53 (by decide) ?_
      refine lv_icmp_eq (tgt := 115) hx hb dX3_makeWave_54 (by decide) (fun b2 => ?_) (fun b2 => ?_)
      · rw [if_pos b2] at hm
        exact xvr F hP hS (Option.some.inj hm).symm (by decide) (by decide) dX3_makeWave_115
      · rw [if_neg b2] at hm
        refine lv_aload_n hx hb dX3_makeWave_57 rfl (lv_at hl 0 rfl) ?_
        refine xg F 3 inX3 hP (kd_k kdc_0 (by decide)) (wc3 kdc_0) rfl (by decide) tk_114 rfl rfl dX3_makeWave_58 ?_
        refine lv_iload hx hb dX3_makeWave_61 (lv_at hl 3 rfl) ?_
        by_cases b3 : (x4 < 0 ∨ 16 ≤ x4.toNatClampNeg)
        · rw [if_pos b3] at hm
          cases hm
        · rw [if_neg b3] at hm
          refine xol F hP kdc_6 b3 dX3_makeWave_63 ?_
          refine lv_astore (lv' := [(6, .ref (gA G (26 + 2 * x4.toNatClampNeg))), (0, .ref (gA G 0)), (2, .ref (gA G q2)), (3, .int x3), (4, .int x4), (5, .int x5)]) hx hb dX3_makeWave_64 hl (by decide) rfl (fun ls hl => ?_)
          refine lv_iload_n hx hb dX3_makeWave_66 rfl (lv_at hl 3 rfl) ?_
          refine lv_aload hx hb dX3_makeWave_67 (lv_at hl 0 rfl) ?_
          refine xgN F 2 inX1 hP (kd_k (kd_ord b3) (by decide)) (wc1 (kd_ord b3)) rfl (by decide) tn_5 rfl rfl dX3_makeWave_69 ?_
          refine lv_aload_n hx hb dX3_makeWave_72 rfl (lv_at hl 1 rfl) ?_
          refine lv_aload hx hb dX3_makeWave_73 (lv_at hl 0 rfl) ?_
          refine lv_aload_n hx hb dX3_makeWave_75 rfl (lv_at hl 2 rfl) ?_
          refine lv_aload_n hx hb dX3_makeWave_76 rfl (lv_at hl 2 rfl) ?_
          refine xgN F 1 inX2 hP (kd_k k2 (by decide)) (wc2 k2) rfl (by decide) tn_14 rfl rfl dX3_makeWave_77 ?_
          obtain ⟨x4_, h4, hm⟩ := ri_inv hm
          refine xV F (c_X3_greatestSaving (kd_ord b3) k2 h4) tk_163 tk_160 tk_162 tu_5 tk_1 rfl 3 (by decide +kernel) rfl ⟨Nat.le_of_ble_eq_true rfl, Nat.le_of_ble_eq_true rfl⟩ hP hS (kd_k kdc_0 (by decide)) (wc3 kdc_0) rfl hl.1 rfl (Nat.le_of_ble_eq_true rfl) dX3_makeWave_80 ⟨Nat.le_of_ble_eq_true rfl, Nat.le_of_ble_eq_true rfl⟩ (fun v hv H locs hP hS => ?_) (fun E hE => by cases hE)
          cases hv
          replace hP : va_P (gD G) vwCl (wld G lo σ) H := hP
          refine W.eq (g2 := F0 m 83 ls [.int x4_, .int (σ (26 + 2 * x4.toNatClampNeg) 2), .int x3]) rfl ?_
          refine lv_isub hx hb dX3_makeWave_83 ?_
          refine lv_isub hx hb dX3_makeWave_84 ?_
          refine lv_istore_n (lv' := [(3, .int (x3 - ((σ (26 + 2 * x4.toNatClampNeg) 2) - x4_))), (6, .ref (gA G (26 + 2 * x4.toNatClampNeg))), (0, .ref (gA G 0)), (2, .ref (gA G q2)), (4, .int x4), (5, .int x5)]) hx hb dX3_makeWave_85 rfl hl (by decide) rfl (fun ls hl => ?_)
          refine lv_aload_n hx hb dX3_makeWave_86 rfl (lv_at hl 3 rfl) ?_
          refine lv_iload hx hb dX3_makeWave_87 (lv_at hl 4 rfl) ?_
          obtain ⟨σ5, h5, hm⟩ := nv_inv hm
          refine xVN F (c_X2_add k2 h5) rfl tk_387 tn_31 tk_386 tu_17 tk_5 rfl 1 (by decide +kernel) rfl ⟨Nat.le_of_ble_eq_true rfl, Nat.le_of_ble_eq_true rfl⟩ hP hS (kd_k k2 (by decide)) (wc2 k2) rfl hl.1 rfl (Nat.le_of_ble_eq_true rfl) dX3_makeWave_89 ⟨Nat.le_of_ble_eq_true rfl, Nat.le_of_ble_eq_true rfl⟩ (fun H locs hP hS => ?_)
          replace hP : va_P (gD G) vwCl (wld G lo σ5) H := hP
          refine W.eq (g2 := F0 m 92 ls []) rfl ?_
          refine lv_aload hx hb dX3_makeWave_92 (lv_at hl 1 rfl) ?_
          refine lv_aload_n hx hb dX3_makeWave_94 rfl (lv_at hl 2 rfl) ?_
          refine xg F 6 inX3 hP (kd_k kdc_0 (by decide)) (wc3 kdc_0) rfl (by decide) tk_117 rfl rfl dX3_makeWave_95 ?_
          refine xpN F (v := (σ5 0 6)) (ty := .int) 6 inX1 tyX1_ok nmX1 hP hS (kd_k (kd_ord b3) (by decide)) (wc1 (kd_ord b3)) (wu1_6 (kd_ord b3)) rfl (by decide) tn_9 rfl rfl rfl rfl rfl (Nat.le_of_ble_eq_true rfl) dX3_makeWave_98 (fun H locs hP hS => ?_)
          refine lv_aload_n hx hb dX3_makeWave_101 rfl (lv_at hl 2 rfl) ?_
          refine lv_aload_n hx hb dX3_makeWave_102 rfl (lv_at hl 3 rfl) ?_
          refine lv_iload_n hx hb dX3_makeWave_103 rfl (lv_at hl 0 rfl) ?_
          obtain ⟨x6_, h6, hm⟩ := ri_inv hm
          refine xV F (c_X3_bestAddition k2 h6) tk_391 tk_388 tk_390 tu_18 tk_1 rfl 2 (by decide +kernel) rfl ⟨Nat.le_of_ble_eq_true rfl, Nat.le_of_ble_eq_true rfl⟩ hP hS (kd_k kdc_0 (by decide)) (wc3 kdc_0) rfl hl.1 rfl (Nat.le_of_ble_eq_true rfl) dX3_makeWave_104 ⟨Nat.le_of_ble_eq_true rfl, Nat.le_of_ble_eq_true rfl⟩ (fun v hv H locs hP hS => ?_) (fun E hE => by cases hE)
          cases hv
          replace hP : va_P (gD G) vwCl (wld G lo (up2 σ5 (26 + 2 * x4.toNatClampNeg) 6 (σ5 0 6))) H := hP
          refine W.eq (g2 := F0 m 107 ls [.int x6_]) rfl ?_
          refine lv_istore (lv' := [(4, .int x6_), (3, .int (x3 - ((σ (26 + 2 * x4.toNatClampNeg) 2) - x4_))), (6, .ref (gA G (26 + 2 * x4.toNatClampNeg))), (0, .ref (gA G 0)), (2, .ref (gA G q2)), (5, .int x5)]) hx hb dX3_makeWave_107 hl (by decide) rfl (fun ls hl => ?_)
          refine lv_iinc (v := (x5 + 1)) (lv' := [(5, .int (x5 + 1)), (4, .int x6_), (3, .int (x3 - ((σ (26 + 2 * x4.toNatClampNeg) 2) - x4_))), (6, .ref (gA G (26 + 2 * x4.toNatClampNeg))), (0, .ref (gA G 0)), (2, .ref (gA G q2))]) hx hb dX3_makeWave_109 hl (k := 5) rfl rfl (by decide) rfl (fun ls hl => ?_)
          refine lv_goto (tgt := 44) hx hb dX3_makeWave_112 (by decide) ?_
          exact ih hm hP hS (lv_sub hl [4, 5, 2, 1, 0] rfl)
def f_X3_makeWave (σ : St) (x1 : Int32) : Option (RV × St) :=
  if (σ 0 6) < 0 ∨ 16 ≤ (σ 0 6).toNatClampNeg then none
  else
    if x1 < 0 ∨ 16 ≤ x1.toNatClampNeg then none
    else
      f_X3_makeWave_44 (58 + 2 * (σ 0 6).toNatClampNeg) 40 (up2 (up2 σ 0 6 ((σ 0 6) + 1)) (58 + 2 * (σ 0 6).toNatClampNeg) 2 ((up2 σ 0 6 ((σ 0 6) + 1)) (26 + 2 * x1.toNatClampNeg) 3)) ((up2 (up2 σ 0 6 ((σ 0 6) + 1)) (58 + 2 * (σ 0 6).toNatClampNeg) 2 ((up2 σ 0 6 ((σ 0 6) + 1)) (26 + 2 * x1.toNatClampNeg) 3)) 0 0) x1 0
set_option maxHeartbeats 4000000 in
set_option maxRecDepth 100000 in
theorem c_X3_makeWave {l : Launch} {G : GT} {σ : St} {x1 : Int32} {r : RV × St} (hm : f_X3_makeWave σ x1 = some r) : MC l G yX3_makeWave cX3_makeWave 7 none 4 97 0 0 [.inr 0, .inl x1] σ r := by
  refine xbody (by decide) (Nat.le_of_ble_eq_true rfl) ?_
  intro lo p e s m args below meth c F hP ls hl
  have F : Fx p l s args m meth c G cX3_makeWave 7 none RX3 := F
  obtain ⟨hx, hb, hrt, hml, hown, hts, hlocks, hC, htab, hst⟩ := id F
  have hS : va_S (gF G) s.heap s.heap [] := va_S.rf
  have hl : lv_has ls 7 [(0, .ref (gA G 0)), (1, .int x1)] := hl
  unfold f_X3_makeWave at hm
  refine lv_aload_n hx hb dX3_makeWave_0 rfl (lv_at hl 0 rfl) ?_
  refine xg F 5 inX3 hP (kd_k kdc_0 (by decide)) (wc3 kdc_0) rfl (by decide) tk_116 rfl rfl dX3_makeWave_1 ?_
  refine lv_aload_n hx hb dX3_makeWave_4 rfl (lv_at hl 0 rfl) ?_
  refine xg F 6 inX3 hP (kd_k kdc_0 (by decide)) (wc3 kdc_0) rfl (by decide) tk_117 rfl rfl dX3_makeWave_5 ?_
  by_cases b1 : ((σ 0 6) < 0 ∨ 16 ≤ (σ 0 6).toNatClampNeg)
  · rw [if_pos b1] at hm
    cases hm
  · rw [if_neg b1] at hm
    refine xwl F hP kdc_7 b1 dX3_makeWave_8 ?_
    refine lv_astore_n (lv' := [(2, .ref (gA G (58 + 2 * (σ 0 6).toNatClampNeg))), (0, .ref (gA G 0)), (1, .int x1)]) hx hb dX3_makeWave_9 rfl hl (by decide) rfl (fun ls hl => ?_)
    refine lv_aload_n hx hb dX3_makeWave_10 rfl (lv_at hl 1 rfl) ?_
    refine lv_dup hx hb dX3_makeWave_11 rfl ?_
    refine xg F 6 inX3 hP (kd_k kdc_0 (by decide)) (wc3 kdc_0) rfl (by decide) tk_117 rfl rfl dX3_makeWave_12 ?_
    refine lv_iconst (v := 1) hx hb dX3_makeWave_15 (by decide) ?_
    refine lv_iadd hx hb dX3_makeWave_16 ?_
    refine xp F (v := ((σ 0 6) + 1)) (ty := .int) 6 inX3 tyX3_ok nmX3 hP hS (kd_k kdc_0 (by decide)) (wc3 kdc_0) (wu3_6 kdc_0) rfl (by decide) tk_117 rfl rfl rfl rfl rfl (Nat.le_of_ble_eq_true rfl) dX3_makeWave_17 (fun H locs hP hS => ?_)
    refine lv_aload_n hx hb dX3_makeWave_20 rfl (lv_at hl 0 rfl) ?_
    refine lv_aload_n hx hb dX3_makeWave_21 rfl (lv_at hl 1 rfl) ?_
    refine xg F 3 inX3 hP (kd_k kdc_0 (by decide)) (wc3 kdc_0) rfl (by decide) tk_114 rfl rfl dX3_makeWave_22 ?_
    refine lv_iload_n hx hb dX3_makeWave_25 rfl (lv_at hl 2 rfl) ?_
    by_cases b2 : (x1 < 0 ∨ 16 ≤ x1.toNatClampNeg)
    · rw [if_pos b2] at hm
      cases hm
    · rw [if_neg b2] at hm
      refine xol F hP kdc_6 b2 dX3_makeWave_26 ?_
      refine xgN F 3 inX1 hP (kd_k (kd_ord b2) (by decide)) (wc1 (kd_ord b2)) rfl (by decide) tn_6 rfl rfl dX3_makeWave_27 ?_
      refine xpN F (v := ((up2 σ 0 6 ((σ 0 6) + 1)) (26 + 2 * x1.toNatClampNeg) 3)) (ty := .int) 2 inX2 tyX2_ok nmX2 hP hS (kd_k (kd_wav b1) (by decide)) (wc2 (kd_wav b1)) (wu2_2 (kd_wav b1)) rfl (by decide) tn_15 rfl rfl rfl rfl rfl (Nat.le_of_ble_eq_true rfl) dX3_makeWave_30 (fun H locs hP hS => ?_)
      refine lv_aload_n hx hb dX3_makeWave_33 rfl (lv_at hl 1 rfl) ?_
      refine xg F 0 inX3 hP (kd_k kdc_0 (by decide)) (wc3 kdc_0) rfl (by decide) tk_111 rfl rfl dX3_makeWave_34 ?_
      refine lv_istore_n (lv' := [(3, .int ((up2 (up2 σ 0 6 ((σ 0 6) + 1)) (58 + 2 * (σ 0 6).toNatClampNeg) 2 ((up2 σ 0 6 ((σ 0 6) + 1)) (26 + 2 * x1.toNatClampNeg) 3)) 0 0)), (2, .ref (gA G (58 + 2 * (σ 0 6).toNatClampNeg))), (0, .ref (gA G 0)), (1, .int x1)]) hx hb dX3_makeWave_37 rfl hl (by decide) rfl (fun ls hl => ?_)
      refine lv_iload_n hx hb dX3_makeWave_38 rfl (lv_at hl 3 rfl) ?_
      refine lv_istore (lv' := [(4, .int x1), (3, .int ((up2 (up2 σ 0 6 ((σ 0 6) + 1)) (58 + 2 * (σ 0 6).toNatClampNeg) 2 ((up2 σ 0 6 ((σ 0 6) + 1)) (26 + 2 * x1.toNatClampNeg) 3)) 0 0)), (2, .ref (gA G (58 + 2 * (σ 0 6).toNatClampNeg))), (0, .ref (gA G 0)), (1, .int x1)]) hx hb dX3_makeWave_39 hl (by decide) rfl (fun ls hl => ?_)
      refine lv_iconst (v := 0) hx hb dX3_makeWave_41 (by decide) ?_
      refine lv_istore (lv' := [(5, .int 0), (4, .int x1), (3, .int ((up2 (up2 σ 0 6 ((σ 0 6) + 1)) (58 + 2 * (σ 0 6).toNatClampNeg) 2 ((up2 σ 0 6 ((σ 0 6) + 1)) (26 + 2 * x1.toNatClampNeg) 3)) 0 0)), (2, .ref (gA G (58 + 2 * (σ 0 6).toNatClampNeg))), (0, .ref (gA G 0)), (1, .int x1)]) hx hb dX3_makeWave_42 hl (by decide) rfl (fun ls hl => ?_)
      exact w_X3_makeWave_44 F (kd_wav b1) 40 hm hP hS (lv_sub hl [4, 3, 2, 1, 0] rfl)
/-! ===== X3_makeWaves ===== -/
def f_X3_makeWaves_28 : Nat → St → Int32 → Option (RV × St)
  | 0, _, _ => none
  | n + 1, σ, x1 =>
    if (σ 0 4) ≤ x1 then
      some (.inl (some (.inl 1)), σ)
    else
      ri (f_X3_nextBeginning σ) (fun x2_ =>
        if x2_ = (-1) then
          some (.inl (some (.inl 1)), σ)
        else
          if x2_ < 0 ∨ 16 ≤ x2_.toNatClampNeg then none
          else
            if ((up2 σ (26 + 2 * x2_.toNatClampNeg) 8 1) (26 + 2 * x2_.toNatClampNeg) 2) ≤ ((up2 σ (26 + 2 * x2_.toNatClampNeg) 8 1) 0 0) then
              if ((up2 σ (26 + 2 * x2_.toNatClampNeg) 8 1) 0 6) < 16 then
                nv (f_X3_makeWave (up2 σ (26 + 2 * x2_.toNatClampNeg) 8 1) x2_) (fun σ7 =>
                  f_X3_makeWaves_28 n σ7 (x1 + 1))
              else
                some (.inl (some (.inl 0)), (up2 σ (26 + 2 * x2_.toNatClampNeg) 8 1))
            else
              f_X3_makeWaves_28 n (up2 σ (26 + 2 * x2_.toNatClampNeg) 8 1) (x1 + 1))
set_option maxHeartbeats 4000000 in
set_option maxRecDepth 100000 in
theorem w_X3_makeWaves_28 {p : Program} {l : Launch} {e : Env} {s : State} {m : MethodId} {args : Array Value} {below : List Frame} {meth : Method} {c : Code} {G : GT} {lo : Nat → Int64} (F : Fx p l s args m meth c G cX3_makeWaves 3 (some .boolean) RX3) : ∀ (n : Nat) {σ : St} {x1 : Int32} {r : RV × St}, f_X3_makeWaves_28 n σ x1 = some r → ∀ {H : Heap} {locs : List Loc}, va_P (gD G) vwCl (wld G lo σ) H → va_S (gF G) s.heap H locs → ∀ {ls : Array Slot}, lv_has ls 3 [(0, .ref (gA G 0)), (1, .int x1)] → W p l e (RM 5 123 0 0) s m args below meth c H locs 0 0 (vx_MQ below (QCr G lo r) (XCr G lo r) args s 0 0 (gF G)) (F0 m 28 ls []) := by
  obtain ⟨hx, hb, hrt, hml, hown, hts, hlocks, hC, htab, hst⟩ := id F
  intro n
  induction n with
  | zero =>
    intro σ x1 r hm
    simp only [f_X3_makeWaves_28] at hm
    cases hm
  | succ n ih =>
    intro σ x1 r hm H locs hP hS ls hl
    rw [f_X3_makeWaves_28] at hm
    refine lv_iload_n hx hb dX3_makeWaves_28 rfl (lv_at hl 1 rfl) ?_
    refine lv_aload_n hx hb dX3_makeWaves_29 rfl (lv_at hl 0 rfl) ?_
    refine xg F 4 inX3 hP (kd_k kdc_0 (by decide)) (wc3 kdc_0) rfl (by decide) tk_115 rfl rfl dX3_makeWaves_30 ?_
    refine lv_icmp_ge (tgt := 99) hx hb dX3_makeWaves_33 (by decide) (fun b1 => ?_) (fun b1 => ?_)
    · rw [if_pos b1] at hm
      refine lv_iconst (v := 1) hx hb dX3_makeWaves_99 (by decide) ?_
      exact xzr F hP hS rfl (Option.some.inj hm).symm (by decide) (by decide) dX3_makeWaves_100
    · rw [if_neg b1] at hm
      refine lv_aload_n hx hb dX3_makeWaves_36 rfl (lv_at hl 0 rfl) ?_
      obtain ⟨x2_, h2, hm⟩ := ri_inv hm
      refine xV F (c_X3_nextBeginning h2) tk_367 tk_364 tk_366 tu_12 tk_1 rfl 0 (by decide +kernel) rfl ⟨Nat.le_of_ble_eq_true rfl, Nat.le_of_ble_eq_true rfl⟩ hP hS (kd_k kdc_0 (by decide)) (wc3 kdc_0) rfl hl.1 rfl (Nat.le_of_ble_eq_true rfl) dX3_makeWaves_37 ⟨Nat.le_of_ble_eq_true rfl, Nat.le_of_ble_eq_true rfl⟩ (fun v hv H locs hP hS => ?_) (fun E hE => by cases hE)
      cases hv
      replace hP : va_P (gD G) vwCl (wld G lo σ) H := hP
      refine W.eq (g2 := F0 m 40 ls [.int x2_]) rfl ?_
      refine lv_istore_n (lv' := [(2, .int x2_), (0, .ref (gA G 0)), (1, .int x1)]) hx hb dX3_makeWaves_40 rfl hl (by decide) rfl (fun ls hl => ?_)
      refine lv_iload_n hx hb dX3_makeWaves_41 rfl (lv_at hl 0 rfl) ?_
      refine lv_iconst (v := (-1)) hx hb dX3_makeWaves_42 (by decide) ?_
      refine lv_icmp_ne (tgt := 48) hx hb dX3_makeWaves_43 (by decide) (fun b3 => ?_) (fun b3 => ?_)
      · rw [if_neg b3] at hm
        refine lv_aload_n hx hb dX3_makeWaves_48 rfl (lv_at hl 1 rfl) ?_
        refine xg F 3 inX3 hP (kd_k kdc_0 (by decide)) (wc3 kdc_0) rfl (by decide) tk_114 rfl rfl dX3_makeWaves_49 ?_
        refine lv_iload_n hx hb dX3_makeWaves_52 rfl (lv_at hl 0 rfl) ?_
        by_cases b4 : (x2_ < 0 ∨ 16 ≤ x2_.toNatClampNeg)
        · rw [if_pos b4] at hm
          cases hm
        · rw [if_neg b4] at hm
          refine xol F hP kdc_6 b4 dX3_makeWaves_53 ?_
          refine lv_iconst (v := 1) hx hb dX3_makeWaves_54 (by decide) ?_
          refine xpN F (v := 1) (ty := .boolean) 8 inX1 tyX1_ok nmX1 hP hS (kd_k (kd_ord b4) (by decide)) (wc1 (kd_ord b4)) (wu1_8 (kd_ord b4)) rfl (by decide) tn_11 rfl rfl rfl rfl rfl (Nat.le_of_ble_eq_true rfl) dX3_makeWaves_55 (fun H locs hP hS => ?_)
          refine lv_aload_n hx hb dX3_makeWaves_58 rfl (lv_at hl 1 rfl) ?_
          refine xg F 3 inX3 hP (kd_k kdc_0 (by decide)) (wc3 kdc_0) rfl (by decide) tk_114 rfl rfl dX3_makeWaves_59 ?_
          refine lv_iload_n hx hb dX3_makeWaves_62 rfl (lv_at hl 0 rfl) ?_
          refine xol F hP kdc_6 b4 dX3_makeWaves_63 ?_
          refine xgN F 2 inX1 hP (kd_k (kd_ord b4) (by decide)) (wc1 (kd_ord b4)) rfl (by decide) tn_5 rfl rfl dX3_makeWaves_64 ?_
          refine lv_aload_n hx hb dX3_makeWaves_67 rfl (lv_at hl 1 rfl) ?_
          refine xg F 0 inX3 hP (kd_k kdc_0 (by decide)) (wc3 kdc_0) rfl (by decide) tk_111 rfl rfl dX3_makeWaves_68 ?_
          refine lv_icmp_le (tgt := 77) hx hb dX3_makeWaves_71 (by decide) (fun b5 => ?_) (fun b5 => ?_)
          · rw [if_pos b5] at hm
            refine lv_aload_n hx hb dX3_makeWaves_77 rfl (lv_at hl 1 rfl) ?_
            refine xg F 6 inX3 hP (kd_k kdc_0 (by decide)) (wc3 kdc_0) rfl (by decide) tk_117 rfl rfl dX3_makeWaves_78 ?_
            refine lv_bipush (v := 16) hx hb dX3_makeWaves_81 (by decide) ?_
            refine lv_icmp_lt (tgt := 88) hx hb dX3_makeWaves_83 (by decide) (fun b6 => ?_) (fun b6 => ?_)
            · rw [if_pos b6] at hm
              refine lv_aload_n hx hb dX3_makeWaves_88 rfl (lv_at hl 1 rfl) ?_
              refine lv_iload_n hx hb dX3_makeWaves_89 rfl (lv_at hl 0 rfl) ?_
              obtain ⟨σ7, h7, hm⟩ := nv_inv hm
              refine xV F (c_X3_makeWave h7) tk_383 tk_380 tk_382 tu_16 tk_1 rfl 1 (by decide +kernel) rfl ⟨Nat.le_of_ble_eq_true rfl, Nat.le_of_ble_eq_true rfl⟩ hP hS (kd_k kdc_0 (by decide)) (wc3 kdc_0) rfl hl.1 rfl (Nat.le_of_ble_eq_true rfl) dX3_makeWaves_90 ⟨Nat.le_of_ble_eq_true rfl, Nat.le_of_ble_eq_true rfl⟩ (fun v hv H locs hP hS => ?_) (fun E hE => by cases hE)
              cases hv
              replace hP : va_P (gD G) vwCl (wld G lo σ7) H := hP
              refine W.eq (g2 := F0 m 93 ls []) rfl ?_
              refine lv_iinc (v := (x1 + 1)) (lv' := [(1, .int (x1 + 1)), (2, .int x2_), (0, .ref (gA G 0))]) hx hb dX3_makeWaves_93 hl (k := 2) rfl rfl (by decide) rfl (fun ls hl => ?_)
              refine lv_goto (tgt := 28) hx hb dX3_makeWaves_96 (by decide) ?_
              exact ih hm hP hS (lv_sub hl [2, 0] rfl)
            · rw [if_neg b6] at hm
              refine lv_iconst (v := 0) hx hb dX3_makeWaves_86 (by decide) ?_
              exact xzr F hP hS rfl (Option.some.inj hm).symm (by decide) (by decide) dX3_makeWaves_87
          · rw [if_neg b5] at hm
            refine lv_goto (tgt := 93) hx hb dX3_makeWaves_74 (by decide) ?_
            refine lv_iinc (v := (x1 + 1)) (lv' := [(1, .int (x1 + 1)), (2, .int x2_), (0, .ref (gA G 0))]) hx hb dX3_makeWaves_93 hl (k := 2) rfl rfl (by decide) rfl (fun ls hl => ?_)
            refine lv_goto (tgt := 28) hx hb dX3_makeWaves_96 (by decide) ?_
            exact ih hm hP hS (lv_sub hl [2, 0] rfl)
      · rw [if_pos b3] at hm
        refine lv_iconst (v := 1) hx hb dX3_makeWaves_46 (by decide) ?_
        exact xzr F hP hS rfl (Option.some.inj hm).symm (by decide) (by decide) dX3_makeWaves_47
def f_X3_makeWaves_2 : Nat → St → Int32 → Option (RV × St)
  | 0, _, _ => none
  | n + 1, σ, x1 =>
    if (σ 0 4) ≤ x1 then
      f_X3_makeWaves_28 40 σ 0
    else
      if x1 < 0 ∨ 16 ≤ x1.toNatClampNeg then none
      else
        f_X3_makeWaves_2 n (up2 σ (26 + 2 * x1.toNatClampNeg) 8 0) (x1 + 1)
set_option maxHeartbeats 4000000 in
set_option maxRecDepth 100000 in
theorem w_X3_makeWaves_2 {p : Program} {l : Launch} {e : Env} {s : State} {m : MethodId} {args : Array Value} {below : List Frame} {meth : Method} {c : Code} {G : GT} {lo : Nat → Int64} (F : Fx p l s args m meth c G cX3_makeWaves 3 (some .boolean) RX3) : ∀ (n : Nat) {σ : St} {x1 : Int32} {r : RV × St}, f_X3_makeWaves_2 n σ x1 = some r → ∀ {H : Heap} {locs : List Loc}, va_P (gD G) vwCl (wld G lo σ) H → va_S (gF G) s.heap H locs → ∀ {ls : Array Slot}, lv_has ls 3 [(0, .ref (gA G 0)), (1, .int x1)] → W p l e (RM 5 123 0 0) s m args below meth c H locs 0 0 (vx_MQ below (QCr G lo r) (XCr G lo r) args s 0 0 (gF G)) (F0 m 2 ls []) := by
  obtain ⟨hx, hb, hrt, hml, hown, hts, hlocks, hC, htab, hst⟩ := id F
  intro n
  induction n with
  | zero =>
    intro σ x1 r hm
    simp only [f_X3_makeWaves_2] at hm
    cases hm
  | succ n ih =>
    intro σ x1 r hm H locs hP hS ls hl
    rw [f_X3_makeWaves_2] at hm
    refine lv_iload_n hx hb dX3_makeWaves_2 rfl (lv_at hl 1 rfl) ?_
    refine lv_aload_n hx hb dX3_makeWaves_3 rfl (lv_at hl 0 rfl) ?_
    refine xg F 4 inX3 hP (kd_k kdc_0 (by decide)) (wc3 kdc_0) rfl (by decide) tk_115 rfl rfl dX3_makeWaves_4 ?_
    refine lv_icmp_ge (tgt := 26) hx hb dX3_makeWaves_7 (by decide) (fun b1 => ?_) (fun b1 => ?_)
    · rw [if_pos b1] at hm
      refine lv_iconst (v := 0) hx hb dX3_makeWaves_26 (by decide) ?_
      refine lv_istore_n (lv' := [(1, .int 0), (0, .ref (gA G 0))]) hx hb dX3_makeWaves_27 rfl hl (by decide) rfl (fun ls hl => ?_)
      exact w_X3_makeWaves_28 F 40 hm hP hS (lv_sub hl [1, 0] rfl)
    · rw [if_neg b1] at hm
      refine lv_aload_n hx hb dX3_makeWaves_10 rfl (lv_at hl 0 rfl) ?_
      refine xg F 3 inX3 hP (kd_k kdc_0 (by decide)) (wc3 kdc_0) rfl (by decide) tk_114 rfl rfl dX3_makeWaves_11 ?_
      refine lv_iload_n hx hb dX3_makeWaves_14 rfl (lv_at hl 1 rfl) ?_
      by_cases b2 : (x1 < 0 ∨ 16 ≤ x1.toNatClampNeg)
      · rw [if_pos b2] at hm
        cases hm
      · rw [if_neg b2] at hm
        refine xol F hP kdc_6 b2 dX3_makeWaves_15 ?_
        refine lv_iconst (v := 0) hx hb dX3_makeWaves_16 (by decide) ?_
        refine xpN F (v := 0) (ty := .boolean) 8 inX1 tyX1_ok nmX1 hP hS (kd_k (kd_ord b2) (by decide)) (wc1 (kd_ord b2)) (wu1_8 (kd_ord b2)) rfl (by decide) tn_11 rfl rfl rfl rfl rfl (Nat.le_of_ble_eq_true rfl) dX3_makeWaves_17 (fun H locs hP hS => ?_)
        refine lv_iinc (v := (x1 + 1)) (lv' := [(1, .int (x1 + 1)), (0, .ref (gA G 0))]) hx hb dX3_makeWaves_20 hl (k := 1) rfl rfl (by decide) rfl (fun ls hl => ?_)
        refine lv_goto (tgt := 2) hx hb dX3_makeWaves_23 (by decide) ?_
        exact ih hm hP hS (lv_sub hl [1, 0] rfl)
def f_X3_makeWaves (σ : St) : Option (RV × St) :=
  f_X3_makeWaves_2 40 σ 0
set_option maxHeartbeats 4000000 in
set_option maxRecDepth 100000 in
theorem c_X3_makeWaves {l : Launch} {G : GT} {σ : St} {r : RV × St} (hm : f_X3_makeWaves σ = some r) : MC l G yX3_makeWaves cX3_makeWaves 3 (some .boolean) 5 123 0 0 [.inr 0] σ r := by
  refine xbody (by decide) (Nat.le_of_ble_eq_true rfl) ?_
  intro lo p e s m args below meth c F hP ls hl
  have F : Fx p l s args m meth c G cX3_makeWaves 3 (some .boolean) RX3 := F
  obtain ⟨hx, hb, hrt, hml, hown, hts, hlocks, hC, htab, hst⟩ := id F
  have hS : va_S (gF G) s.heap s.heap [] := va_S.rf
  have hl : lv_has ls 3 [(0, .ref (gA G 0))] := hl
  unfold f_X3_makeWaves at hm
  refine lv_iconst (v := 0) hx hb dX3_makeWaves_0 (by decide) ?_
  refine lv_istore_n (lv' := [(1, .int 0), (0, .ref (gA G 0))]) hx hb dX3_makeWaves_1 rfl hl (by decide) rfl (fun ls hl => ?_)
  exact w_X3_makeWaves_2 F 40 hm hP hS (lv_sub hl [1, 0] rfl)
/-! ===== X3_undoWavesBehind ===== -/
def f_X3_undoWavesBehind_41 (x1 : Int32) : Nat → St → Int32 → Option (RV × St)
  | 0, _, _ => none
  | n + 1, σ, x2 =>
    if (σ 0 6) ≤ x2 then
      some (.inl none, (up2 σ 0 6 x1))
    else
      if x2 < 0 ∨ 16 ≤ x2.toNatClampNeg then none
      else
        nv (f_X2_empty σ (58 + 2 * x2.toNatClampNeg)) (fun σ3 =>
          f_X3_undoWavesBehind_41 x1 n σ3 (x2 + 1))
set_option maxHeartbeats 4000000 in
set_option maxRecDepth 100000 in
theorem w_X3_undoWavesBehind_41 {p : Program} {l : Launch} {e : Env} {s : State} {m : MethodId} {args : Array Value} {below : List Frame} {meth : Method} {c : Code} {G : GT} {lo : Nat → Int64} (F : Fx p l s args m meth c G cX3_undoWavesBehind 3 none RX3) {x1 : Int32} : ∀ (n : Nat) {σ : St} {x2 : Int32} {r : RV × St}, f_X3_undoWavesBehind_41 x1 n σ x2 = some r → ∀ {H : Heap} {locs : List Loc}, va_P (gD G) vwCl (wld G lo σ) H → va_S (gF G) s.heap H locs → ∀ {ls : Array Slot}, lv_has ls 3 [(0, .ref (gA G 0)), (1, .int x1), (2, .int x2)] → W p l e (RM 1 20 0 0) s m args below meth c H locs 0 0 (vx_MQ below (QCr G lo r) (XCr G lo r) args s 0 0 (gF G)) (F0 m 41 ls []) := by
  obtain ⟨hx, hb, hrt, hml, hown, hts, hlocks, hC, htab, hst⟩ := id F
  intro n
  induction n with
  | zero =>
    intro σ x2 r hm
    simp only [f_X3_undoWavesBehind_41] at hm
    cases hm
  | succ n ih =>
    intro σ x2 r hm H locs hP hS ls hl
    rw [f_X3_undoWavesBehind_41] at hm
    refine lv_iload_n hx hb dX3_undoWavesBehind_41 rfl (lv_at hl 2 rfl) ?_
    refine lv_aload_n hx hb dX3_undoWavesBehind_42 rfl (lv_at hl 0 rfl) ?_
    refine xg F 6 inX3 hP (kd_k kdc_0 (by decide)) (wc3 kdc_0) rfl (by decide) tk_117 rfl rfl dX3_undoWavesBehind_43 ?_
    refine lv_icmp_ge (tgt := 64) hx hb dX3_undoWavesBehind_46 (by decide) (fun b1 => ?_) (fun b1 => ?_)
    · rw [if_pos b1] at hm
      refine lv_aload_n hx hb dX3_undoWavesBehind_64 rfl (lv_at hl 0 rfl) ?_
      refine lv_iload_n hx hb dX3_undoWavesBehind_65 rfl (lv_at hl 1 rfl) ?_
      refine xp F (v := x1) (ty := .int) 6 inX3 tyX3_ok nmX3 hP hS (kd_k kdc_0 (by decide)) (wc3 kdc_0) (wu3_6 kdc_0) rfl (by decide) tk_117 rfl rfl rfl rfl rfl (Nat.le_of_ble_eq_true rfl) dX3_undoWavesBehind_66 (fun H locs hP hS => ?_)
      exact xvr F hP hS (Option.some.inj hm).symm (by decide) (by decide) dX3_undoWavesBehind_69
    · rw [if_neg b1] at hm
      refine lv_aload_n hx hb dX3_undoWavesBehind_49 rfl (lv_at hl 0 rfl) ?_
      refine xg F 5 inX3 hP (kd_k kdc_0 (by decide)) (wc3 kdc_0) rfl (by decide) tk_116 rfl rfl dX3_undoWavesBehind_50 ?_
      refine lv_iload_n hx hb dX3_undoWavesBehind_53 rfl (lv_at hl 2 rfl) ?_
      by_cases b2 : (x2 < 0 ∨ 16 ≤ x2.toNatClampNeg)
      · rw [if_pos b2] at hm
        cases hm
      · rw [if_neg b2] at hm
        refine xwl F hP kdc_7 b2 dX3_undoWavesBehind_54 ?_
        obtain ⟨σ3, h3, hm⟩ := nv_inv hm
        refine xVN F (c_X2_empty (kd_wav b2) h3) rfl tk_399 tn_32 tk_398 tu_20 tk_5 rfl 0 (by decide +kernel) rfl ⟨Nat.le_of_ble_eq_true rfl, Nat.le_of_ble_eq_true rfl⟩ hP hS (kd_k (kd_wav b2) (by decide)) (wc2 (kd_wav b2)) rfl hl.1 rfl (Nat.le_of_ble_eq_true rfl) dX3_undoWavesBehind_55 ⟨Nat.le_of_ble_eq_true rfl, Nat.le_of_ble_eq_true rfl⟩ (fun H locs hP hS => ?_)
        replace hP : va_P (gD G) vwCl (wld G lo σ3) H := hP
        refine W.eq (g2 := F0 m 58 ls []) rfl ?_
        refine lv_iinc (v := (x2 + 1)) (lv' := [(2, .int (x2 + 1)), (0, .ref (gA G 0)), (1, .int x1)]) hx hb dX3_undoWavesBehind_58 hl (k := 2) rfl rfl (by decide) rfl (fun ls hl => ?_)
        refine lv_goto (tgt := 41) hx hb dX3_undoWavesBehind_61 (by decide) ?_
        exact ih hm hP hS (lv_sub hl [1, 2, 0] rfl)
def f_X3_undoWavesBehind_2 (x1 : Int32) : Nat → St → Int32 → Option (RV × St)
  | 0, _, _ => none
  | n + 1, σ, x2 =>
    if (σ 0 4) ≤ x2 then
      f_X3_undoWavesBehind_41 x1 40 σ x1
    else
      if x2 < 0 ∨ 16 ≤ x2.toNatClampNeg then none
      else
        if (σ (26 + 2 * x2.toNatClampNeg) 6) ≤ x1 then
          f_X3_undoWavesBehind_2 x1 n σ (x2 + 1)
        else
          f_X3_undoWavesBehind_2 x1 n (up2 σ (26 + 2 * x2.toNatClampNeg) 6 0) (x2 + 1)
set_option maxHeartbeats 4000000 in
set_option maxRecDepth 100000 in
theorem w_X3_undoWavesBehind_2 {p : Program} {l : Launch} {e : Env} {s : State} {m : MethodId} {args : Array Value} {below : List Frame} {meth : Method} {c : Code} {G : GT} {lo : Nat → Int64} (F : Fx p l s args m meth c G cX3_undoWavesBehind 3 none RX3) {x1 : Int32} : ∀ (n : Nat) {σ : St} {x2 : Int32} {r : RV × St}, f_X3_undoWavesBehind_2 x1 n σ x2 = some r → ∀ {H : Heap} {locs : List Loc}, va_P (gD G) vwCl (wld G lo σ) H → va_S (gF G) s.heap H locs → ∀ {ls : Array Slot}, lv_has ls 3 [(0, .ref (gA G 0)), (1, .int x1), (2, .int x2)] → W p l e (RM 1 20 0 0) s m args below meth c H locs 0 0 (vx_MQ below (QCr G lo r) (XCr G lo r) args s 0 0 (gF G)) (F0 m 2 ls []) := by
  obtain ⟨hx, hb, hrt, hml, hown, hts, hlocks, hC, htab, hst⟩ := id F
  intro n
  induction n with
  | zero =>
    intro σ x2 r hm
    simp only [f_X3_undoWavesBehind_2] at hm
    cases hm
  | succ n ih =>
    intro σ x2 r hm H locs hP hS ls hl
    rw [f_X3_undoWavesBehind_2] at hm
    refine lv_iload_n hx hb dX3_undoWavesBehind_2 rfl (lv_at hl 2 rfl) ?_
    refine lv_aload_n hx hb dX3_undoWavesBehind_3 rfl (lv_at hl 0 rfl) ?_
    refine xg F 4 inX3 hP (kd_k kdc_0 (by decide)) (wc3 kdc_0) rfl (by decide) tk_115 rfl rfl dX3_undoWavesBehind_4 ?_
    refine lv_icmp_ge (tgt := 39) hx hb dX3_undoWavesBehind_7 (by decide) (fun b1 => ?_) (fun b1 => ?_)
    · rw [if_pos b1] at hm
      refine lv_iload_n hx hb dX3_undoWavesBehind_39 rfl (lv_at hl 1 rfl) ?_
      refine lv_istore_n (lv' := [(2, .int x1), (0, .ref (gA G 0)), (1, .int x1)]) hx hb dX3_undoWavesBehind_40 rfl hl (by decide) rfl (fun ls hl => ?_)
      exact w_X3_undoWavesBehind_41 F 40 hm hP hS (lv_sub hl [1, 2, 0] rfl)
    · rw [if_neg b1] at hm
      refine lv_aload_n hx hb dX3_undoWavesBehind_10 rfl (lv_at hl 0 rfl) ?_
      refine xg F 3 inX3 hP (kd_k kdc_0 (by decide)) (wc3 kdc_0) rfl (by decide) tk_114 rfl rfl dX3_undoWavesBehind_11 ?_
      refine lv_iload_n hx hb dX3_undoWavesBehind_14 rfl (lv_at hl 2 rfl) ?_
      by_cases b2 : (x2 < 0 ∨ 16 ≤ x2.toNatClampNeg)
      · rw [if_pos b2] at hm
        cases hm
      · rw [if_neg b2] at hm
        refine xol F hP kdc_6 b2 dX3_undoWavesBehind_15 ?_
        refine xgN F 6 inX1 hP (kd_k (kd_ord b2) (by decide)) (wc1 (kd_ord b2)) rfl (by decide) tn_9 rfl rfl dX3_undoWavesBehind_16 ?_
        refine lv_iload_n hx hb dX3_undoWavesBehind_19 rfl (lv_at hl 1 rfl) ?_
        refine lv_icmp_le (tgt := 33) hx hb dX3_undoWavesBehind_20 (by decide) (fun b3 => ?_) (fun b3 => ?_)
        · rw [if_pos b3] at hm
          refine lv_iinc (v := (x2 + 1)) (lv' := [(2, .int (x2 + 1)), (0, .ref (gA G 0)), (1, .int x1)]) hx hb dX3_undoWavesBehind_33 hl (k := 2) rfl rfl (by decide) rfl (fun ls hl => ?_)
          refine lv_goto (tgt := 2) hx hb dX3_undoWavesBehind_36 (by decide) ?_
          exact ih hm hP hS (lv_sub hl [1, 2, 0] rfl)
        · rw [if_neg b3] at hm
          refine lv_aload_n hx hb dX3_undoWavesBehind_23 rfl (lv_at hl 0 rfl) ?_
          refine xg F 3 inX3 hP (kd_k kdc_0 (by decide)) (wc3 kdc_0) rfl (by decide) tk_114 rfl rfl dX3_undoWavesBehind_24 ?_
          refine lv_iload_n hx hb dX3_undoWavesBehind_27 rfl (lv_at hl 2 rfl) ?_
          refine xol F hP kdc_6 b2 dX3_undoWavesBehind_28 ?_
          refine lv_iconst (v := 0) hx hb dX3_undoWavesBehind_29 (by decide) ?_
          refine xpN F (v := 0) (ty := .int) 6 inX1 tyX1_ok nmX1 hP hS (kd_k (kd_ord b2) (by decide)) (wc1 (kd_ord b2)) (wu1_6 (kd_ord b2)) rfl (by decide) tn_9 rfl rfl rfl rfl rfl (Nat.le_of_ble_eq_true rfl) dX3_undoWavesBehind_30 (fun H locs hP hS => ?_)
          refine lv_iinc (v := (x2 + 1)) (lv' := [(2, .int (x2 + 1)), (0, .ref (gA G 0)), (1, .int x1)]) hx hb dX3_undoWavesBehind_33 hl (k := 2) rfl rfl (by decide) rfl (fun ls hl => ?_)
          refine lv_goto (tgt := 2) hx hb dX3_undoWavesBehind_36 (by decide) ?_
          exact ih hm hP hS (lv_sub hl [1, 2, 0] rfl)
def f_X3_undoWavesBehind (σ : St) (x1 : Int32) : Option (RV × St) :=
  f_X3_undoWavesBehind_2 x1 40 σ 0
set_option maxHeartbeats 4000000 in
set_option maxRecDepth 100000 in
theorem c_X3_undoWavesBehind {l : Launch} {G : GT} {σ : St} {x1 : Int32} {r : RV × St} (hm : f_X3_undoWavesBehind σ x1 = some r) : MC l G yX3_undoWavesBehind cX3_undoWavesBehind 3 none 1 20 0 0 [.inr 0, .inl x1] σ r := by
  refine xbody (by decide) (Nat.le_of_ble_eq_true rfl) ?_
  intro lo p e s m args below meth c F hP ls hl
  have F : Fx p l s args m meth c G cX3_undoWavesBehind 3 none RX3 := F
  obtain ⟨hx, hb, hrt, hml, hown, hts, hlocks, hC, htab, hst⟩ := id F
  have hS : va_S (gF G) s.heap s.heap [] := va_S.rf
  have hl : lv_has ls 3 [(0, .ref (gA G 0)), (1, .int x1)] := hl
  unfold f_X3_undoWavesBehind at hm
  refine lv_iconst (v := 0) hx hb dX3_undoWavesBehind_0 (by decide) ?_
  refine lv_istore_n (lv' := [(2, .int 0), (0, .ref (gA G 0)), (1, .int x1)]) hx hb dX3_undoWavesBehind_1 rfl hl (by decide) rfl (fun ls hl => ?_)
  exact w_X3_undoWavesBehind_2 F 40 hm hP hS (lv_sub hl [1, 2, 0] rfl)
/-! ===== X3_savedOf ===== -/
def f_X3_savedOf_4 (σ : St) (q1 : Nat) : Nat → Int32 → Int32 → Option RV
  | 0, _, _ => none
  | n + 1, x2, x3 =>
    if (σ q1 1) ≤ x3 then
      some (.inl (some (.inl x2)))
    else
      if x3 < 0 ∨ 16 ≤ x3.toNatClampNeg then none
      else
        if (σ (q1 + 1) x3.toNatClampNeg) < 0 ∨ 16 ≤ (σ (q1 + 1) x3.toNatClampNeg).toNatClampNeg then none
        else
          ri (f_X3_greatestSaving σ (26 + 2 * (σ (q1 + 1) x3.toNatClampNeg).toNatClampNeg) q1 x3) (fun x4_ =>
            f_X3_savedOf_4 σ q1 n (x2 + x4_) (x3 + 1))
set_option maxHeartbeats 4000000 in
set_option maxRecDepth 100000 in
theorem w_X3_savedOf_4 {p : Program} {l : Launch} {e : Env} {s : State} {m : MethodId} {args : Array Value} {below : List Frame} {meth : Method} {c : Code} {G : GT} {lo : Nat → Int64} (F : Fx p l s args m meth c G cX3_savedOf 4 (some .int) RX3) {σ : St} {q1 : Nat} (k1 : kd q1 = 2) : ∀ (n : Nat) {x2 : Int32} {x3 : Int32} {r : RV}, f_X3_savedOf_4 σ q1 n x2 x3 = some r → ∀ {H : Heap} {locs : List Loc}, va_P (gD G) vwCl (wld G lo σ) H → va_S (gF G) s.heap H locs → ∀ {ls : Array Slot}, lv_has ls 4 [(0, .ref (gA G 0)), (1, .ref (gA G q1)), (2, .int x2), (3, .int x3)] → W p l e (RM 3 69 0 0) s m args below meth c H locs 0 0 (vx_MQ below (QCr G lo (r, σ)) (XCr G lo (r, σ)) args s 0 0 (gF G)) (F0 m 4 ls []) := by
  obtain ⟨hx, hb, hrt, hml, hown, hts, hlocks, hC, htab, hst⟩ := id F
  intro n
  induction n with
  | zero =>
    intro x2 x3 r hm
    simp only [f_X3_savedOf_4] at hm
    cases hm
  | succ n ih =>
    intro x2 x3 r hm H locs hP hS ls hl
    rw [f_X3_savedOf_4] at hm
    refine lv_iload_n hx hb dX3_savedOf_4 rfl (lv_at hl 3 rfl) ?_
    refine lv_aload_n hx hb dX3_savedOf_5 rfl (lv_at hl 1 rfl) ?_
    refine xgN F 1 inX2 hP (kd_k k1 (by decide)) (wc2 k1) rfl (by decide) tn_14 rfl rfl dX3_savedOf_6 ?_
    refine lv_icmp_ge (tgt := 38) hx hb dX3_savedOf_9 (by decide) (fun b1 => ?_) (fun b1 => ?_)
    · rw [if_pos b1] at hm
      refine lv_iload_n hx hb dX3_savedOf_38 rfl (lv_at hl 2 rfl) ?_
      exact xir F hP hS (congrArg (fun z => (z, σ)) (Option.some.inj hm).symm) (by decide) (by decide) dX3_savedOf_39
    · rw [if_neg b1] at hm
      refine lv_iload_n hx hb dX3_savedOf_12 rfl (lv_at hl 2 rfl) ?_
      refine lv_aload_n hx hb dX3_savedOf_13 rfl (lv_at hl 0 rfl) ?_
      refine lv_aload_n hx hb dX3_savedOf_14 rfl (lv_at hl 0 rfl) ?_
      refine xg F 3 inX3 hP (kd_k kdc_0 (by decide)) (wc3 kdc_0) rfl (by decide) tk_114 rfl rfl dX3_savedOf_15 ?_
      refine lv_aload_n hx hb dX3_savedOf_18 rfl (lv_at hl 1 rfl) ?_
      refine xgN F 0 inX2 hP (kd_k k1 (by decide)) (wc2 k1) rfl (by decide) tn_13 rfl rfl dX3_savedOf_19 ?_
      refine lv_iload_n hx hb dX3_savedOf_22 rfl (lv_at hl 3 rfl) ?_
      by_cases b2 : (x3 < 0 ∨ 16 ≤ x3.toNatClampNeg)
      · rw [if_pos b2] at hm
        cases hm
      · rw [if_neg b2] at hm
        refine xil F hP ((kd_wavA _ k1).1) ((kd_wavA _ k1).2) b2 dX3_savedOf_23 ?_
        by_cases b3 : ((σ (q1 + 1) x3.toNatClampNeg) < 0 ∨ 16 ≤ (σ (q1 + 1) x3.toNatClampNeg).toNatClampNeg)
        · rw [if_pos b3] at hm
          cases hm
        · rw [if_neg b3] at hm
          refine xol F hP kdc_6 b3 dX3_savedOf_24 ?_
          refine lv_aload_n hx hb dX3_savedOf_25 rfl (lv_at hl 1 rfl) ?_
          refine lv_iload_n hx hb dX3_savedOf_26 rfl (lv_at hl 3 rfl) ?_
          obtain ⟨x4_, h4, hm⟩ := ri_inv hm
          refine xV F (c_X3_greatestSaving (kd_ord b3) k1 h4) tk_163 tk_160 tk_162 tu_5 tk_1 rfl 3 (by decide +kernel) rfl ⟨Nat.le_of_ble_eq_true rfl, Nat.le_of_ble_eq_true rfl⟩ hP hS (kd_k kdc_0 (by decide)) (wc3 kdc_0) rfl hl.1 rfl (Nat.le_of_ble_eq_true rfl) dX3_savedOf_27 ⟨Nat.le_of_ble_eq_true rfl, Nat.le_of_ble_eq_true rfl⟩ (fun v hv H locs hP hS => ?_) (fun E hE => by cases hE)
          cases hv
          replace hP : va_P (gD G) vwCl (wld G lo σ) H := hP
          refine W.eq (g2 := F0 m 30 ls [.int x4_, .int x2]) rfl ?_
          refine lv_iadd hx hb dX3_savedOf_30 ?_
          refine lv_istore_n (lv' := [(2, .int (x2 + x4_)), (0, .ref (gA G 0)), (1, .ref (gA G q1)), (3, .int x3)]) hx hb dX3_savedOf_31 rfl hl (by decide) rfl (fun ls hl => ?_)
          refine lv_iinc (v := (x3 + 1)) (lv' := [(3, .int (x3 + 1)), (2, .int (x2 + x4_)), (0, .ref (gA G 0)), (1, .ref (gA G q1))]) hx hb dX3_savedOf_32 hl (k := 3) rfl rfl (by decide) rfl (fun ls hl => ?_)
          refine lv_goto (tgt := 4) hx hb dX3_savedOf_35 (by decide) ?_
          exact ih hm hP hS (lv_sub hl [2, 3, 1, 0] rfl)
def f_X3_savedOf (σ : St) (q1 : Nat) : Option RV :=
  f_X3_savedOf_4 σ q1 40 0 1
set_option maxHeartbeats 4000000 in
set_option maxRecDepth 100000 in
theorem c_X3_savedOf {l : Launch} {G : GT} {σ : St} {q1 : Nat} (k1 : kd q1 = 2) {r : RV} (hm : f_X3_savedOf σ q1 = some r) : MC l G yX3_savedOf cX3_savedOf 4 (some .int) 3 69 0 0 [.inr 0, .inr q1] σ (r, σ) := by
  refine xbody (by decide) (Nat.le_of_ble_eq_true rfl) ?_
  intro lo p e s m args below meth c F hP ls hl
  have F : Fx p l s args m meth c G cX3_savedOf 4 (some .int) RX3 := F
  obtain ⟨hx, hb, hrt, hml, hown, hts, hlocks, hC, htab, hst⟩ := id F
  have hS : va_S (gF G) s.heap s.heap [] := va_S.rf
  have hl : lv_has ls 4 [(0, .ref (gA G 0)), (1, .ref (gA G q1))] := hl
  unfold f_X3_savedOf at hm
  refine lv_iconst (v := 0) hx hb dX3_savedOf_0 (by decide) ?_
  refine lv_istore_n (lv' := [(2, .int 0), (0, .ref (gA G 0)), (1, .ref (gA G q1))]) hx hb dX3_savedOf_1 rfl hl (by decide) rfl (fun ls hl => ?_)
  refine lv_iconst (v := 1) hx hb dX3_savedOf_2 (by decide) ?_
  refine lv_istore_n (lv' := [(3, .int 1), (2, .int 0), (0, .ref (gA G 0)), (1, .ref (gA G q1))]) hx hb dX3_savedOf_3 rfl hl (by decide) rfl (fun ls hl => ?_)
  exact w_X3_savedOf_4 F k1 40 hm hP hS (lv_sub hl [2, 3, 1, 0] rfl)
/-! ===== X3_savedBehind ===== -/
def f_X3_savedBehind_4 (σ : St) : Nat → Int32 → Int32 → Option RV
  | 0, _, _ => none
  | n + 1, x2, x3 =>
    if (σ 0 6) ≤ x3 then
      some (.inl (some (.inl x2)))
    else
      if x3 < 0 ∨ 16 ≤ x3.toNatClampNeg then none
      else
        ri (f_X3_savedOf σ (58 + 2 * x3.toNatClampNeg)) (fun x3_ =>
          f_X3_savedBehind_4 σ n (x2 + x3_) (x3 + 1))
set_option maxHeartbeats 4000000 in
set_option maxRecDepth 100000 in
theorem w_X3_savedBehind_4 {p : Program} {l : Launch} {e : Env} {s : State} {m : MethodId} {args : Array Value} {below : List Frame} {meth : Method} {c : Code} {G : GT} {lo : Nat → Int64} (F : Fx p l s args m meth c G cX3_savedBehind 4 (some .int) RX3) {σ : St} : ∀ (n : Nat) {x2 : Int32} {x3 : Int32} {r : RV}, f_X3_savedBehind_4 σ n x2 x3 = some r → ∀ {H : Heap} {locs : List Loc}, va_P (gD G) vwCl (wld G lo σ) H → va_S (gF G) s.heap H locs → ∀ {ls : Array Slot}, lv_has ls 4 [(0, .ref (gA G 0)), (2, .int x2), (3, .int x3)] → W p l e (RM 4 92 0 0) s m args below meth c H locs 0 0 (vx_MQ below (QCr G lo (r, σ)) (XCr G lo (r, σ)) args s 0 0 (gF G)) (F0 m 4 ls []) := by
  obtain ⟨hx, hb, hrt, hml, hown, hts, hlocks, hC, htab, hst⟩ := id F
  intro n
  induction n with
  | zero =>
    intro x2 x3 r hm
    simp only [f_X3_savedBehind_4] at hm
    cases hm
  | succ n ih =>
    intro x2 x3 r hm H locs hP hS ls hl
    rw [f_X3_savedBehind_4] at hm
    refine lv_iload_n hx hb dX3_savedBehind_4 rfl (lv_at hl 2 rfl) ?_
    refine lv_aload_n hx hb dX3_savedBehind_5 rfl (lv_at hl 0 rfl) ?_
    refine xg F 6 inX3 hP (kd_k kdc_0 (by decide)) (wc3 kdc_0) rfl (by decide) tk_117 rfl rfl dX3_savedBehind_6 ?_
    refine lv_icmp_ge (tgt := 31) hx hb dX3_savedBehind_9 (by decide) (fun b1 => ?_) (fun b1 => ?_)
    · rw [if_pos b1] at hm
      refine lv_iload_n hx hb dX3_savedBehind_31 rfl (lv_at hl 1 rfl) ?_
      exact xir F hP hS (congrArg (fun z => (z, σ)) (Option.some.inj hm).symm) (by decide) (by decide) dX3_savedBehind_32
    · rw [if_neg b1] at hm
      refine lv_iload_n hx hb dX3_savedBehind_12 rfl (lv_at hl 1 rfl) ?_
      refine lv_aload_n hx hb dX3_savedBehind_13 rfl (lv_at hl 0 rfl) ?_
      refine lv_aload_n hx hb dX3_savedBehind_14 rfl (lv_at hl 0 rfl) ?_
      refine xg F 5 inX3 hP (kd_k kdc_0 (by decide)) (wc3 kdc_0) rfl (by decide) tk_116 rfl rfl dX3_savedBehind_15 ?_
      refine lv_iload_n hx hb dX3_savedBehind_18 rfl (lv_at hl 2 rfl) ?_
      by_cases b2 : (x3 < 0 ∨ 16 ≤ x3.toNatClampNeg)
      · rw [if_pos b2] at hm
        cases hm
      · rw [if_neg b2] at hm
        refine xwl F hP kdc_7 b2 dX3_savedBehind_19 ?_
        obtain ⟨x3_, h3, hm⟩ := ri_inv hm
        refine xV F (c_X3_savedOf (kd_wav b2) h3) tk_159 tk_156 tk_158 tu_4 tk_1 rfl 1 (by decide +kernel) rfl ⟨Nat.le_of_ble_eq_true rfl, Nat.le_of_ble_eq_true rfl⟩ hP hS (kd_k kdc_0 (by decide)) (wc3 kdc_0) rfl hl.1 rfl (Nat.le_of_ble_eq_true rfl) dX3_savedBehind_20 ⟨Nat.le_of_ble_eq_true rfl, Nat.le_of_ble_eq_true rfl⟩ (fun v hv H locs hP hS => ?_) (fun E hE => by cases hE)
        cases hv
        replace hP : va_P (gD G) vwCl (wld G lo σ) H := hP
        refine W.eq (g2 := F0 m 23 ls [.int x3_, .int x2]) rfl ?_
        refine lv_iadd hx hb dX3_savedBehind_23 ?_
        refine lv_istore_n (lv' := [(2, .int (x2 + x3_)), (0, .ref (gA G 0)), (3, .int x3)]) hx hb dX3_savedBehind_24 rfl hl (by decide) rfl (fun ls hl => ?_)
        refine lv_iinc (v := (x3 + 1)) (lv' := [(3, .int (x3 + 1)), (2, .int (x2 + x3_)), (0, .ref (gA G 0))]) hx hb dX3_savedBehind_25 hl (k := 2) rfl rfl (by decide) rfl (fun ls hl => ?_)
        refine lv_goto (tgt := 4) hx hb dX3_savedBehind_28 (by decide) ?_
        exact ih hm hP hS (lv_sub hl [2, 1, 0] rfl)
def f_X3_savedBehind (σ : St) (x1 : Int32) : Option RV :=
  f_X3_savedBehind_4 σ 40 0 x1
set_option maxHeartbeats 4000000 in
set_option maxRecDepth 100000 in
theorem c_X3_savedBehind {l : Launch} {G : GT} {σ : St} {x1 : Int32} {r : RV} (hm : f_X3_savedBehind σ x1 = some r) : MC l G yX3_savedBehind cX3_savedBehind 4 (some .int) 4 92 0 0 [.inr 0, .inl x1] σ (r, σ) := by
  refine xbody (by decide) (Nat.le_of_ble_eq_true rfl) ?_
  intro lo p e s m args below meth c F hP ls hl
  have F : Fx p l s args m meth c G cX3_savedBehind 4 (some .int) RX3 := F
  obtain ⟨hx, hb, hrt, hml, hown, hts, hlocks, hC, htab, hst⟩ := id F
  have hS : va_S (gF G) s.heap s.heap [] := va_S.rf
  have hl : lv_has ls 4 [(0, .ref (gA G 0)), (1, .int x1)] := hl
  unfold f_X3_savedBehind at hm
  refine lv_iconst (v := 0) hx hb dX3_savedBehind_0 (by decide) ?_
  refine lv_istore_n (lv' := [(2, .int 0), (0, .ref (gA G 0)), (1, .int x1)]) hx hb dX3_savedBehind_1 rfl hl (by decide) rfl (fun ls hl => ?_)
  refine lv_iload_n hx hb dX3_savedBehind_2 rfl (lv_at hl 2 rfl) ?_
  refine lv_istore_n (lv' := [(3, .int x1), (2, .int 0), (0, .ref (gA G 0)), (1, .int x1)]) hx hb dX3_savedBehind_3 rfl hl (by decide) rfl (fun ls hl => ?_)
  exact w_X3_savedBehind_4 F 40 hm hP hS (lv_sub hl [2, 1, 0] rfl)
/-! ===== X3_plan ===== -/
def f_X3_plan (σ : St) : Option (RV × St) :=
  ni (f_X3_makeWaves σ) (fun x1_ σ1 =>
    if x1_ = 0 then
      nv (f_X3_undoWavesBehind σ1 (σ 0 6)) (fun σ4 =>
        some (.inr "java/lang/UnsupportedOperationException", σ4))
    else
      ri (f_X3_savedBehind σ1 (σ 0 6)) (fun x3_ =>
        some (.inl (some (.inl x3_)), σ1)))
set_option maxHeartbeats 4000000 in
set_option maxRecDepth 100000 in
theorem c_X3_plan {l : Launch} {G : GT} {σ : St} {r : RV × St} (hm : f_X3_plan σ = some r) : MC l G yX3_plan cX3_plan 2 (some .int) 6 145 1 6 [.inr 0] σ r := by
  refine xbody (by decide) (Nat.le_of_ble_eq_true rfl) ?_
  intro lo p e s m args below meth c F hP ls hl
  have F : Fx p l s args m meth c G cX3_plan 2 (some .int) RX3 := F
  obtain ⟨hx, hb, hrt, hml, hown, hts, hlocks, hC, htab, hst⟩ := id F
  have hS : va_S (gF G) s.heap s.heap [] := va_S.rf
  have hl : lv_has ls 2 [(0, .ref (gA G 0))] := hl
  unfold f_X3_plan at hm
  refine lv_aload_n hx hb dX3_plan_0 rfl (lv_at hl 0 rfl) ?_
  refine xg F 6 inX3 hP (kd_k kdc_0 (by decide)) (wc3 kdc_0) rfl (by decide) tk_117 rfl rfl dX3_plan_1 ?_
  refine lv_istore_n (lv' := [(1, .int (σ 0 6)), (0, .ref (gA G 0))]) hx hb dX3_plan_4 rfl hl (by decide) rfl (fun ls hl => ?_)
  refine lv_aload_n hx hb dX3_plan_5 rfl (lv_at hl 1 rfl) ?_
  obtain ⟨x1_, σ1, h1, hm⟩ := ni_inv hm
  refine xV F (c_X3_makeWaves h1) tk_363 tk_360 tk_362 tu_11 tk_1 rfl 0 (by decide +kernel) rfl ⟨Nat.le_of_ble_eq_true rfl, Nat.le_of_ble_eq_true rfl⟩ hP hS (kd_k kdc_0 (by decide)) (wc3 kdc_0) rfl hl.1 rfl (Nat.le_of_ble_eq_true rfl) dX3_plan_6 ⟨Nat.le_of_ble_eq_true rfl, Nat.le_of_ble_eq_true rfl⟩ (fun v hv H locs hP hS => ?_) (fun E hE => by cases hE)
  cases hv
  replace hP : va_P (gD G) vwCl (wld G lo σ1) H := hP
  refine W.eq (g2 := F0 m 9 ls [.int x1_]) rfl ?_
  refine lv_if_ne (tgt := 27) hx hb dX3_plan_9 (by decide) (fun b2 => ?_) (fun b2 => ?_)
  · rw [if_neg b2] at hm
    refine lv_aload_n hx hb dX3_plan_27 rfl (lv_at hl 1 rfl) ?_
    refine lv_iload_n hx hb dX3_plan_28 rfl (lv_at hl 0 rfl) ?_
    obtain ⟨x3_, h3, hm⟩ := ri_inv hm
    refine xV F (c_X3_savedBehind h3) tk_155 tk_152 tk_154 tu_3 tk_1 rfl 1 (by decide +kernel) rfl ⟨Nat.le_of_ble_eq_true rfl, Nat.le_of_ble_eq_true rfl⟩ hP hS (kd_k kdc_0 (by decide)) (wc3 kdc_0) rfl hl.1 rfl (Nat.le_of_ble_eq_true rfl) dX3_plan_29 ⟨Nat.le_of_ble_eq_true rfl, Nat.le_of_ble_eq_true rfl⟩ (fun v hv H locs hP hS => ?_) (fun E hE => by cases hE)
    cases hv
    replace hP : va_P (gD G) vwCl (wld G lo σ1) H := hP
    refine W.eq (g2 := F0 m 32 ls [.int x3_]) rfl ?_
    exact xir F hP hS (Option.some.inj hm).symm (by decide) (by decide) dX3_plan_32
  · rw [if_pos b2] at hm
    refine lv_aload_n hx hb dX3_plan_12 rfl (lv_at hl 1 rfl) ?_
    refine lv_iload_n hx hb dX3_plan_13 rfl (lv_at hl 0 rfl) ?_
    obtain ⟨σ4, h4, hm⟩ := nv_inv hm
    refine xV F (c_X3_undoWavesBehind h4) tk_395 tk_392 tk_394 tu_19 tk_1 rfl 1 (by decide +kernel) rfl ⟨Nat.le_of_ble_eq_true rfl, Nat.le_of_ble_eq_true rfl⟩ hP hS (kd_k kdc_0 (by decide)) (wc3 kdc_0) rfl hl.1 rfl (Nat.le_of_ble_eq_true rfl) dX3_plan_14 ⟨Nat.le_of_ble_eq_true rfl, Nat.le_of_ble_eq_true rfl⟩ (fun v hv H locs hP hS => ?_) (fun E hE => by cases hE)
    cases hv
    replace hP : va_P (gD G) vwCl (wld G lo σ4) H := hP
    refine W.eq (g2 := F0 m 17 ls []) rfl ?_
    exact xthr F hP hS (Option.some.inj hm).symm (by decide) (by decide) hl.1 (by decide +kernel) tk_257 tk_11 (List.mem_of_getElem? (i := 7) rfl) xt_64_1 xt_64_2 xt_64_60 dX3_plan_17 dX3_plan_20 dX3_plan_21 dX3_plan_23 dX3_plan_26 (Nat.le_of_ble_eq_true rfl) (Nat.le_of_ble_eq_true rfl) (Nat.le_of_ble_eq_true rfl) (Nat.le_of_ble_eq_true rfl)
/-! ===== X3_wave ===== -/
def f_X3_wave (σ : St) (x1 : Int32) : Option RV :=
  qp (f_X3_requireOrder σ x1) (fun E => some (.inr E)) (fun q1_ =>
    if kd q1_ = 1 then
      some (.inl (some (.inl (σ q1_ 6))))
    else none)
set_option maxHeartbeats 4000000 in
set_option maxRecDepth 100000 in
theorem c_X3_wave {l : Launch} {G : GT} {σ : St} {x1 : Int32} {r : RV} (hm : f_X3_wave σ x1 = some r) : MC l G yX3_wave cX3_wave 2 (some .int) 7 111 1 6 [.inr 0, .inl x1] σ (r, σ) := by
  refine xbody (by decide) (Nat.le_of_ble_eq_true rfl) ?_
  intro lo p e s m args below meth c F hP ls hl
  have F : Fx p l s args m meth c G cX3_wave 2 (some .int) RX3 := F
  obtain ⟨hx, hb, hrt, hml, hown, hts, hlocks, hC, htab, hst⟩ := id F
  have hS : va_S (gF G) s.heap s.heap [] := va_S.rf
  have hl : lv_has ls 2 [(0, .ref (gA G 0)), (1, .int x1)] := hl
  unfold f_X3_wave at hm
  refine lv_aload_n hx hb dX3_wave_0 rfl (lv_at hl 0 rfl) ?_
  refine lv_iload_n hx hb dX3_wave_1 rfl (lv_at hl 1 rfl) ?_
  rcases qp_inv hm with ⟨q1_, h1, hm⟩ | ⟨E1, h1, hm⟩
  · refine xV F (c_X3_requireOrder h1) tk_285 tk_282 tk_284 tu_8 tk_1 rfl 1 (by decide +kernel) rfl ⟨Nat.le_of_ble_eq_true rfl, Nat.le_of_ble_eq_true rfl⟩ hP hS (kd_k kdc_0 (by decide)) (wc3 kdc_0) rfl hl.1 rfl (Nat.le_of_ble_eq_true rfl) dX3_wave_2 ⟨Nat.le_of_ble_eq_true rfl, Nat.le_of_ble_eq_true rfl⟩ (fun v hv H locs hP hS => ?_) (fun E hE => by cases hE)
    cases hv
    replace hP : va_P (gD G) vwCl (wld G lo σ) H := hP
    refine W.eq (g2 := F0 m 5 ls [.ref (gA G q1_)]) rfl ?_
    by_cases k1_ : kd q1_ = 1
    · rw [if_pos k1_] at hm
      refine xgN F 6 inX1 hP (kd_k k1_ (by decide)) (wc1 k1_) rfl (by decide) tn_9 rfl rfl dX3_wave_5 ?_
      exact xir F hP hS (congrArg (fun z => (z, σ)) (Option.some.inj hm).symm) (by decide) (by decide) dX3_wave_8
    · rw [if_neg k1_] at hm
      cases hm
  · refine xV F (c_X3_requireOrder h1) tk_285 tk_282 tk_284 tu_8 tk_1 rfl 1 (by decide +kernel) rfl ⟨Nat.le_of_ble_eq_true rfl, Nat.le_of_ble_eq_true rfl⟩ hP hS (kd_k kdc_0 (by decide)) (wc3 kdc_0) rfl hl.1 rfl (Nat.le_of_ble_eq_true rfl) dX3_wave_2 ⟨Nat.le_of_ble_eq_true rfl, Nat.le_of_ble_eq_true rfl⟩ (fun v hv => by cases hv) (fun E hE H locs q9 ce hP hS e1 e2 e3 => ?_)
    cases hE
    exact xto F hP hS (congrArg (fun z => (z, σ)) (Option.some.inj hm).symm) (by decide) (by decide) e1 e2 e3
/-! ===== X3_requireWave ===== -/
def f_X3_requireWave (σ : St) (x1 : Int32) : Option RV :=
  if x1 < 1 then
    some (.inr "java/util/NoSuchElementException")
  else
    if (σ 0 6) < x1 then
      some (.inr "java/util/NoSuchElementException")
    else
      if (x1 - 1) < 0 ∨ 16 ≤ (x1 - 1).toNatClampNeg then none
      else
        if (σ (58 + 2 * (x1 - 1).toNatClampNeg) 1) = 0 then
          some (.inr "java/util/NoSuchElementException")
        else
          some (.inl (some (.inr (58 + 2 * (x1 - 1).toNatClampNeg))))
set_option maxHeartbeats 4000000 in
set_option maxRecDepth 100000 in
theorem c_X3_requireWave {l : Launch} {G : GT} {σ : St} {x1 : Int32} {r : RV} (hm : f_X3_requireWave σ x1 = some r) : MC l G yX3_requireWave cX3_requireWave 2 (some (.object "WavePlans$Wave")) 6 90 1 6 [.inr 0, .inl x1] σ (r, σ) := by
  refine xbody (by decide) (Nat.le_of_ble_eq_true rfl) ?_
  intro lo p e s m args below meth c F hP ls hl
  have F : Fx p l s args m meth c G cX3_requireWave 2 (some (.object "WavePlans$Wave")) RX3 := F
  obtain ⟨hx, hb, hrt, hml, hown, hts, hlocks, hC, htab, hst⟩ := id F
  have hS : va_S (gF G) s.heap s.heap [] := va_S.rf
  have hl : lv_has ls 2 [(0, .ref (gA G 0)), (1, .int x1)] := hl
  unfold f_X3_requireWave at hm
  refine lv_iload_n hx hb dX3_requireWave_0 rfl (lv_at hl 1 rfl) ?_
  refine lv_iconst (v := 1) hx hb dX3_requireWave_1 (by decide) ?_
  refine lv_icmp_lt (tgt := 27) hx hb dX3_requireWave_2 (by decide) (fun b1 => ?_) (fun b1 => ?_)
  · rw [if_pos b1] at hm
    exact xthrN F hP hS (congrArg (fun z => (z, σ)) (Option.some.inj hm).symm) (by decide) (by decide) hl.1 tk_286 tk_12 (List.mem_of_getElem? (i := 8) rfl) dX3_requireWave_27 dX3_requireWave_30 dX3_requireWave_31 dX3_requireWave_33 dX3_requireWave_36 (Nat.le_of_ble_eq_true rfl) (Nat.le_of_ble_eq_true rfl) (Nat.le_of_ble_eq_true rfl) (Nat.le_of_ble_eq_true rfl)
  · rw [if_neg b1] at hm
    refine lv_iload_n hx hb dX3_requireWave_5 rfl (lv_at hl 1 rfl) ?_
    refine lv_aload_n hx hb dX3_requireWave_6 rfl (lv_at hl 0 rfl) ?_
    refine xg F 6 inX3 hP (kd_k kdc_0 (by decide)) (wc3 kdc_0) rfl (by decide) tk_117 rfl rfl dX3_requireWave_7 ?_
    refine lv_icmp_gt (tgt := 27) hx hb dX3_requireWave_10 (by decide) (fun b2 => ?_) (fun b2 => ?_)
    · rw [if_pos b2] at hm
      exact xthrN F hP hS (congrArg (fun z => (z, σ)) (Option.some.inj hm).symm) (by decide) (by decide) hl.1 tk_286 tk_12 (List.mem_of_getElem? (i := 8) rfl) dX3_requireWave_27 dX3_requireWave_30 dX3_requireWave_31 dX3_requireWave_33 dX3_requireWave_36 (Nat.le_of_ble_eq_true rfl) (Nat.le_of_ble_eq_true rfl) (Nat.le_of_ble_eq_true rfl) (Nat.le_of_ble_eq_true rfl)
    · rw [if_neg b2] at hm
      refine lv_aload_n hx hb dX3_requireWave_13 rfl (lv_at hl 0 rfl) ?_
      refine xg F 5 inX3 hP (kd_k kdc_0 (by decide)) (wc3 kdc_0) rfl (by decide) tk_116 rfl rfl dX3_requireWave_14 ?_
      refine lv_iload_n hx hb dX3_requireWave_17 rfl (lv_at hl 1 rfl) ?_
      refine lv_iconst (v := 1) hx hb dX3_requireWave_18 (by decide) ?_
      refine lv_isub hx hb dX3_requireWave_19 ?_
      by_cases b3 : ((x1 - 1) < 0 ∨ 16 ≤ (x1 - 1).toNatClampNeg)
      · rw [if_pos b3] at hm
        cases hm
      · rw [if_neg b3] at hm
        refine xwl F hP kdc_7 b3 dX3_requireWave_20 ?_
        refine xgN F 1 inX2 hP (kd_k (kd_wav b3) (by decide)) (wc2 (kd_wav b3)) rfl (by decide) tn_14 rfl rfl dX3_requireWave_21 ?_
        refine lv_if_ne (tgt := 37) hx hb dX3_requireWave_24 (by decide) (fun b4 => ?_) (fun b4 => ?_)
        · rw [if_neg b4] at hm
          refine lv_aload_n hx hb dX3_requireWave_37 rfl (lv_at hl 0 rfl) ?_
          refine xg F 5 inX3 hP (kd_k kdc_0 (by decide)) (wc3 kdc_0) rfl (by decide) tk_116 rfl rfl dX3_requireWave_38 ?_
          refine lv_iload_n hx hb dX3_requireWave_41 rfl (lv_at hl 1 rfl) ?_
          refine lv_iconst (v := 1) hx hb dX3_requireWave_42 (by decide) ?_
          refine lv_isub hx hb dX3_requireWave_43 ?_
          refine xwl F hP kdc_7 b3 dX3_requireWave_44 ?_
          exact xar F hP hS (congrArg (fun z => (z, σ)) (Option.some.inj hm).symm) (by decide) (by decide) dX3_requireWave_45
        · rw [if_pos b4] at hm
          exact xthrN F hP hS (congrArg (fun z => (z, σ)) (Option.some.inj hm).symm) (by decide) (by decide) hl.1 tk_286 tk_12 (List.mem_of_getElem? (i := 8) rfl) dX3_requireWave_27 dX3_requireWave_30 dX3_requireWave_31 dX3_requireWave_33 dX3_requireWave_36 (Nat.le_of_ble_eq_true rfl) (Nat.le_of_ble_eq_true rfl) (Nat.le_of_ble_eq_true rfl) (Nat.le_of_ble_eq_true rfl)
/-! ===== X3_secondsOf ===== -/
def f_X3_secondsOf_4 (σ : St) (q1 : Nat) : Nat → Int32 → Int32 → Option RV
  | 0, _, _ => none
  | n + 1, x2, x3 =>
    if (σ q1 1) ≤ x3 then
      ri (f_X3_savedOf σ q1) (fun x2_ =>
        some (.inl (some (.inl (x2 - x2_)))))
    else
      if x3 < 0 ∨ 16 ≤ x3.toNatClampNeg then none
      else
        if (σ (q1 + 1) x3.toNatClampNeg) < 0 ∨ 16 ≤ (σ (q1 + 1) x3.toNatClampNeg).toNatClampNeg then none
        else
          f_X3_secondsOf_4 σ q1 n (x2 + (σ (26 + 2 * (σ (q1 + 1) x3.toNatClampNeg).toNatClampNeg) 2)) (x3 + 1)
set_option maxHeartbeats 4000000 in
set_option maxRecDepth 100000 in
theorem w_X3_secondsOf_4 {p : Program} {l : Launch} {e : Env} {s : State} {m : MethodId} {args : Array Value} {below : List Frame} {meth : Method} {c : Code} {G : GT} {lo : Nat → Int64} (F : Fx p l s args m meth c G cX3_secondsOf 4 (some .int) RX3) {σ : St} {q1 : Nat} (k1 : kd q1 = 2) : ∀ (n : Nat) {x2 : Int32} {x3 : Int32} {r : RV}, f_X3_secondsOf_4 σ q1 n x2 x3 = some r → ∀ {H : Heap} {locs : List Loc}, va_P (gD G) vwCl (wld G lo σ) H → va_S (gF G) s.heap H locs → ∀ {ls : Array Slot}, lv_has ls 4 [(0, .ref (gA G 0)), (1, .ref (gA G q1)), (2, .int x2), (3, .int x3)] → W p l e (RM 4 92 0 0) s m args below meth c H locs 0 0 (vx_MQ below (QCr G lo (r, σ)) (XCr G lo (r, σ)) args s 0 0 (gF G)) (F0 m 4 ls []) := by
  obtain ⟨hx, hb, hrt, hml, hown, hts, hlocks, hC, htab, hst⟩ := id F
  intro n
  induction n with
  | zero =>
    intro x2 x3 r hm
    simp only [f_X3_secondsOf_4] at hm
    cases hm
  | succ n ih =>
    intro x2 x3 r hm H locs hP hS ls hl
    rw [f_X3_secondsOf_4] at hm
    refine lv_iload_n hx hb dX3_secondsOf_4 rfl (lv_at hl 3 rfl) ?_
    refine lv_aload_n hx hb dX3_secondsOf_5 rfl (lv_at hl 1 rfl) ?_
    refine xgN F 1 inX2 hP (kd_k k1 (by decide)) (wc2 k1) rfl (by decide) tn_14 rfl rfl dX3_secondsOf_6 ?_
    refine lv_icmp_ge (tgt := 35) hx hb dX3_secondsOf_9 (by decide) (fun b1 => ?_) (fun b1 => ?_)
    · rw [if_pos b1] at hm
      refine lv_iload_n hx hb dX3_secondsOf_35 rfl (lv_at hl 2 rfl) ?_
      refine lv_aload_n hx hb dX3_secondsOf_36 rfl (lv_at hl 0 rfl) ?_
      refine lv_aload_n hx hb dX3_secondsOf_37 rfl (lv_at hl 1 rfl) ?_
      obtain ⟨x2_, h2, hm⟩ := ri_inv hm
      refine xV F (c_X3_savedOf k1 h2) tk_159 tk_156 tk_158 tu_4 tk_1 rfl 1 (by decide +kernel) rfl ⟨Nat.le_of_ble_eq_true rfl, Nat.le_of_ble_eq_true rfl⟩ hP hS (kd_k kdc_0 (by decide)) (wc3 kdc_0) rfl hl.1 rfl (Nat.le_of_ble_eq_true rfl) dX3_secondsOf_38 ⟨Nat.le_of_ble_eq_true rfl, Nat.le_of_ble_eq_true rfl⟩ (fun v hv H locs hP hS => ?_) (fun E hE => by cases hE)
      cases hv
      replace hP : va_P (gD G) vwCl (wld G lo σ) H := hP
      refine W.eq (g2 := F0 m 41 ls [.int x2_, .int x2]) rfl ?_
      refine lv_isub hx hb dX3_secondsOf_41 ?_
      exact xir F hP hS (congrArg (fun z => (z, σ)) (Option.some.inj hm).symm) (by decide) (by decide) dX3_secondsOf_42
    · rw [if_neg b1] at hm
      refine lv_iload_n hx hb dX3_secondsOf_12 rfl (lv_at hl 2 rfl) ?_
      refine lv_aload_n hx hb dX3_secondsOf_13 rfl (lv_at hl 0 rfl) ?_
      refine xg F 3 inX3 hP (kd_k kdc_0 (by decide)) (wc3 kdc_0) rfl (by decide) tk_114 rfl rfl dX3_secondsOf_14 ?_
      refine lv_aload_n hx hb dX3_secondsOf_17 rfl (lv_at hl 1 rfl) ?_
      refine xgN F 0 inX2 hP (kd_k k1 (by decide)) (wc2 k1) rfl (by decide) tn_13 rfl rfl dX3_secondsOf_18 ?_
      refine lv_iload_n hx hb dX3_secondsOf_21 rfl (lv_at hl 3 rfl) ?_
      by_cases b3 : (x3 < 0 ∨ 16 ≤ x3.toNatClampNeg)
      · rw [if_pos b3] at hm
        cases hm
      · rw [if_neg b3] at hm
        refine xil F hP ((kd_wavA _ k1).1) ((kd_wavA _ k1).2) b3 dX3_secondsOf_22 ?_
        by_cases b4 : ((σ (q1 + 1) x3.toNatClampNeg) < 0 ∨ 16 ≤ (σ (q1 + 1) x3.toNatClampNeg).toNatClampNeg)
        · rw [if_pos b4] at hm
          cases hm
        · rw [if_neg b4] at hm
          refine xol F hP kdc_6 b4 dX3_secondsOf_23 ?_
          refine xgN F 2 inX1 hP (kd_k (kd_ord b4) (by decide)) (wc1 (kd_ord b4)) rfl (by decide) tn_5 rfl rfl dX3_secondsOf_24 ?_
          refine lv_iadd hx hb dX3_secondsOf_27 ?_
          refine lv_istore_n (lv' := [(2, .int (x2 + (σ (26 + 2 * (σ (q1 + 1) x3.toNatClampNeg).toNatClampNeg) 2))), (0, .ref (gA G 0)), (1, .ref (gA G q1)), (3, .int x3)]) hx hb dX3_secondsOf_28 rfl hl (by decide) rfl (fun ls hl => ?_)
          refine lv_iinc (v := (x3 + 1)) (lv' := [(3, .int (x3 + 1)), (2, .int (x2 + (σ (26 + 2 * (σ (q1 + 1) x3.toNatClampNeg).toNatClampNeg) 2))), (0, .ref (gA G 0)), (1, .ref (gA G q1))]) hx hb dX3_secondsOf_29 hl (k := 3) rfl rfl (by decide) rfl (fun ls hl => ?_)
          refine lv_goto (tgt := 4) hx hb dX3_secondsOf_32 (by decide) ?_
          exact ih hm hP hS (lv_sub hl [2, 3, 1, 0] rfl)
def f_X3_secondsOf (σ : St) (q1 : Nat) : Option RV :=
  f_X3_secondsOf_4 σ q1 40 0 0
set_option maxHeartbeats 4000000 in
set_option maxRecDepth 100000 in
theorem c_X3_secondsOf {l : Launch} {G : GT} {σ : St} {q1 : Nat} (k1 : kd q1 = 2) {r : RV} (hm : f_X3_secondsOf σ q1 = some r) : MC l G yX3_secondsOf cX3_secondsOf 4 (some .int) 4 92 0 0 [.inr 0, .inr q1] σ (r, σ) := by
  refine xbody (by decide) (Nat.le_of_ble_eq_true rfl) ?_
  intro lo p e s m args below meth c F hP ls hl
  have F : Fx p l s args m meth c G cX3_secondsOf 4 (some .int) RX3 := F
  obtain ⟨hx, hb, hrt, hml, hown, hts, hlocks, hC, htab, hst⟩ := id F
  have hS : va_S (gF G) s.heap s.heap [] := va_S.rf
  have hl : lv_has ls 4 [(0, .ref (gA G 0)), (1, .ref (gA G q1))] := hl
  unfold f_X3_secondsOf at hm
  refine lv_iconst (v := 0) hx hb dX3_secondsOf_0 (by decide) ?_
  refine lv_istore_n (lv' := [(2, .int 0), (0, .ref (gA G 0)), (1, .ref (gA G q1))]) hx hb dX3_secondsOf_1 rfl hl (by decide) rfl (fun ls hl => ?_)
  refine lv_iconst (v := 0) hx hb dX3_secondsOf_2 (by decide) ?_
  refine lv_istore_n (lv' := [(3, .int 0), (2, .int 0), (0, .ref (gA G 0)), (1, .ref (gA G q1))]) hx hb dX3_secondsOf_3 rfl hl (by decide) rfl (fun ls hl => ?_)
  exact w_X3_secondsOf_4 F k1 40 hm hP hS (lv_sub hl [2, 3, 1, 0] rfl)
/-! ===== X3_dueOf ===== -/
def f_X3_dueOf_5 (σ : St) (q1 : Nat) : Nat → Int32 → Int32 → Option RV
  | 0, _, _ => none
  | n + 1, x2, x3 =>
    if (σ q1 1) ≤ x3 then
      some (.inl (some (.inl x2)))
    else
      if x3 < 0 ∨ 16 ≤ x3.toNatClampNeg then none
      else
        if (σ (q1 + 1) x3.toNatClampNeg) < 0 ∨ 16 ≤ (σ (q1 + 1) x3.toNatClampNeg).toNatClampNeg then none
        else
          f_X3_dueOf_5 σ q1 n (if (σ (26 + 2 * (σ (q1 + 1) x3.toNatClampNeg).toNatClampNeg) 0) < x2 then (σ (26 + 2 * (σ (q1 + 1) x3.toNatClampNeg).toNatClampNeg) 0) else x2) (x3 + 1)
set_option maxHeartbeats 4000000 in
set_option maxRecDepth 100000 in
theorem w_X3_dueOf_5 {p : Program} {l : Launch} {e : Env} {s : State} {m : MethodId} {args : Array Value} {below : List Frame} {meth : Method} {c : Code} {G : GT} {lo : Nat → Int64} (F : Fx p l s args m meth c G cX3_dueOf 4 (some .int) RX3) {σ : St} {q1 : Nat} (k1 : kd q1 = 2) : ∀ (n : Nat) {x2 : Int32} {x3 : Int32} {r : RV}, f_X3_dueOf_5 σ q1 n x2 x3 = some r → ∀ {H : Heap} {locs : List Loc}, va_P (gD G) vwCl (wld G lo σ) H → va_S (gF G) s.heap H locs → ∀ {ls : Array Slot}, lv_has ls 4 [(0, .ref (gA G 0)), (1, .ref (gA G q1)), (2, .int x2), (3, .int x3)] → W p l e (RM 1 21 0 0) s m args below meth c H locs 0 0 (vx_MQ below (QCr G lo (r, σ)) (XCr G lo (r, σ)) args s 0 0 (gF G)) (F0 m 5 ls []) := by
  obtain ⟨hx, hb, hrt, hml, hown, hts, hlocks, hC, htab, hst⟩ := id F
  intro n
  induction n with
  | zero =>
    intro x2 x3 r hm
    simp only [f_X3_dueOf_5] at hm
    cases hm
  | succ n ih =>
    intro x2 x3 r hm H locs hP hS ls hl
    rw [f_X3_dueOf_5] at hm
    refine lv_iload_n hx hb dX3_dueOf_5 rfl (lv_at hl 3 rfl) ?_
    refine lv_aload_n hx hb dX3_dueOf_6 rfl (lv_at hl 1 rfl) ?_
    refine xgN F 1 inX2 hP (kd_k k1 (by decide)) (wc2 k1) rfl (by decide) tn_14 rfl rfl dX3_dueOf_7 ?_
    refine lv_icmp_ge (tgt := 38) hx hb dX3_dueOf_10 (by decide) (fun b1 => ?_) (fun b1 => ?_)
    · rw [if_pos b1] at hm
      refine lv_iload_n hx hb dX3_dueOf_38 rfl (lv_at hl 2 rfl) ?_
      exact xir F hP hS (congrArg (fun z => (z, σ)) (Option.some.inj hm).symm) (by decide) (by decide) dX3_dueOf_39
    · rw [if_neg b1] at hm
      refine lv_iload_n hx hb dX3_dueOf_13 rfl (lv_at hl 2 rfl) ?_
      refine lv_aload_n hx hb dX3_dueOf_14 rfl (lv_at hl 0 rfl) ?_
      refine xg F 3 inX3 hP (kd_k kdc_0 (by decide)) (wc3 kdc_0) rfl (by decide) tk_114 rfl rfl dX3_dueOf_15 ?_
      refine lv_aload_n hx hb dX3_dueOf_18 rfl (lv_at hl 1 rfl) ?_
      refine xgN F 0 inX2 hP (kd_k k1 (by decide)) (wc2 k1) rfl (by decide) tn_13 rfl rfl dX3_dueOf_19 ?_
      refine lv_iload_n hx hb dX3_dueOf_22 rfl (lv_at hl 3 rfl) ?_
      by_cases b2 : (x3 < 0 ∨ 16 ≤ x3.toNatClampNeg)
      · rw [if_pos b2] at hm
        cases hm
      · rw [if_neg b2] at hm
        refine xil F hP ((kd_wavA _ k1).1) ((kd_wavA _ k1).2) b2 dX3_dueOf_23 ?_
        by_cases b3 : ((σ (q1 + 1) x3.toNatClampNeg) < 0 ∨ 16 ≤ (σ (q1 + 1) x3.toNatClampNeg).toNatClampNeg)
        · rw [if_pos b3] at hm
          cases hm
        · rw [if_neg b3] at hm
          refine xol F hP kdc_6 b3 dX3_dueOf_24 ?_
          refine xgN F 0 inX1 hP (kd_k (kd_ord b3) (by decide)) (wc1 (kd_ord b3)) rfl (by decide) tn_3 rfl rfl dX3_dueOf_25 ?_
          refine xmn F tk_23 tk_24 tk_2 tk_25 hl.1 (by decide) (Nat.le_of_ble_eq_true rfl) (by decide) (by decide) dX3_dueOf_28 ?_
          refine lv_istore_n (lv' := [(2, .int (if (σ (26 + 2 * (σ (q1 + 1) x3.toNatClampNeg).toNatClampNeg) 0) < x2 then (σ (26 + 2 * (σ (q1 + 1) x3.toNatClampNeg).toNatClampNeg) 0) else x2)), (0, .ref (gA G 0)), (1, .ref (gA G q1)), (3, .int x3)]) hx hb dX3_dueOf_31 rfl hl (by decide) rfl (fun ls hl => ?_)
          refine lv_iinc (v := (x3 + 1)) (lv' := [(3, .int (x3 + 1)), (2, .int (if (σ (26 + 2 * (σ (q1 + 1) x3.toNatClampNeg).toNatClampNeg) 0) < x2 then (σ (26 + 2 * (σ (q1 + 1) x3.toNatClampNeg).toNatClampNeg) 0) else x2)), (0, .ref (gA G 0)), (1, .ref (gA G q1))]) hx hb dX3_dueOf_32 hl (k := 3) rfl rfl (by decide) rfl (fun ls hl => ?_)
          refine lv_goto (tgt := 5) hx hb dX3_dueOf_35 (by decide) ?_
          exact ih hm hP hS (lv_sub hl [2, 3, 1, 0] rfl)
def f_X3_dueOf (σ : St) (q1 : Nat) : Option RV :=
  f_X3_dueOf_5 σ q1 40 100000 0
set_option maxHeartbeats 4000000 in
set_option maxRecDepth 100000 in
theorem c_X3_dueOf {l : Launch} {G : GT} {σ : St} {q1 : Nat} (k1 : kd q1 = 2) {r : RV} (hm : f_X3_dueOf σ q1 = some r) : MC l G yX3_dueOf cX3_dueOf 4 (some .int) 1 21 0 0 [.inr 0, .inr q1] σ (r, σ) := by
  refine xbody (by decide) (Nat.le_of_ble_eq_true rfl) ?_
  intro lo p e s m args below meth c F hP ls hl
  have F : Fx p l s args m meth c G cX3_dueOf 4 (some .int) RX3 := F
  obtain ⟨hx, hb, hrt, hml, hown, hts, hlocks, hC, htab, hst⟩ := id F
  have hS : va_S (gF G) s.heap s.heap [] := va_S.rf
  have hl : lv_has ls 4 [(0, .ref (gA G 0)), (1, .ref (gA G q1))] := hl
  unfold f_X3_dueOf at hm
  refine lv_ldc (v := 100000) hx hb hown (hts _ tk_184) dX3_dueOf_0 ?_
  refine lv_istore_n (lv' := [(2, .int 100000), (0, .ref (gA G 0)), (1, .ref (gA G q1))]) hx hb dX3_dueOf_2 rfl hl (by decide) rfl (fun ls hl => ?_)
  refine lv_iconst (v := 0) hx hb dX3_dueOf_3 (by decide) ?_
  refine lv_istore_n (lv' := [(3, .int 0), (2, .int 100000), (0, .ref (gA G 0)), (1, .ref (gA G q1))]) hx hb dX3_dueOf_4 rfl hl (by decide) rfl (fun ls hl => ?_)
  exact w_X3_dueOf_5 F k1 40 hm hP hS (lv_sub hl [2, 3, 1, 0] rfl)
/-! ===== X3_finishedOf ===== -/
def f_X3_finishedOf_4 (σ : St) (q1 : Nat) : Nat → Int32 → Int32 → Option RV
  | 0, _, _ => none
  | n + 1, x2, x3 =>
    if (σ q1 1) ≤ x3 then
      some (.inl (some (.inl x2)))
    else
      if x3 < 0 ∨ 16 ≤ x3.toNatClampNeg then none
      else
        if (σ (q1 + 1) x3.toNatClampNeg) < 0 ∨ 16 ≤ (σ (q1 + 1) x3.toNatClampNeg).toNatClampNeg then none
        else
          if (σ (26 + 2 * (σ (q1 + 1) x3.toNatClampNeg).toNatClampNeg) 7) = 0 then
            f_X3_finishedOf_4 σ q1 n x2 (x3 + 1)
          else
            f_X3_finishedOf_4 σ q1 n (x2 + 1) (x3 + 1)
set_option maxHeartbeats 4000000 in
set_option maxRecDepth 100000 in
theorem w_X3_finishedOf_4 {p : Program} {l : Launch} {e : Env} {s : State} {m : MethodId} {args : Array Value} {below : List Frame} {meth : Method} {c : Code} {G : GT} {lo : Nat → Int64} (F : Fx p l s args m meth c G cX3_finishedOf 4 (some .int) RX3) {σ : St} {q1 : Nat} (k1 : kd q1 = 2) : ∀ (n : Nat) {x2 : Int32} {x3 : Int32} {r : RV}, f_X3_finishedOf_4 σ q1 n x2 x3 = some r → ∀ {H : Heap} {locs : List Loc}, va_P (gD G) vwCl (wld G lo σ) H → va_S (gF G) s.heap H locs → ∀ {ls : Array Slot}, lv_has ls 4 [(0, .ref (gA G 0)), (1, .ref (gA G q1)), (2, .int x2), (3, .int x3)] → W p l e (RM 0 0 0 0) s m args below meth c H locs 0 0 (vx_MQ below (QCr G lo (r, σ)) (XCr G lo (r, σ)) args s 0 0 (gF G)) (F0 m 4 ls []) := by
  obtain ⟨hx, hb, hrt, hml, hown, hts, hlocks, hC, htab, hst⟩ := id F
  intro n
  induction n with
  | zero =>
    intro x2 x3 r hm
    simp only [f_X3_finishedOf_4] at hm
    cases hm
  | succ n ih =>
    intro x2 x3 r hm H locs hP hS ls hl
    rw [f_X3_finishedOf_4] at hm
    refine lv_iload_n hx hb dX3_finishedOf_4 rfl (lv_at hl 3 rfl) ?_
    refine lv_aload_n hx hb dX3_finishedOf_5 rfl (lv_at hl 1 rfl) ?_
    refine xgN F 1 inX2 hP (kd_k k1 (by decide)) (wc2 k1) rfl (by decide) tn_14 rfl rfl dX3_finishedOf_6 ?_
    refine lv_icmp_ge (tgt := 38) hx hb dX3_finishedOf_9 (by decide) (fun b1 => ?_) (fun b1 => ?_)
    · rw [if_pos b1] at hm
      refine lv_iload_n hx hb dX3_finishedOf_38 rfl (lv_at hl 2 rfl) ?_
      exact xir F hP hS (congrArg (fun z => (z, σ)) (Option.some.inj hm).symm) (by decide) (by decide) dX3_finishedOf_39
    · rw [if_neg b1] at hm
      refine lv_aload_n hx hb dX3_finishedOf_12 rfl (lv_at hl 0 rfl) ?_
      refine xg F 3 inX3 hP (kd_k kdc_0 (by decide)) (wc3 kdc_0) rfl (by decide) tk_114 rfl rfl dX3_finishedOf_13 ?_
      refine lv_aload_n hx hb dX3_finishedOf_16 rfl (lv_at hl 1 rfl) ?_
      refine xgN F 0 inX2 hP (kd_k k1 (by decide)) (wc2 k1) rfl (by decide) tn_13 rfl rfl dX3_finishedOf_17 ?_
      refine lv_iload_n hx hb dX3_finishedOf_20 rfl (lv_at hl 3 rfl) ?_
      by_cases b2 : (x3 < 0 ∨ 16 ≤ x3.toNatClampNeg)
      · rw [if_pos b2] at hm
        cases hm
      · rw [if_neg b2] at hm
        refine xil F hP ((kd_wavA _ k1).1) ((kd_wavA _ k1).2) b2 dX3_finishedOf_21 ?_
        by_cases b3 : ((σ (q1 + 1) x3.toNatClampNeg) < 0 ∨ 16 ≤ (σ (q1 + 1) x3.toNatClampNeg).toNatClampNeg)
        · rw [if_pos b3] at hm
          cases hm
        · rw [if_neg b3] at hm
          refine xol F hP kdc_6 b3 dX3_finishedOf_22 ?_
          refine xgN F 7 inX1 hP (kd_k (kd_ord b3) (by decide)) (wc1 (kd_ord b3)) rfl (by decide) tn_10 rfl rfl dX3_finishedOf_23 ?_
          refine lv_if_eq (tgt := 32) hx hb dX3_finishedOf_26 (by decide) (fun b4 => ?_) (fun b4 => ?_)
          · rw [if_pos b4] at hm
            refine lv_iinc (v := (x3 + 1)) (lv' := [(3, .int (x3 + 1)), (0, .ref (gA G 0)), (1, .ref (gA G q1)), (2, .int x2)]) hx hb dX3_finishedOf_32 hl (k := 3) rfl rfl (by decide) rfl (fun ls hl => ?_)
            refine lv_goto (tgt := 4) hx hb dX3_finishedOf_35 (by decide) ?_
            exact ih hm hP hS (lv_sub hl [1, 2, 3, 0] rfl)
          · rw [if_neg b4] at hm
            refine lv_iinc (v := (x2 + 1)) (lv' := [(2, .int (x2 + 1)), (0, .ref (gA G 0)), (1, .ref (gA G q1)), (3, .int x3)]) hx hb dX3_finishedOf_29 hl (k := 2) rfl rfl (by decide) rfl (fun ls hl => ?_)
            refine lv_iinc (v := (x3 + 1)) (lv' := [(3, .int (x3 + 1)), (2, .int (x2 + 1)), (0, .ref (gA G 0)), (1, .ref (gA G q1))]) hx hb dX3_finishedOf_32 hl (k := 3) rfl rfl (by decide) rfl (fun ls hl => ?_)
            refine lv_goto (tgt := 4) hx hb dX3_finishedOf_35 (by decide) ?_
            exact ih hm hP hS (lv_sub hl [2, 3, 1, 0] rfl)
def f_X3_finishedOf (σ : St) (q1 : Nat) : Option RV :=
  f_X3_finishedOf_4 σ q1 40 0 0
set_option maxHeartbeats 4000000 in
set_option maxRecDepth 100000 in
theorem c_X3_finishedOf {l : Launch} {G : GT} {σ : St} {q1 : Nat} (k1 : kd q1 = 2) {r : RV} (hm : f_X3_finishedOf σ q1 = some r) : MC l G yX3_finishedOf cX3_finishedOf 4 (some .int) 0 0 0 0 [.inr 0, .inr q1] σ (r, σ) := by
  refine xbody (by decide) (Nat.le_of_ble_eq_true rfl) ?_
  intro lo p e s m args below meth c F hP ls hl
  have F : Fx p l s args m meth c G cX3_finishedOf 4 (some .int) RX3 := F
  obtain ⟨hx, hb, hrt, hml, hown, hts, hlocks, hC, htab, hst⟩ := id F
  have hS : va_S (gF G) s.heap s.heap [] := va_S.rf
  have hl : lv_has ls 4 [(0, .ref (gA G 0)), (1, .ref (gA G q1))] := hl
  unfold f_X3_finishedOf at hm
  refine lv_iconst (v := 0) hx hb dX3_finishedOf_0 (by decide) ?_
  refine lv_istore_n (lv' := [(2, .int 0), (0, .ref (gA G 0)), (1, .ref (gA G q1))]) hx hb dX3_finishedOf_1 rfl hl (by decide) rfl (fun ls hl => ?_)
  refine lv_iconst (v := 0) hx hb dX3_finishedOf_2 (by decide) ?_
  refine lv_istore_n (lv' := [(3, .int 0), (2, .int 0), (0, .ref (gA G 0)), (1, .ref (gA G q1))]) hx hb dX3_finishedOf_3 rfl hl (by decide) rfl (fun ls hl => ?_)
  exact w_X3_finishedOf_4 F k1 40 hm hP hS (lv_sub hl [2, 3, 1, 0] rfl)
/-! ===== X3_told ===== -/
def f_X3_told (σ : St) (x1 : Int32) (x2 : Int32) : Option RV :=
  qp (f_X3_requireWave σ x1) (fun E => some (.inr E)) (fun q1_ =>
    if kd q1_ = 2 then
      if x2 = 0 then
        ri (f_X3_secondsOf σ q1_) (fun x3_ =>
          some (.inl (some (.inl x3_))))
      else
        if x2 = 1 then
          ri (f_X3_savedOf σ q1_) (fun x5_ =>
            some (.inl (some (.inl x5_))))
        else
          if x2 = 2 then
            some (.inl (some (.inl (σ q1_ 1))))
          else
            if x2 = 3 then
              ri (f_X3_dueOf σ q1_) (fun x8_ =>
                some (.inl (some (.inl x8_))))
            else
              if x2 = 4 then
                some (.inl (some (.inl (σ q1_ 2))))
              else
                if x2 = 5 then
                  if (σ q1_ 3) = 0 then
                    some (.inl (some (.inl 0)))
                  else
                    some (.inl (some (.inl 1)))
                else
                  if x2 = 6 then
                    ri (f_X3_finishedOf σ q1_) (fun x13_ =>
                      some (.inl (some (.inl x13_))))
                  else
                    some (.inr "java/lang/IllegalArgumentException")
    else none)
set_option maxHeartbeats 4000000 in
set_option maxRecDepth 100000 in
theorem c_X3_told {l : Launch} {G : GT} {σ : St} {x1 : Int32} {x2 : Int32} {r : RV} (hm : f_X3_told σ x1 x2 = some r) : MC l G yX3_told cX3_told 4 (some .int) 7 115 2 12 [.inr 0, .inl x1, .inl x2] σ (r, σ) := by
  refine xbody (by decide) (Nat.le_of_ble_eq_true rfl) ?_
  intro lo p e s m args below meth c F hP ls hl
  have F : Fx p l s args m meth c G cX3_told 4 (some .int) RX3 := F
  obtain ⟨hx, hb, hrt, hml, hown, hts, hlocks, hC, htab, hst⟩ := id F
  have hS : va_S (gF G) s.heap s.heap [] := va_S.rf
  have hl : lv_has ls 4 [(0, .ref (gA G 0)), (1, .int x1), (2, .int x2)] := hl
  unfold f_X3_told at hm
  refine lv_aload_n hx hb dX3_told_0 rfl (lv_at hl 0 rfl) ?_
  refine lv_iload_n hx hb dX3_told_1 rfl (lv_at hl 1 rfl) ?_
  rcases qp_inv hm with ⟨q1_, h1, hm⟩ | ⟨E1, h1, hm⟩
  · refine xV F (c_X3_requireWave h1) tk_418 tk_415 tk_417 tu_21 tk_1 rfl 1 (by decide +kernel) rfl ⟨Nat.le_of_ble_eq_true rfl, Nat.le_of_ble_eq_true rfl⟩ hP hS (kd_k kdc_0 (by decide)) (wc3 kdc_0) rfl hl.1 rfl (Nat.le_of_ble_eq_true rfl) dX3_told_2 ⟨Nat.le_of_ble_eq_true rfl, Nat.le_of_ble_eq_true rfl⟩ (fun v hv H locs hP hS => ?_) (fun E hE => by cases hE)
    cases hv
    replace hP : va_P (gD G) vwCl (wld G lo σ) H := hP
    refine W.eq (g2 := F0 m 5 ls [.ref (gA G q1_)]) rfl ?_
    by_cases k1_ : kd q1_ = 2
    · rw [if_pos k1_] at hm
      refine lv_astore_n (lv' := [(3, .ref (gA G q1_)), (0, .ref (gA G 0)), (1, .int x1), (2, .int x2)]) hx hb dX3_told_5 rfl hl (by decide) rfl (fun ls hl => ?_)
      refine lv_iload_n hx hb dX3_told_6 rfl (lv_at hl 3 rfl) ?_
      by_cases b2 : x2 = 0
      · rw [if_pos b2] at hm
        refine lv_tableIn (off := 41) (tgt := 48) hx hb dX3_told_7 (by rw [b2]; decide) (by rw [b2]; decide) (by rw [b2]; rfl) (by decide) ?_
        refine lv_aload_n hx hb dX3_told_48 rfl (lv_at hl 1 rfl) ?_
        refine lv_aload_n hx hb dX3_told_49 rfl (lv_at hl 0 rfl) ?_
        obtain ⟨x3_, h3, hm⟩ := ri_inv hm
        refine xV F (c_X3_secondsOf k1_ h3) tk_423 tk_420 tk_422 tu_22 tk_1 rfl 1 (by decide +kernel) rfl ⟨Nat.le_of_ble_eq_true rfl, Nat.le_of_ble_eq_true rfl⟩ hP hS (kd_k kdc_0 (by decide)) (wc3 kdc_0) rfl hl.1 rfl (Nat.le_of_ble_eq_true rfl) dX3_told_50 ⟨Nat.le_of_ble_eq_true rfl, Nat.le_of_ble_eq_true rfl⟩ (fun v hv H locs hP hS => ?_) (fun E hE => by cases hE)
        cases hv
        replace hP : va_P (gD G) vwCl (wld G lo σ) H := hP
        refine W.eq (g2 := F0 m 53 ls [.int x3_]) rfl ?_
        exact xir F hP hS (congrArg (fun z => (z, σ)) (Option.some.inj hm).symm) (by decide) (by decide) dX3_told_53
      · rw [if_neg b2] at hm
        by_cases b4 : x2 = 1
        · rw [if_pos b4] at hm
          refine lv_tableIn (off := 47) (tgt := 54) hx hb dX3_told_7 (by rw [b4]; decide) (by rw [b4]; decide) (by rw [b4]; rfl) (by decide) ?_
          refine lv_aload_n hx hb dX3_told_54 rfl (lv_at hl 1 rfl) ?_
          refine lv_aload_n hx hb dX3_told_55 rfl (lv_at hl 0 rfl) ?_
          obtain ⟨x5_, h5, hm⟩ := ri_inv hm
          refine xV F (c_X3_savedOf k1_ h5) tk_159 tk_156 tk_158 tu_4 tk_1 rfl 1 (by decide +kernel) rfl ⟨Nat.le_of_ble_eq_true rfl, Nat.le_of_ble_eq_true rfl⟩ hP hS (kd_k kdc_0 (by decide)) (wc3 kdc_0) rfl hl.1 rfl (Nat.le_of_ble_eq_true rfl) dX3_told_56 ⟨Nat.le_of_ble_eq_true rfl, Nat.le_of_ble_eq_true rfl⟩ (fun v hv H locs hP hS => ?_) (fun E hE => by cases hE)
          cases hv
          replace hP : va_P (gD G) vwCl (wld G lo σ) H := hP
          refine W.eq (g2 := F0 m 59 ls [.int x5_]) rfl ?_
          exact xir F hP hS (congrArg (fun z => (z, σ)) (Option.some.inj hm).symm) (by decide) (by decide) dX3_told_59
        · rw [if_neg b4] at hm
          by_cases b6 : x2 = 2
          · rw [if_pos b6] at hm
            refine lv_tableIn (off := 53) (tgt := 60) hx hb dX3_told_7 (by rw [b6]; decide) (by rw [b6]; decide) (by rw [b6]; rfl) (by decide) ?_
            refine lv_aload_n hx hb dX3_told_60 rfl (lv_at hl 0 rfl) ?_
            refine xgN F 1 inX2 hP (kd_k k1_ (by decide)) (wc2 k1_) rfl (by decide) tn_14 rfl rfl dX3_told_61 ?_
            exact xir F hP hS (congrArg (fun z => (z, σ)) (Option.some.inj hm).symm) (by decide) (by decide) dX3_told_64
          · rw [if_neg b6] at hm
            by_cases b7 : x2 = 3
            · rw [if_pos b7] at hm
              refine lv_tableIn (off := 58) (tgt := 65) hx hb dX3_told_7 (by rw [b7]; decide) (by rw [b7]; decide) (by rw [b7]; rfl) (by decide) ?_
              refine lv_aload_n hx hb dX3_told_65 rfl (lv_at hl 1 rfl) ?_
              refine lv_aload_n hx hb dX3_told_66 rfl (lv_at hl 0 rfl) ?_
              obtain ⟨x8_, h8, hm⟩ := ri_inv hm
              refine xV F (c_X3_dueOf k1_ h8) tk_427 tk_424 tk_426 tu_23 tk_1 rfl 1 (by decide +kernel) rfl ⟨Nat.le_of_ble_eq_true rfl, Nat.le_of_ble_eq_true rfl⟩ hP hS (kd_k kdc_0 (by decide)) (wc3 kdc_0) rfl hl.1 rfl (Nat.le_of_ble_eq_true rfl) dX3_told_67 ⟨Nat.le_of_ble_eq_true rfl, Nat.le_of_ble_eq_true rfl⟩ (fun v hv H locs hP hS => ?_) (fun E hE => by cases hE)
              cases hv
              replace hP : va_P (gD G) vwCl (wld G lo σ) H := hP
              refine W.eq (g2 := F0 m 70 ls [.int x8_]) rfl ?_
              exact xir F hP hS (congrArg (fun z => (z, σ)) (Option.some.inj hm).symm) (by decide) (by decide) dX3_told_70
            · rw [if_neg b7] at hm
              by_cases b9 : x2 = 4
              · rw [if_pos b9] at hm
                refine lv_tableIn (off := 64) (tgt := 71) hx hb dX3_told_7 (by rw [b9]; decide) (by rw [b9]; decide) (by rw [b9]; rfl) (by decide) ?_
                refine lv_aload_n hx hb dX3_told_71 rfl (lv_at hl 0 rfl) ?_
                refine xgN F 2 inX2 hP (kd_k k1_ (by decide)) (wc2 k1_) rfl (by decide) tn_15 rfl rfl dX3_told_72 ?_
                exact xir F hP hS (congrArg (fun z => (z, σ)) (Option.some.inj hm).symm) (by decide) (by decide) dX3_told_75
              · rw [if_neg b9] at hm
                by_cases b10 : x2 = 5
                · rw [if_pos b10] at hm
                  refine lv_tableIn (off := 69) (tgt := 76) hx hb dX3_told_7 (by rw [b10]; decide) (by rw [b10]; decide) (by rw [b10]; rfl) (by decide) ?_
                  refine lv_aload_n hx hb dX3_told_76 rfl (lv_at hl 0 rfl) ?_
                  refine xgN F 3 inX2 hP (kd_k k1_ (by decide)) (wc2 k1_) rfl (by decide) tn_16 rfl rfl dX3_told_77 ?_
                  refine lv_if_eq (tgt := 87) hx hb dX3_told_80 (by decide) (fun b11 => ?_) (fun b11 => ?_)
                  · rw [if_pos b11] at hm
                    refine lv_iconst (v := 0) hx hb dX3_told_87 (by decide) ?_
                    exact xir F hP hS (congrArg (fun z => (z, σ)) (Option.some.inj hm).symm) (by decide) (by decide) dX3_told_88
                  · rw [if_neg b11] at hm
                    refine lv_iconst (v := 1) hx hb dX3_told_83 (by decide) ?_
                    refine lv_goto (tgt := 88) hx hb dX3_told_84 (by decide) ?_
                    exact xir F hP hS (congrArg (fun z => (z, σ)) (Option.some.inj hm).symm) (by decide) (by decide) dX3_told_88
                · rw [if_neg b10] at hm
                  by_cases b12 : x2 = 6
                  · rw [if_pos b12] at hm
                    refine lv_tableIn (off := 82) (tgt := 89) hx hb dX3_told_7 (by rw [b12]; decide) (by rw [b12]; decide) (by rw [b12]; rfl) (by decide) ?_
                    refine lv_aload_n hx hb dX3_told_89 rfl (lv_at hl 1 rfl) ?_
                    refine lv_aload_n hx hb dX3_told_90 rfl (lv_at hl 0 rfl) ?_
                    obtain ⟨x13_, h13, hm⟩ := ri_inv hm
                    refine xV F (c_X3_finishedOf k1_ h13) tk_431 tk_428 tk_430 tu_24 tk_1 rfl 1 (by decide +kernel) rfl ⟨Nat.le_of_ble_eq_true rfl, Nat.le_of_ble_eq_true rfl⟩ hP hS (kd_k kdc_0 (by decide)) (wc3 kdc_0) rfl hl.1 rfl (Nat.le_of_ble_eq_true rfl) dX3_told_91 ⟨Nat.le_of_ble_eq_true rfl, Nat.le_of_ble_eq_true rfl⟩ (fun v hv H locs hP hS => ?_) (fun E hE => by cases hE)
                    cases hv
                    replace hP : va_P (gD G) vwCl (wld G lo σ) H := hP
                    refine W.eq (g2 := F0 m 94 ls [.int x13_]) rfl ?_
                    exact xir F hP hS (congrArg (fun z => (z, σ)) (Option.some.inj hm).symm) (by decide) (by decide) dX3_told_94
                  · rw [if_neg b12] at hm
                    have z0 := lv_neT b2 (a := 0) rfl
                    have z1 := lv_neT b4 (a := 1) rfl
                    have z2 := lv_neT b6 (a := 2) rfl
                    have z3 := lv_neT b7 (a := 3) rfl
                    have z4 := lv_neT b9 (a := 4) rfl
                    have z5 := lv_neT b10 (a := 5) rfl
                    have z6 := lv_neT b12 (a := 6) rfl
                    refine lv_tableOut (tgt := 95) hx hb dX3_told_7 (by omega) (by decide) ?_
                    exact xthr F hP hS (congrArg (fun z => (z, σ)) (Option.some.inj hm).symm) (by decide) (by decide) hl.1 (by decide +kernel) tk_188 tk_10 (List.mem_of_getElem? (i := 9) rfl) xt_158_1 xt_158_2 xt_158_154 dX3_told_95 dX3_told_98 dX3_told_99 dX3_told_101 dX3_told_104 (Nat.le_of_ble_eq_true rfl) (Nat.le_of_ble_eq_true rfl) (Nat.le_of_ble_eq_true rfl) (Nat.le_of_ble_eq_true rfl)
    · rw [if_neg k1_] at hm
      cases hm
  · refine xV F (c_X3_requireWave h1) tk_418 tk_415 tk_417 tu_21 tk_1 rfl 1 (by decide +kernel) rfl ⟨Nat.le_of_ble_eq_true rfl, Nat.le_of_ble_eq_true rfl⟩ hP hS (kd_k kdc_0 (by decide)) (wc3 kdc_0) rfl hl.1 rfl (Nat.le_of_ble_eq_true rfl) dX3_told_2 ⟨Nat.le_of_ble_eq_true rfl, Nat.le_of_ble_eq_true rfl⟩ (fun v hv => by cases hv) (fun E hE H locs q9 ce hP hS e1 e2 e3 => ?_)
    cases hE
    exact xto F hP hS (congrArg (fun z => (z, σ)) (Option.some.inj hm).symm) (by decide) (by decide) e1 e2 e3
/-! ===== X3_member ===== -/
def f_X3_member (σ : St) (x1 : Int32) (x2 : Int32) : Option RV :=
  qp (f_X3_requireWave σ x1) (fun E => some (.inr E)) (fun q1_ =>
    if kd q1_ = 2 then
      if x2 < 0 then
        some (.inr "java/util/NoSuchElementException")
      else
        if x2 < (σ q1_ 1) then
          if x2 < 0 ∨ 16 ≤ x2.toNatClampNeg then none
          else
            some (.inl (some (.inl (σ (q1_ + 1) x2.toNatClampNeg))))
        else
          some (.inr "java/util/NoSuchElementException")
    else none)
set_option maxHeartbeats 4000000 in
set_option maxRecDepth 100000 in
theorem c_X3_member {l : Launch} {G : GT} {σ : St} {x1 : Int32} {x2 : Int32} {r : RV} (hm : f_X3_member σ x1 x2 = some r) : MC l G yX3_member cX3_member 4 (some .int) 7 111 2 12 [.inr 0, .inl x1, .inl x2] σ (r, σ) := by
  refine xbody (by decide) (Nat.le_of_ble_eq_true rfl) ?_
  intro lo p e s m args below meth c F hP ls hl
  have F : Fx p l s args m meth c G cX3_member 4 (some .int) RX3 := F
  obtain ⟨hx, hb, hrt, hml, hown, hts, hlocks, hC, htab, hst⟩ := id F
  have hS : va_S (gF G) s.heap s.heap [] := va_S.rf
  have hl : lv_has ls 4 [(0, .ref (gA G 0)), (1, .int x1), (2, .int x2)] := hl
  unfold f_X3_member at hm
  refine lv_aload_n hx hb dX3_member_0 rfl (lv_at hl 0 rfl) ?_
  refine lv_iload_n hx hb dX3_member_1 rfl (lv_at hl 1 rfl) ?_
  rcases qp_inv hm with ⟨q1_, h1, hm⟩ | ⟨E1, h1, hm⟩
  · refine xV F (c_X3_requireWave h1) tk_418 tk_415 tk_417 tu_21 tk_1 rfl 1 (by decide +kernel) rfl ⟨Nat.le_of_ble_eq_true rfl, Nat.le_of_ble_eq_true rfl⟩ hP hS (kd_k kdc_0 (by decide)) (wc3 kdc_0) rfl hl.1 rfl (Nat.le_of_ble_eq_true rfl) dX3_member_2 ⟨Nat.le_of_ble_eq_true rfl, Nat.le_of_ble_eq_true rfl⟩ (fun v hv H locs hP hS => ?_) (fun E hE => by cases hE)
    cases hv
    replace hP : va_P (gD G) vwCl (wld G lo σ) H := hP
    refine W.eq (g2 := F0 m 5 ls [.ref (gA G q1_)]) rfl ?_
    by_cases k1_ : kd q1_ = 2
    · rw [if_pos k1_] at hm
      refine lv_astore_n (lv' := [(3, .ref (gA G q1_)), (0, .ref (gA G 0)), (1, .int x1), (2, .int x2)]) hx hb dX3_member_5 rfl hl (by decide) rfl (fun ls hl => ?_)
      refine lv_iload_n hx hb dX3_member_6 rfl (lv_at hl 3 rfl) ?_
      refine lv_if_lt (tgt := 18) hx hb dX3_member_7 (by decide) (fun b2 => ?_) (fun b2 => ?_)
      · rw [if_pos b2] at hm
        exact xthrN F hP hS (congrArg (fun z => (z, σ)) (Option.some.inj hm).symm) (by decide) (by decide) hl.1 tk_286 tk_12 (List.mem_of_getElem? (i := 10) rfl) dX3_member_18 dX3_member_21 dX3_member_22 dX3_member_24 dX3_member_27 (Nat.le_of_ble_eq_true rfl) (Nat.le_of_ble_eq_true rfl) (Nat.le_of_ble_eq_true rfl) (Nat.le_of_ble_eq_true rfl)
      · rw [if_neg b2] at hm
        refine lv_iload_n hx hb dX3_member_10 rfl (lv_at hl 3 rfl) ?_
        refine lv_aload_n hx hb dX3_member_11 rfl (lv_at hl 0 rfl) ?_
        refine xgN F 1 inX2 hP (kd_k k1_ (by decide)) (wc2 k1_) rfl (by decide) tn_14 rfl rfl dX3_member_12 ?_
        refine lv_icmp_lt (tgt := 28) hx hb dX3_member_15 (by decide) (fun b3 => ?_) (fun b3 => ?_)
        · rw [if_pos b3] at hm
          refine lv_aload_n hx hb dX3_member_28 rfl (lv_at hl 0 rfl) ?_
          refine xgN F 0 inX2 hP (kd_k k1_ (by decide)) (wc2 k1_) rfl (by decide) tn_13 rfl rfl dX3_member_29 ?_
          refine lv_iload_n hx hb dX3_member_32 rfl (lv_at hl 3 rfl) ?_
          by_cases b4 : (x2 < 0 ∨ 16 ≤ x2.toNatClampNeg)
          · rw [if_pos b4] at hm
            cases hm
          · rw [if_neg b4] at hm
            refine xil F hP ((kd_wavA _ k1_).1) ((kd_wavA _ k1_).2) b4 dX3_member_33 ?_
            exact xir F hP hS (congrArg (fun z => (z, σ)) (Option.some.inj hm).symm) (by decide) (by decide) dX3_member_34
        · rw [if_neg b3] at hm
          exact xthrN F hP hS (congrArg (fun z => (z, σ)) (Option.some.inj hm).symm) (by decide) (by decide) hl.1 tk_286 tk_12 (List.mem_of_getElem? (i := 10) rfl) dX3_member_18 dX3_member_21 dX3_member_22 dX3_member_24 dX3_member_27 (Nat.le_of_ble_eq_true rfl) (Nat.le_of_ble_eq_true rfl) (Nat.le_of_ble_eq_true rfl) (Nat.le_of_ble_eq_true rfl)
    · rw [if_neg k1_] at hm
      cases hm
  · refine xV F (c_X3_requireWave h1) tk_418 tk_415 tk_417 tu_21 tk_1 rfl 1 (by decide +kernel) rfl ⟨Nat.le_of_ble_eq_true rfl, Nat.le_of_ble_eq_true rfl⟩ hP hS (kd_k kdc_0 (by decide)) (wc3 kdc_0) rfl hl.1 rfl (Nat.le_of_ble_eq_true rfl) dX3_member_2 ⟨Nat.le_of_ble_eq_true rfl, Nat.le_of_ble_eq_true rfl⟩ (fun v hv => by cases hv) (fun E hE H locs q9 ce hP hS e1 e2 e3 => ?_)
    cases hE
    exact xto F hP hS (congrArg (fun z => (z, σ)) (Option.some.inj hm).symm) (by decide) (by decide) e1 e2 e3
/-! ===== X3_requireNotNegative ===== -/
def f_X3_requireNotNegative (σ : St) (x0 : Int32) : Option RV :=
  if 0 ≤ x0 then
    some (.inl none)
  else
    some (.inr "java/lang/IllegalArgumentException")
set_option maxHeartbeats 4000000 in
set_option maxRecDepth 100000 in
theorem c_X3_requireNotNegative {l : Launch} {G : GT} {σ : St} {x0 : Int32} {r : RV} (hm : f_X3_requireNotNegative σ x0 = some r) : MC l G yX3_requireNotNegative cX3_requireNotNegative 1 none 6 90 1 6 [.inl x0] σ (r, σ) := by
  refine xbody (by decide) (Nat.le_of_ble_eq_true rfl) ?_
  intro lo p e s m args below meth c F hP ls hl
  have F : Fx p l s args m meth c G cX3_requireNotNegative 1 none RX3 := F
  obtain ⟨hx, hb, hrt, hml, hown, hts, hlocks, hC, htab, hst⟩ := id F
  have hS : va_S (gF G) s.heap s.heap [] := va_S.rf
  have hl : lv_has ls 1 [(0, .int x0)] := hl
  unfold f_X3_requireNotNegative at hm
  refine lv_iload_n hx hb dX3_requireNotNegative_0 rfl (lv_at hl 0 rfl) ?_
  refine lv_if_ge (tgt := 14) hx hb dX3_requireNotNegative_1 (by decide) (fun b1 => ?_) (fun b1 => ?_)
  · rw [if_pos b1] at hm
    exact xvr F hP hS (congrArg (fun z => (z, σ)) (Option.some.inj hm).symm) (by decide) (by decide) dX3_requireNotNegative_14
  · rw [if_neg b1] at hm
    exact xthr F hP hS (congrArg (fun z => (z, σ)) (Option.some.inj hm).symm) (by decide) (by decide) hl.1 (by decide +kernel) tk_188 tk_10 (List.mem_of_getElem? (i := 11) rfl) xt_158_1 xt_158_2 xt_158_154 dX3_requireNotNegative_4 dX3_requireNotNegative_7 dX3_requireNotNegative_8 dX3_requireNotNegative_10 dX3_requireNotNegative_13 (Nat.le_of_ble_eq_true rfl) (Nat.le_of_ble_eq_true rfl) (Nat.le_of_ble_eq_true rfl) (Nat.le_of_ble_eq_true rfl)
/-! ===== X3_wantedOf ===== -/
def f_X3_wantedOf_5 (σ : St) (q1 : Nat) (x2 : Int32) : Nat → Int32 → Int32 → Option RV
  | 0, _, _ => none
  | n + 1, x3, x4 =>
    if (σ q1 1) ≤ x4 then
      some (.inl (some (.inl x3)))
    else
      if x4 < 0 ∨ 16 ≤ x4.toNatClampNeg then none
      else
        if (σ (q1 + 1) x4.toNatClampNeg) < 0 ∨ 16 ≤ (σ (q1 + 1) x4.toNatClampNeg).toNatClampNeg then none
        else
          if (σ (26 + 2 * (σ (q1 + 1) x4.toNatClampNeg).toNatClampNeg) 7) = 0 then
            if x2 < 0 ∨ 10 ≤ x2.toNatClampNeg then none
            else
              f_X3_wantedOf_5 σ q1 x2 n (x3 + (σ ((26 + 2 * (σ (q1 + 1) x4.toNatClampNeg).toNatClampNeg) + 1) x2.toNatClampNeg)) (x4 + 1)
          else
            f_X3_wantedOf_5 σ q1 x2 n x3 (x4 + 1)
set_option maxHeartbeats 4000000 in
set_option maxRecDepth 100000 in
theorem w_X3_wantedOf_5 {p : Program} {l : Launch} {e : Env} {s : State} {m : MethodId} {args : Array Value} {below : List Frame} {meth : Method} {c : Code} {G : GT} {lo : Nat → Int64} (F : Fx p l s args m meth c G cX3_wantedOf 6 (some .int) RX3) {σ : St} {q1 : Nat} {x2 : Int32} (k1 : kd q1 = 2) : ∀ (n : Nat) {x3 : Int32} {x4 : Int32} {r : RV}, f_X3_wantedOf_5 σ q1 x2 n x3 x4 = some r → ∀ {H : Heap} {locs : List Loc}, va_P (gD G) vwCl (wld G lo σ) H → va_S (gF G) s.heap H locs → ∀ {ls : Array Slot}, lv_has ls 6 [(0, .ref (gA G 0)), (1, .ref (gA G q1)), (2, .int x2), (3, .int x3), (4, .int x4)] → W p l e (RM 0 0 0 0) s m args below meth c H locs 0 0 (vx_MQ below (QCr G lo (r, σ)) (XCr G lo (r, σ)) args s 0 0 (gF G)) (F0 m 5 ls []) := by
  obtain ⟨hx, hb, hrt, hml, hown, hts, hlocks, hC, htab, hst⟩ := id F
  intro n
  induction n with
  | zero =>
    intro x3 x4 r hm
    simp only [f_X3_wantedOf_5] at hm
    cases hm
  | succ n ih =>
    intro x3 x4 r hm H locs hP hS ls hl
    rw [f_X3_wantedOf_5] at hm
    refine lv_iload hx hb dX3_wantedOf_5 (lv_at hl 4 rfl) ?_
    refine lv_aload_n hx hb dX3_wantedOf_7 rfl (lv_at hl 1 rfl) ?_
    refine xgN F 1 inX2 hP (kd_k k1 (by decide)) (wc2 k1) rfl (by decide) tn_14 rfl rfl dX3_wantedOf_8 ?_
    refine lv_icmp_ge (tgt := 52) hx hb dX3_wantedOf_11 (by decide) (fun b1 => ?_) (fun b1 => ?_)
    · rw [if_pos b1] at hm
      refine lv_iload_n hx hb dX3_wantedOf_52 rfl (lv_at hl 3 rfl) ?_
      exact xir F hP hS (congrArg (fun z => (z, σ)) (Option.some.inj hm).symm) (by decide) (by decide) dX3_wantedOf_53
    · rw [if_neg b1] at hm
      refine lv_aload_n hx hb dX3_wantedOf_14 rfl (lv_at hl 0 rfl) ?_
      refine xg F 3 inX3 hP (kd_k kdc_0 (by decide)) (wc3 kdc_0) rfl (by decide) tk_114 rfl rfl dX3_wantedOf_15 ?_
      refine lv_aload_n hx hb dX3_wantedOf_18 rfl (lv_at hl 1 rfl) ?_
      refine xgN F 0 inX2 hP (kd_k k1 (by decide)) (wc2 k1) rfl (by decide) tn_13 rfl rfl dX3_wantedOf_19 ?_
      refine lv_iload hx hb dX3_wantedOf_22 (lv_at hl 4 rfl) ?_
      by_cases b2 : (x4 < 0 ∨ 16 ≤ x4.toNatClampNeg)
      · rw [if_pos b2] at hm
        cases hm
      · rw [if_neg b2] at hm
        refine xil F hP ((kd_wavA _ k1).1) ((kd_wavA _ k1).2) b2 dX3_wantedOf_24 ?_
        by_cases b3 : ((σ (q1 + 1) x4.toNatClampNeg) < 0 ∨ 16 ≤ (σ (q1 + 1) x4.toNatClampNeg).toNatClampNeg)
        · rw [if_pos b3] at hm
          cases hm
        · rw [if_neg b3] at hm
          refine xol F hP kdc_6 b3 dX3_wantedOf_25 ?_
          refine lv_astore (lv' := [(5, .ref (gA G (26 + 2 * (σ (q1 + 1) x4.toNatClampNeg).toNatClampNeg))), (0, .ref (gA G 0)), (1, .ref (gA G q1)), (2, .int x2), (3, .int x3), (4, .int x4)]) hx hb dX3_wantedOf_26 hl (by decide) rfl (fun ls hl => ?_)
          refine lv_aload hx hb dX3_wantedOf_28 (lv_at hl 0 rfl) ?_
          refine xgN F 7 inX1 hP (kd_k (kd_ord b3) (by decide)) (wc1 (kd_ord b3)) rfl (by decide) tn_10 rfl rfl dX3_wantedOf_30 ?_
          refine lv_if_ne (tgt := 46) hx hb dX3_wantedOf_33 (by decide) (fun b4 => ?_) (fun b4 => ?_)
          · rw [if_neg b4] at hm
            refine lv_iinc (v := (x4 + 1)) (lv' := [(4, .int (x4 + 1)), (5, .ref (gA G (26 + 2 * (σ (q1 + 1) x4.toNatClampNeg).toNatClampNeg))), (0, .ref (gA G 0)), (1, .ref (gA G q1)), (2, .int x2), (3, .int x3)]) hx hb dX3_wantedOf_46 hl (k := 5) rfl rfl (by decide) rfl (fun ls hl => ?_)
            refine lv_goto (tgt := 5) hx hb dX3_wantedOf_49 (by decide) ?_
            exact ih hm hP hS (lv_sub hl [2, 3, 4, 5, 0] rfl)
          · rw [if_pos b4] at hm
            refine lv_iload_n hx hb dX3_wantedOf_36 rfl (lv_at hl 4 rfl) ?_
            refine lv_aload hx hb dX3_wantedOf_37 (lv_at hl 0 rfl) ?_
            refine xgN F 5 inX1 hP (kd_k (kd_ord b3) (by decide)) (wc1 (kd_ord b3)) rfl (by decide) tn_8 rfl rfl dX3_wantedOf_39 ?_
            refine lv_iload_n hx hb dX3_wantedOf_42 rfl (lv_at hl 3 rfl) ?_
            by_cases b5 : (x2 < 0 ∨ 10 ≤ x2.toNatClampNeg)
            · rw [if_pos b5] at hm
              cases hm
            · rw [if_neg b5] at hm
              refine xil F hP ((kd_ordA _ (kd_ord b3)).1) ((kd_ordA _ (kd_ord b3)).2) b5 dX3_wantedOf_43 ?_
              refine lv_iadd hx hb dX3_wantedOf_44 ?_
              refine lv_istore_n (lv' := [(3, .int (x3 + (σ ((26 + 2 * (σ (q1 + 1) x4.toNatClampNeg).toNatClampNeg) + 1) x2.toNatClampNeg))), (5, .ref (gA G (26 + 2 * (σ (q1 + 1) x4.toNatClampNeg).toNatClampNeg))), (0, .ref (gA G 0)), (1, .ref (gA G q1)), (2, .int x2), (4, .int x4)]) hx hb dX3_wantedOf_45 rfl hl (by decide) rfl (fun ls hl => ?_)
              refine lv_iinc (v := (x4 + 1)) (lv' := [(4, .int (x4 + 1)), (3, .int (x3 + (σ ((26 + 2 * (σ (q1 + 1) x4.toNatClampNeg).toNatClampNeg) + 1) x2.toNatClampNeg))), (5, .ref (gA G (26 + 2 * (σ (q1 + 1) x4.toNatClampNeg).toNatClampNeg))), (0, .ref (gA G 0)), (1, .ref (gA G q1)), (2, .int x2)]) hx hb dX3_wantedOf_46 hl (k := 5) rfl rfl (by decide) rfl (fun ls hl => ?_)
              refine lv_goto (tgt := 5) hx hb dX3_wantedOf_49 (by decide) ?_
              exact ih hm hP hS (lv_sub hl [3, 4, 5, 1, 0] rfl)
def f_X3_wantedOf (σ : St) (q1 : Nat) (x2 : Int32) : Option RV :=
  f_X3_wantedOf_5 σ q1 x2 40 0 0
set_option maxHeartbeats 4000000 in
set_option maxRecDepth 100000 in
theorem c_X3_wantedOf {l : Launch} {G : GT} {σ : St} {q1 : Nat} {x2 : Int32} (k1 : kd q1 = 2) {r : RV} (hm : f_X3_wantedOf σ q1 x2 = some r) : MC l G yX3_wantedOf cX3_wantedOf 6 (some .int) 0 0 0 0 [.inr 0, .inr q1, .inl x2] σ (r, σ) := by
  refine xbody (by decide) (Nat.le_of_ble_eq_true rfl) ?_
  intro lo p e s m args below meth c F hP ls hl
  have F : Fx p l s args m meth c G cX3_wantedOf 6 (some .int) RX3 := F
  obtain ⟨hx, hb, hrt, hml, hown, hts, hlocks, hC, htab, hst⟩ := id F
  have hS : va_S (gF G) s.heap s.heap [] := va_S.rf
  have hl : lv_has ls 6 [(0, .ref (gA G 0)), (1, .ref (gA G q1)), (2, .int x2)] := hl
  unfold f_X3_wantedOf at hm
  refine lv_iconst (v := 0) hx hb dX3_wantedOf_0 (by decide) ?_
  refine lv_istore_n (lv' := [(3, .int 0), (0, .ref (gA G 0)), (1, .ref (gA G q1)), (2, .int x2)]) hx hb dX3_wantedOf_1 rfl hl (by decide) rfl (fun ls hl => ?_)
  refine lv_iconst (v := 0) hx hb dX3_wantedOf_2 (by decide) ?_
  refine lv_istore (lv' := [(4, .int 0), (3, .int 0), (0, .ref (gA G 0)), (1, .ref (gA G q1)), (2, .int x2)]) hx hb dX3_wantedOf_3 hl (by decide) rfl (fun ls hl => ?_)
  exact w_X3_wantedOf_5 F k1 40 hm hP hS (lv_sub hl [2, 3, 4, 1, 0] rfl)
/-! ===== X3_lackOf ===== -/
def f_X3_lackOf_10 (σ : St) (x1 : Int32) (x2 : Int32) : Nat → Int32 → Int32 → Option RV
  | 0, _, _ => none
  | n + 1, x3, x4 =>
    if (σ 0 6) ≤ x4 then
      if (x1 - 1) < 0 ∨ 16 ≤ (x1 - 1).toNatClampNeg then none
      else
        ri (f_X3_wantedOf σ (58 + 2 * (x1 - 1).toNatClampNeg) x2) (fun x3_ =>
          some (.inl (some (.inl (if 0 < (x3_ - (if 0 < x3 then x3 else 0)) then (x3_ - (if 0 < x3 then x3 else 0)) else 0)))))
    else
      if x4 = (x1 - 1) then
        f_X3_lackOf_10 σ x1 x2 n x3 (x4 + 1)
      else
        if x4 < 0 ∨ 16 ≤ x4.toNatClampNeg then none
        else
          if (σ (58 + 2 * x4.toNatClampNeg) 3) = 0 then
            f_X3_lackOf_10 σ x1 x2 n x3 (x4 + 1)
          else
            ri (f_X3_wantedOf σ (58 + 2 * x4.toNatClampNeg) x2) (fun x7_ =>
              f_X3_lackOf_10 σ x1 x2 n (x3 - x7_) (x4 + 1))
set_option maxHeartbeats 4000000 in
set_option maxRecDepth 100000 in
theorem w_X3_lackOf_10 {p : Program} {l : Launch} {e : Env} {s : State} {m : MethodId} {args : Array Value} {below : List Frame} {meth : Method} {c : Code} {G : GT} {lo : Nat → Int64} (F : Fx p l s args m meth c G cX3_lackOf 5 (some .int) RX3) {σ : St} {x1 : Int32} {x2 : Int32} : ∀ (n : Nat) {x3 : Int32} {x4 : Int32} {r : RV}, f_X3_lackOf_10 σ x1 x2 n x3 x4 = some r → ∀ {H : Heap} {locs : List Loc}, va_P (gD G) vwCl (wld G lo σ) H → va_S (gF G) s.heap H locs → ∀ {ls : Array Slot}, lv_has ls 5 [(0, .ref (gA G 0)), (1, .int x1), (2, .int x2), (3, .int x3), (4, .int x4)] → W p l e (RM 1 25 0 0) s m args below meth c H locs 0 0 (vx_MQ below (QCr G lo (r, σ)) (XCr G lo (r, σ)) args s 0 0 (gF G)) (F0 m 10 ls []) := by
  obtain ⟨hx, hb, hrt, hml, hown, hts, hlocks, hC, htab, hst⟩ := id F
  intro n
  induction n with
  | zero =>
    intro x3 x4 r hm
    simp only [f_X3_lackOf_10] at hm
    cases hm
  | succ n ih =>
    intro x3 x4 r hm H locs hP hS ls hl
    rw [f_X3_lackOf_10] at hm
    refine lv_iload hx hb dX3_lackOf_10 (lv_at hl 4 rfl) ?_
    refine lv_aload_n hx hb dX3_lackOf_12 rfl (lv_at hl 0 rfl) ?_
    refine xg F 6 inX3 hP (kd_k kdc_0 (by decide)) (wc3 kdc_0) rfl (by decide) tk_117 rfl rfl dX3_lackOf_13 ?_
    refine lv_icmp_ge (tgt := 61) hx hb dX3_lackOf_16 (by decide) (fun b1 => ?_) (fun b1 => ?_)
    · rw [if_pos b1] at hm
      refine lv_iconst (v := 0) hx hb dX3_lackOf_61 (by decide) ?_
      refine lv_aload_n hx hb dX3_lackOf_62 rfl (lv_at hl 0 rfl) ?_
      refine lv_aload_n hx hb dX3_lackOf_63 rfl (lv_at hl 0 rfl) ?_
      refine xg F 5 inX3 hP (kd_k kdc_0 (by decide)) (wc3 kdc_0) rfl (by decide) tk_116 rfl rfl dX3_lackOf_64 ?_
      refine lv_iload_n hx hb dX3_lackOf_67 rfl (lv_at hl 1 rfl) ?_
      refine lv_iconst (v := 1) hx hb dX3_lackOf_68 (by decide) ?_
      refine lv_isub hx hb dX3_lackOf_69 ?_
      by_cases b2 : ((x1 - 1) < 0 ∨ 16 ≤ (x1 - 1).toNatClampNeg)
      · rw [if_pos b2] at hm
        cases hm
      · rw [if_neg b2] at hm
        refine xwl F hP kdc_7 b2 dX3_lackOf_70 ?_
        refine lv_iload_n hx hb dX3_lackOf_71 rfl (lv_at hl 2 rfl) ?_
        obtain ⟨x3_, h3, hm⟩ := ri_inv hm
        refine xV F (c_X3_wantedOf (kd_wav b2) h3) tk_463 tk_460 tk_462 tu_27 tk_1 rfl 2 (by decide +kernel) rfl ⟨Nat.le_of_ble_eq_true rfl, Nat.le_of_ble_eq_true rfl⟩ hP hS (kd_k kdc_0 (by decide)) (wc3 kdc_0) rfl hl.1 rfl (Nat.le_of_ble_eq_true rfl) dX3_lackOf_72 ⟨Nat.le_of_ble_eq_true rfl, Nat.le_of_ble_eq_true rfl⟩ (fun v hv H locs hP hS => ?_) (fun E hE => by cases hE)
        cases hv
        replace hP : va_P (gD G) vwCl (wld G lo σ) H := hP
        refine W.eq (g2 := F0 m 75 ls [.int x3_, .int 0]) rfl ?_
        refine lv_iconst (v := 0) hx hb dX3_lackOf_75 (by decide) ?_
        refine lv_iload_n hx hb dX3_lackOf_76 rfl (lv_at hl 3 rfl) ?_
        refine xmx F tk_26 tk_27 tk_2 tk_28 hl.1 (by decide) (Nat.le_of_ble_eq_true rfl) (by decide) (by decide) dX3_lackOf_77 ?_
        refine lv_isub hx hb dX3_lackOf_80 ?_
        refine xmx F tk_26 tk_27 tk_2 tk_28 hl.1 (by decide) (Nat.le_of_ble_eq_true rfl) (by decide) (by decide) dX3_lackOf_81 ?_
        exact xir F hP hS (congrArg (fun z => (z, σ)) (Option.some.inj hm).symm) (by decide) (by decide) dX3_lackOf_84
    · rw [if_neg b1] at hm
      refine lv_iload hx hb dX3_lackOf_19 (lv_at hl 4 rfl) ?_
      refine lv_iload_n hx hb dX3_lackOf_21 rfl (lv_at hl 1 rfl) ?_
      refine lv_iconst (v := 1) hx hb dX3_lackOf_22 (by decide) ?_
      refine lv_isub hx hb dX3_lackOf_23 ?_
      refine lv_icmp_eq (tgt := 55) hx hb dX3_lackOf_24 (by decide) (fun b4 => ?_) (fun b4 => ?_)
      · rw [if_pos b4] at hm
        refine lv_iinc (v := (x4 + 1)) (lv' := [(4, .int (x4 + 1)), (0, .ref (gA G 0)), (1, .int x1), (2, .int x2), (3, .int x3)]) hx hb dX3_lackOf_55 hl (k := 4) rfl rfl (by decide) rfl (fun ls hl => ?_)
        refine lv_goto (tgt := 10) hx hb dX3_lackOf_58 (by decide) ?_
        exact ih hm hP hS (lv_sub hl [1, 2, 3, 4, 0] rfl)
      · rw [if_neg b4] at hm
        refine lv_aload_n hx hb dX3_lackOf_27 rfl (lv_at hl 0 rfl) ?_
        refine xg F 5 inX3 hP (kd_k kdc_0 (by decide)) (wc3 kdc_0) rfl (by decide) tk_116 rfl rfl dX3_lackOf_28 ?_
        refine lv_iload hx hb dX3_lackOf_31 (lv_at hl 4 rfl) ?_
        by_cases b5 : (x4 < 0 ∨ 16 ≤ x4.toNatClampNeg)
        · rw [if_pos b5] at hm
          cases hm
        · rw [if_neg b5] at hm
          refine xwl F hP kdc_7 b5 dX3_lackOf_33 ?_
          refine xgN F 3 inX2 hP (kd_k (kd_wav b5) (by decide)) (wc2 (kd_wav b5)) rfl (by decide) tn_16 rfl rfl dX3_lackOf_34 ?_
          refine lv_if_eq (tgt := 55) hx hb dX3_lackOf_37 (by decide) (fun b6 => ?_) (fun b6 => ?_)
          · rw [if_pos b6] at hm
            refine lv_iinc (v := (x4 + 1)) (lv' := [(4, .int (x4 + 1)), (0, .ref (gA G 0)), (1, .int x1), (2, .int x2), (3, .int x3)]) hx hb dX3_lackOf_55 hl (k := 4) rfl rfl (by decide) rfl (fun ls hl => ?_)
            refine lv_goto (tgt := 10) hx hb dX3_lackOf_58 (by decide) ?_
            exact ih hm hP hS (lv_sub hl [1, 2, 3, 4, 0] rfl)
          · rw [if_neg b6] at hm
            refine lv_iload_n hx hb dX3_lackOf_40 rfl (lv_at hl 3 rfl) ?_
            refine lv_aload_n hx hb dX3_lackOf_41 rfl (lv_at hl 0 rfl) ?_
            refine lv_aload_n hx hb dX3_lackOf_42 rfl (lv_at hl 0 rfl) ?_
            refine xg F 5 inX3 hP (kd_k kdc_0 (by decide)) (wc3 kdc_0) rfl (by decide) tk_116 rfl rfl dX3_lackOf_43 ?_
            refine lv_iload hx hb dX3_lackOf_46 (lv_at hl 4 rfl) ?_
            refine xwl F hP kdc_7 b5 dX3_lackOf_48 ?_
            refine lv_iload_n hx hb dX3_lackOf_49 rfl (lv_at hl 2 rfl) ?_
            obtain ⟨x7_, h7, hm⟩ := ri_inv hm
            refine xV F (c_X3_wantedOf (kd_wav b5) h7) tk_463 tk_460 tk_462 tu_27 tk_1 rfl 2 (by decide +kernel) rfl ⟨Nat.le_of_ble_eq_true rfl, Nat.le_of_ble_eq_true rfl⟩ hP hS (kd_k kdc_0 (by decide)) (wc3 kdc_0) rfl hl.1 rfl (Nat.le_of_ble_eq_true rfl) dX3_lackOf_50 ⟨Nat.le_of_ble_eq_true rfl, Nat.le_of_ble_eq_true rfl⟩ (fun v hv H locs hP hS => ?_) (fun E hE => by cases hE)
            cases hv
            replace hP : va_P (gD G) vwCl (wld G lo σ) H := hP
            refine W.eq (g2 := F0 m 53 ls [.int x7_, .int x3]) rfl ?_
            refine lv_isub hx hb dX3_lackOf_53 ?_
            refine lv_istore_n (lv' := [(3, .int (x3 - x7_)), (0, .ref (gA G 0)), (1, .int x1), (2, .int x2), (4, .int x4)]) hx hb dX3_lackOf_54 rfl hl (by decide) rfl (fun ls hl => ?_)
            refine lv_iinc (v := (x4 + 1)) (lv' := [(4, .int (x4 + 1)), (3, .int (x3 - x7_)), (0, .ref (gA G 0)), (1, .int x1), (2, .int x2)]) hx hb dX3_lackOf_55 hl (k := 4) rfl rfl (by decide) rfl (fun ls hl => ?_)
            refine lv_goto (tgt := 10) hx hb dX3_lackOf_58 (by decide) ?_
            exact ih hm hP hS (lv_sub hl [2, 3, 4, 1, 0] rfl)
def f_X3_lackOf (σ : St) (x1 : Int32) (x2 : Int32) : Option RV :=
  if x2 < 0 ∨ 10 ≤ x2.toNatClampNeg then none
  else
    f_X3_lackOf_10 σ x1 x2 40 (σ 5 x2.toNatClampNeg) 0
set_option maxHeartbeats 4000000 in
set_option maxRecDepth 100000 in
theorem c_X3_lackOf {l : Launch} {G : GT} {σ : St} {x1 : Int32} {x2 : Int32} {r : RV} (hm : f_X3_lackOf σ x1 x2 = some r) : MC l G yX3_lackOf cX3_lackOf 5 (some .int) 1 25 0 0 [.inr 0, .inl x1, .inl x2] σ (r, σ) := by
  refine xbody (by decide) (Nat.le_of_ble_eq_true rfl) ?_
  intro lo p e s m args below meth c F hP ls hl
  have F : Fx p l s args m meth c G cX3_lackOf 5 (some .int) RX3 := F
  obtain ⟨hx, hb, hrt, hml, hown, hts, hlocks, hC, htab, hst⟩ := id F
  have hS : va_S (gF G) s.heap s.heap [] := va_S.rf
  have hl : lv_has ls 5 [(0, .ref (gA G 0)), (1, .int x1), (2, .int x2)] := hl
  unfold f_X3_lackOf at hm
  refine lv_aload_n hx hb dX3_lackOf_0 rfl (lv_at hl 0 rfl) ?_
  refine xg F 2 inX3 hP (kd_k kdc_0 (by decide)) (wc3 kdc_0) rfl (by decide) tk_113 rfl rfl dX3_lackOf_1 ?_
  refine lv_iload_n hx hb dX3_lackOf_4 rfl (lv_at hl 2 rfl) ?_
  by_cases b1 : (x2 < 0 ∨ 10 ≤ x2.toNatClampNeg)
  · rw [if_pos b1] at hm
    cases hm
  · rw [if_neg b1] at hm
    refine xil F hP kdc_5 lnc_5 b1 dX3_lackOf_5 ?_
    refine lv_istore_n (lv' := [(3, .int (σ 5 x2.toNatClampNeg)), (0, .ref (gA G 0)), (1, .int x1), (2, .int x2)]) hx hb dX3_lackOf_6 rfl hl (by decide) rfl (fun ls hl => ?_)
    refine lv_iconst (v := 0) hx hb dX3_lackOf_7 (by decide) ?_
    refine lv_istore (lv' := [(4, .int 0), (3, .int (σ 5 x2.toNatClampNeg)), (0, .ref (gA G 0)), (1, .int x1), (2, .int x2)]) hx hb dX3_lackOf_8 hl (by decide) rfl (fun ls hl => ?_)
    exact w_X3_lackOf_10 F 40 hm hP hS (lv_sub hl [2, 3, 4, 1, 0] rfl)
/-! ===== X3_lackedGood ===== -/
def f_X3_lackedGood_5 (σ : St) (x1 : Int32) (x2 : Int32) : Nat → Int32 → Int32 → Option RV
  | 0, _, _ => none
  | n + 1, x3, x4 =>
    if 10 ≤ x4 then
      some (.inl (some (.inl (-1))))
    else
      ri (f_X3_lackOf σ x1 x4) (fun x2_ =>
        if x2_ = 0 then
          f_X3_lackedGood_5 σ x1 x2 n x3 (x4 + 1)
        else
          if x3 = x2 then
            some (.inl (some (.inl x4)))
          else
            f_X3_lackedGood_5 σ x1 x2 n (x3 + 1) (x4 + 1))
set_option maxHeartbeats 4000000 in
set_option maxRecDepth 100000 in
theorem w_X3_lackedGood_5 {p : Program} {l : Launch} {e : Env} {s : State} {m : MethodId} {args : Array Value} {below : List Frame} {meth : Method} {c : Code} {G : GT} {lo : Nat → Int64} (F : Fx p l s args m meth c G cX3_lackedGood 5 (some .int) RX3) {σ : St} {x1 : Int32} {x2 : Int32} : ∀ (n : Nat) {x3 : Int32} {x4 : Int32} {r : RV}, f_X3_lackedGood_5 σ x1 x2 n x3 x4 = some r → ∀ {H : Heap} {locs : List Loc}, va_P (gD G) vwCl (wld G lo σ) H → va_S (gF G) s.heap H locs → ∀ {ls : Array Slot}, lv_has ls 5 [(0, .ref (gA G 0)), (1, .int x1), (2, .int x2), (3, .int x3), (4, .int x4)] → W p l e (RM 2 49 0 0) s m args below meth c H locs 0 0 (vx_MQ below (QCr G lo (r, σ)) (XCr G lo (r, σ)) args s 0 0 (gF G)) (F0 m 5 ls []) := by
  obtain ⟨hx, hb, hrt, hml, hown, hts, hlocks, hC, htab, hst⟩ := id F
  intro n
  induction n with
  | zero =>
    intro x3 x4 r hm
    simp only [f_X3_lackedGood_5] at hm
    cases hm
  | succ n ih =>
    intro x3 x4 r hm H locs hP hS ls hl
    rw [f_X3_lackedGood_5] at hm
    refine lv_iload hx hb dX3_lackedGood_5 (lv_at hl 4 rfl) ?_
    refine lv_bipush (v := 10) hx hb dX3_lackedGood_7 (by decide) ?_
    refine lv_icmp_ge (tgt := 42) hx hb dX3_lackedGood_9 (by decide) (fun b1 => ?_) (fun b1 => ?_)
    · rw [if_pos b1] at hm
      refine lv_iconst (v := (-1)) hx hb dX3_lackedGood_42 (by decide) ?_
      exact xir F hP hS (congrArg (fun z => (z, σ)) (Option.some.inj hm).symm) (by decide) (by decide) dX3_lackedGood_43
    · rw [if_neg b1] at hm
      refine lv_aload_n hx hb dX3_lackedGood_12 rfl (lv_at hl 0 rfl) ?_
      refine lv_iload_n hx hb dX3_lackedGood_13 rfl (lv_at hl 1 rfl) ?_
      refine lv_iload hx hb dX3_lackedGood_14 (lv_at hl 4 rfl) ?_
      obtain ⟨x2_, h2, hm⟩ := ri_inv hm
      refine xV F (c_X3_lackOf h2) tk_459 tk_456 tk_458 tu_26 tk_1 rfl 2 (by decide +kernel) rfl ⟨Nat.le_of_ble_eq_true rfl, Nat.le_of_ble_eq_true rfl⟩ hP hS (kd_k kdc_0 (by decide)) (wc3 kdc_0) rfl hl.1 rfl (Nat.le_of_ble_eq_true rfl) dX3_lackedGood_16 ⟨Nat.le_of_ble_eq_true rfl, Nat.le_of_ble_eq_true rfl⟩ (fun v hv H locs hP hS => ?_) (fun E hE => by cases hE)
      cases hv
      replace hP : va_P (gD G) vwCl (wld G lo σ) H := hP
      refine W.eq (g2 := F0 m 19 ls [.int x2_]) rfl ?_
      refine lv_if_ne (tgt := 25) hx hb dX3_lackedGood_19 (by decide) (fun b3 => ?_) (fun b3 => ?_)
      · rw [if_neg b3] at hm
        refine lv_iload_n hx hb dX3_lackedGood_25 rfl (lv_at hl 3 rfl) ?_
        refine lv_iload_n hx hb dX3_lackedGood_26 rfl (lv_at hl 2 rfl) ?_
        refine lv_icmp_ne (tgt := 33) hx hb dX3_lackedGood_27 (by decide) (fun b4 => ?_) (fun b4 => ?_)
        · rw [if_neg b4] at hm
          refine lv_iinc (v := (x3 + 1)) (lv' := [(3, .int (x3 + 1)), (0, .ref (gA G 0)), (1, .int x1), (2, .int x2), (4, .int x4)]) hx hb dX3_lackedGood_33 hl (k := 3) rfl rfl (by decide) rfl (fun ls hl => ?_)
          refine lv_iinc (v := (x4 + 1)) (lv' := [(4, .int (x4 + 1)), (3, .int (x3 + 1)), (0, .ref (gA G 0)), (1, .int x1), (2, .int x2)]) hx hb dX3_lackedGood_36 hl (k := 4) rfl rfl (by decide) rfl (fun ls hl => ?_)
          refine lv_goto (tgt := 5) hx hb dX3_lackedGood_39 (by decide) ?_
          exact ih hm hP hS (lv_sub hl [2, 3, 4, 1, 0] rfl)
        · rw [if_pos b4] at hm
          refine lv_iload hx hb dX3_lackedGood_30 (lv_at hl 4 rfl) ?_
          exact xir F hP hS (congrArg (fun z => (z, σ)) (Option.some.inj hm).symm) (by decide) (by decide) dX3_lackedGood_32
      · rw [if_pos b3] at hm
        refine lv_goto (tgt := 36) hx hb dX3_lackedGood_22 (by decide) ?_
        refine lv_iinc (v := (x4 + 1)) (lv' := [(4, .int (x4 + 1)), (0, .ref (gA G 0)), (1, .int x1), (2, .int x2), (3, .int x3)]) hx hb dX3_lackedGood_36 hl (k := 4) rfl rfl (by decide) rfl (fun ls hl => ?_)
        refine lv_goto (tgt := 5) hx hb dX3_lackedGood_39 (by decide) ?_
        exact ih hm hP hS (lv_sub hl [1, 2, 3, 4, 0] rfl)
def f_X3_lackedGood (σ : St) (x1 : Int32) (x2 : Int32) : Option RV :=
  f_X3_lackedGood_5 σ x1 x2 40 0 0
set_option maxHeartbeats 4000000 in
set_option maxRecDepth 100000 in
theorem c_X3_lackedGood {l : Launch} {G : GT} {σ : St} {x1 : Int32} {x2 : Int32} {r : RV} (hm : f_X3_lackedGood σ x1 x2 = some r) : MC l G yX3_lackedGood cX3_lackedGood 5 (some .int) 2 49 0 0 [.inr 0, .inl x1, .inl x2] σ (r, σ) := by
  refine xbody (by decide) (Nat.le_of_ble_eq_true rfl) ?_
  intro lo p e s m args below meth c F hP ls hl
  have F : Fx p l s args m meth c G cX3_lackedGood 5 (some .int) RX3 := F
  obtain ⟨hx, hb, hrt, hml, hown, hts, hlocks, hC, htab, hst⟩ := id F
  have hS : va_S (gF G) s.heap s.heap [] := va_S.rf
  have hl : lv_has ls 5 [(0, .ref (gA G 0)), (1, .int x1), (2, .int x2)] := hl
  unfold f_X3_lackedGood at hm
  refine lv_iconst (v := 0) hx hb dX3_lackedGood_0 (by decide) ?_
  refine lv_istore_n (lv' := [(3, .int 0), (0, .ref (gA G 0)), (1, .int x1), (2, .int x2)]) hx hb dX3_lackedGood_1 rfl hl (by decide) rfl (fun ls hl => ?_)
  refine lv_iconst (v := 0) hx hb dX3_lackedGood_2 (by decide) ?_
  refine lv_istore (lv' := [(4, .int 0), (3, .int 0), (0, .ref (gA G 0)), (1, .int x1), (2, .int x2)]) hx hb dX3_lackedGood_3 hl (by decide) rfl (fun ls hl => ?_)
  exact w_X3_lackedGood_5 F 40 hm hP hS (lv_sub hl [2, 3, 4, 1, 0] rfl)
/-! ===== X3_replenish ===== -/
def f_X3_replenish (σ : St) (x1 : Int32) (x2 : Int32) : Option RV :=
  qp (f_X3_requireWave σ x1) (fun E => some (.inr E)) (fun q1_ =>
    if kd q1_ = 2 then
      qv (f_X3_requireNotNegative σ x2) (fun E => some (.inr E)) (
        ri (f_X3_lackedGood σ x1 x2) (fun x3_ =>
          some (.inl (some (.inl x3_)))))
    else none)
set_option maxHeartbeats 4000000 in
set_option maxRecDepth 100000 in
theorem c_X3_replenish {l : Launch} {G : GT} {σ : St} {x1 : Int32} {x2 : Int32} {r : RV} (hm : f_X3_replenish σ x1 x2 = some r) : MC l G yX3_replenish cX3_replenish 3 (some .int) 7 111 2 12 [.inr 0, .inl x1, .inl x2] σ (r, σ) := by
  refine xbody (by decide) (Nat.le_of_ble_eq_true rfl) ?_
  intro lo p e s m args below meth c F hP ls hl
  have F : Fx p l s args m meth c G cX3_replenish 3 (some .int) RX3 := F
  obtain ⟨hx, hb, hrt, hml, hown, hts, hlocks, hC, htab, hst⟩ := id F
  have hS : va_S (gF G) s.heap s.heap [] := va_S.rf
  have hl : lv_has ls 3 [(0, .ref (gA G 0)), (1, .int x1), (2, .int x2)] := hl
  unfold f_X3_replenish at hm
  refine lv_aload_n hx hb dX3_replenish_0 rfl (lv_at hl 0 rfl) ?_
  refine lv_iload_n hx hb dX3_replenish_1 rfl (lv_at hl 1 rfl) ?_
  rcases qp_inv hm with ⟨q1_, h1, hm⟩ | ⟨E1, h1, hm⟩
  · refine xV F (c_X3_requireWave h1) tk_418 tk_415 tk_417 tu_21 tk_1 rfl 1 (by decide +kernel) rfl ⟨Nat.le_of_ble_eq_true rfl, Nat.le_of_ble_eq_true rfl⟩ hP hS (kd_k kdc_0 (by decide)) (wc3 kdc_0) rfl hl.1 rfl (Nat.le_of_ble_eq_true rfl) dX3_replenish_2 ⟨Nat.le_of_ble_eq_true rfl, Nat.le_of_ble_eq_true rfl⟩ (fun v hv H locs hP hS => ?_) (fun E hE => by cases hE)
    cases hv
    replace hP : va_P (gD G) vwCl (wld G lo σ) H := hP
    refine W.eq (g2 := F0 m 5 ls [.ref (gA G q1_)]) rfl ?_
    by_cases k1_ : kd q1_ = 2
    · rw [if_pos k1_] at hm
      refine lv_pop hx hb dX3_replenish_5 rfl ?_
      refine lv_iload_n hx hb dX3_replenish_6 rfl (lv_at hl 2 rfl) ?_
      rcases qv_inv hm with ⟨h2, hm⟩ | ⟨E2, h2, hm⟩
      · refine xSt F (c_X3_requireNotNegative h2) tk_450 tk_448 tk_449 tk_1 rfl 1 (by decide +kernel) rfl ⟨Nat.le_of_ble_eq_true rfl, Nat.le_of_ble_eq_true rfl⟩ hP hS hl.1 rfl (Nat.le_of_ble_eq_true rfl) dX3_replenish_7 ⟨Nat.le_of_ble_eq_true rfl, Nat.le_of_ble_eq_true rfl⟩ (fun v hv H locs hP hS => ?_) (fun E hE => by cases hE)
        cases hv
        replace hP : va_P (gD G) vwCl (wld G lo σ) H := hP
        refine W.eq (g2 := F0 m 10 ls []) rfl ?_
        refine lv_aload_n hx hb dX3_replenish_10 rfl (lv_at hl 0 rfl) ?_
        refine lv_iload_n hx hb dX3_replenish_11 rfl (lv_at hl 1 rfl) ?_
        refine lv_iload_n hx hb dX3_replenish_12 rfl (lv_at hl 2 rfl) ?_
        obtain ⟨x3_, h3, hm⟩ := ri_inv hm
        refine xV F (c_X3_lackedGood h3) tk_455 tk_452 tk_454 tu_25 tk_1 rfl 2 (by decide +kernel) rfl ⟨Nat.le_of_ble_eq_true rfl, Nat.le_of_ble_eq_true rfl⟩ hP hS (kd_k kdc_0 (by decide)) (wc3 kdc_0) rfl hl.1 rfl (Nat.le_of_ble_eq_true rfl) dX3_replenish_13 ⟨Nat.le_of_ble_eq_true rfl, Nat.le_of_ble_eq_true rfl⟩ (fun v hv H locs hP hS => ?_) (fun E hE => by cases hE)
        cases hv
        replace hP : va_P (gD G) vwCl (wld G lo σ) H := hP
        refine W.eq (g2 := F0 m 16 ls [.int x3_]) rfl ?_
        exact xir F hP hS (congrArg (fun z => (z, σ)) (Option.some.inj hm).symm) (by decide) (by decide) dX3_replenish_16
      · refine xSt F (c_X3_requireNotNegative h2) tk_450 tk_448 tk_449 tk_1 rfl 1 (by decide +kernel) rfl ⟨Nat.le_of_ble_eq_true rfl, Nat.le_of_ble_eq_true rfl⟩ hP hS hl.1 rfl (Nat.le_of_ble_eq_true rfl) dX3_replenish_7 ⟨Nat.le_of_ble_eq_true rfl, Nat.le_of_ble_eq_true rfl⟩ (fun v hv => by cases hv) (fun E hE H locs q9 ce hP hS e1 e2 e3 => ?_)
        cases hE
        exact xto F hP hS (congrArg (fun z => (z, σ)) (Option.some.inj hm).symm) (by decide) (by decide) e1 e2 e3
    · rw [if_neg k1_] at hm
      cases hm
  · refine xV F (c_X3_requireWave h1) tk_418 tk_415 tk_417 tu_21 tk_1 rfl 1 (by decide +kernel) rfl ⟨Nat.le_of_ble_eq_true rfl, Nat.le_of_ble_eq_true rfl⟩ hP hS (kd_k kdc_0 (by decide)) (wc3 kdc_0) rfl hl.1 rfl (Nat.le_of_ble_eq_true rfl) dX3_replenish_2 ⟨Nat.le_of_ble_eq_true rfl, Nat.le_of_ble_eq_true rfl⟩ (fun v hv => by cases hv) (fun E hE H locs q9 ce hP hS e1 e2 e3 => ?_)
    cases hE
    exact xto F hP hS (congrArg (fun z => (z, σ)) (Option.some.inj hm).symm) (by decide) (by decide) e1 e2 e3
