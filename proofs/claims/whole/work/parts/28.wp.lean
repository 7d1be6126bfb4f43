/-! ===== the class's own constructor ===== -/
def qA (c : ClassId) (f : Nat → Option Nat) : va_E := .inl (c, 16, .inr (.inr (.inr (.inr f))))
def z0 (c : ClassId) (n : Nat) : va_E := .inl (c, n, .inl (fun _ => 0))
def oC (w : Nat) : va_E := .inr (1, [.int 0, .int 0, .int 0, .int 0, .int 0, .ref w, .int 0, .int 0, .int 0])
def vC (w : Nat) : va_E := .inr (2, [.ref w, .int 0, .int 0, .int 0])
/-- orders or waves made so far: at 2k the k-th, at 2k + 1 its array; the array of references tells them -/
def Mk (mk : Nat → va_E) (zz : va_E) (i : Nat) (f : Nat → Option Nat) (Xs : va_W) : Prop := Xs.length = 2 * i ∧ ∀ k, k < i → ∃ a w, f k = some a ∧ Xs[2 * k]? = some (a, mk w) ∧ Xs[2 * k + 1]? = some (w, zz)
theorem Mk.z {mk : Nat → va_E} {zz : va_E} {f : Nat → Option Nat} : Mk mk zz 0 f [] := ⟨rfl, fun k hk => absurd hk (by omega)⟩
theorem Mk.s {mk : Nat → va_E} {zz : va_E} {i : Nat} {f : Nat → Option Nat} {Xs : va_W} (h : Mk mk zz i f Xs) (a w : Nat) : Mk mk zz (i + 1) (va_up f i (some a)) (Xs ++ [(a, mk w), (w, zz)]) := by
  obtain ⟨h1, h2⟩ := h
  refine ⟨by simp; omega, fun k hk => ?_⟩
  rcases Nat.lt_or_ge k i with q | q
  · obtain ⟨a', w', e1, e2, e3⟩ := h2 k q
    exact ⟨a', w', by simp [va_up, Nat.ne_of_lt q, e1], by rw [List.getElem?_append_left (by omega)]; exact e2, by rw [List.getElem?_append_left (by omega)]; exact e3⟩
  · have : k = i := by omega
    subst this
    refine ⟨a, w, by simp [va_up], ?_, ?_⟩
    · rw [List.getElem?_append_right (by omega), h1, Nat.sub_self]; rfl
    · rw [List.getElem?_append_right (by omega), h1, show 2 * k + 1 - 2 * k = 1 by omega]; rfl
theorem wd_at {x y : Nat × va_E} {pre Xs : va_W} : (x :: (pre ++ y :: Xs))[pre.length + 1]? = some y := by simp
theorem wd_set {x y y' : Nat × va_E} {pre Xs : va_W} : (x :: (pre ++ y :: Xs)).set (pre.length + 1) y' = x :: (pre ++ y' :: Xs) := by simp
theorem wd_app {x y : Nat × va_E} {pre Xs Ys : va_W} : (x :: (pre ++ y :: Xs)) ++ Ys = x :: (pre ++ y :: (Xs ++ Ys)) := by simp
theorem wd_ap {x : Nat × va_E} {pre Ys : va_W} : (x :: pre) ++ Ys = x :: (pre ++ Ys) := rfl
/-- sixteen orders -/
theorem k3_orders {p : Program} {l : Launch} {e : Env} {R : Room} {s : State} {m : MethodId} {args : Array Value} {below : List Frame} {meth : Method} {c : Code} {Q : State → Prop} {G : GT} (F : Fk p s args m meth c G cX3_init 3 RX3) (hR : 2 ≤ R.frames ∧ 50 ≤ R.locals) {h0 aA : Nat} {x1 : Int32} {fs : List Value} {pre : va_W} (hfs : fs[3]? = some (.ref aA)) :
    ∀ (d i cells slots : Nat) (f : Nat → Option Nat) (Xs : va_W) (H : Heap) (locs : List Loc) (ls : Array Slot), i + d = 16 → cells + 2 * d ≤ R.cells → slots + 19 * d ≤ R.slots → va_P (gD G) vwCl ((h0, .inr (3, fs)) :: (pre ++ (aA, qA (gC G 2) f) :: Xs)) H → va_D (gF G) ((h0, .inr (3, fs)) :: (pre ++ (aA, qA (gC G 2) f) :: Xs)) → va_S (gF G) s.heap H locs → Mk oC (z0 (gC G 0) 10) i f Xs → lv_has ls 3 [(0, .ref h0), (1, .int x1), (2, .int (nI i))] →
      (∀ (f : Nat → Option Nat) (Xs : va_W) (H : Heap) (locs : List Loc) (ls : Array Slot), va_P (gD G) vwCl ((h0, .inr (3, fs)) :: (pre ++ (aA, qA (gC G 2) f) :: Xs)) H → va_D (gF G) ((h0, .inr (3, fs)) :: (pre ++ (aA, qA (gC G 2) f) :: Xs)) → va_S (gF G) s.heap H locs → Mk oC (z0 (gC G 0) 10) 16 f Xs → lv_has ls 3 [(0, .ref h0), (1, .int x1)] → W p l e R s m args below meth c H locs (cells + 2 * d) (slots + 19 * d) Q (F0 m 73 ls [])) →
      W p l e R s m args below meth c H locs cells slots Q (F0 m 48 ls []) := by
  obtain ⟨hx, hb, hrt, hml, hown, hts, hlocks, hC, hin2⟩ := id F
  intro d
  induction d with
  | zero =>
    intro i cells slots f Xs H locs ls hi hc hs hP hD hS hM hl kk
    have : i = 16 := by omega
    subst this
    refine lv_iload_n hx hb dX3_init_48 rfl (lv_at hl 2 rfl) ?_
    refine lv_bipush (v := 16) hx hb dX3_init_49 (by decide) ?_
    refine lv_icmp_ge (tgt := 73) hx hb dX3_init_51 (by decide) (fun b1 => ?_) (fun b1 => absurd (show (16 : Int32) ≤ nI 16 by decide) b1)
    exact kk f Xs H locs ls hP hD hS hM (lv_sub hl [0, 1] rfl)
  | succ d ih =>
    intro i cells slots f Xs H locs ls hi hc hs hP hD hS hM hl kk
    refine lv_iload_n hx hb dX3_init_48 rfl (lv_at hl 2 rfl) ?_
    refine lv_bipush (v := 16) hx hb dX3_init_49 (by decide) ?_
    refine lv_icmp_ge (tgt := 73) hx hb dX3_init_51 (by decide) (fun b1 => ?_) (fun b1 => ?_)
    · exact absurd ((nI_leI (a := 16) (b := i) (by decide) (by omega)).mp b1) (by omega)
    refine lv_aload_n hx hb dX3_init_54 rfl (lv_at hl 0 rfl) ?_
    refine va_get hx hb hts inX3 hown hC.1 hP 0 rfl (C := RX3) rfl 3 (by decide) (hts _ tk_114) (fun _ h => h) hfs dX3_init_55 ?_
    refine lv_iload_n hx hb dX3_init_58 rfl (lv_at hl 2 rfl) ?_
    refine va_new hx hb hts inX1 tyX1 tyX1_ok hown (hts _ tk_50) (hts _ tk_52) (hts _ tk_4) hC.1 hP hD hS hC.2.2.2.2 (ci := 1) rfl (fs := [.int 0, .int 0, .int 0, .int 0, .int 0, .null, .int 0, .int 0, .int 0]) (by decide) (by omega) (by omega) dX3_init_59 (fun q H hP hD hS => ?_)
    refine lv_dup hx hb dX3_init_62 rfl ?_
    refine kIN F k_X1_init tk_55 tn_2 tk_54 tk_4 rfl (by decide +kernel) ⟨by omega, by omega⟩ hP hD hS hl.1 (Nat.le_of_ble_eq_true rfl) dX3_init_63 ⟨by omega, by omega⟩ (fun ws1 H locs hB hP hD hS => ?_)
    obtain ⟨w, rfl⟩ := hB
    rw [wd_app] at hP hD
    refine va_astq hx hb hC.1 hP hD hS (pre.length + 1) 2 (pre.length + 2 + Xs.length) 1 wd_at rfl (by
      rw [List.getElem?_cons, if_neg (by omega), List.getElem?_append_right (by omega), List.getElem?_cons, if_neg (by omega), List.getElem?_append_right (by omega), show pre.length + 2 + Xs.length - 1 - pre.length - 1 - Xs.length = 0 by omega]; rfl) rfl (vp_in_nI (n := i) (by omega) (by omega)) dX3_init_66 (fun H locs hP hD hS => ?_)
    rw [wd_set, nI_clamp (n := i) (by omega)] at hP hD
    refine lv_iinc (v := nI (i + 1)) (lv' := [(2, .int (nI (i + 1))), (0, .ref h0), (1, .int x1)]) hx hb dX3_init_67 hl (k := 2) rfl (nI_add i 1) (by decide) rfl (fun ls hl => ?_)
    refine lv_goto (tgt := 48) hx hb dX3_init_70 (by decide) ?_
    refine W.eq (g2 := F0 m 48 ls []) rfl ?_
    refine ih (i + 1) (cells + 1 + 1) (slots + 9 + 10) (va_up f i (some q)) (Xs ++ [(q, oC w), (w, z0 (gC G 0) 10)]) H locs ls (by omega) (by omega) (by omega) hP hD hS (hM.s q w) (lv_sub hl [1, 2, 0] rfl) (fun f Xs H locs ls hP hD hS hM hl => ?_)
    rw [show cells + 1 + 1 + 2 * d = cells + 2 * (d + 1) by omega, show slots + 9 + 10 + 19 * d = slots + 19 * (d + 1) by omega]
    exact kk f Xs H locs ls hP hD hS hM hl
/-- sixteen waves -/
theorem k3_waves {p : Program} {l : Launch} {e : Env} {R : Room} {s : State} {m : MethodId} {args : Array Value} {below : List Frame} {meth : Method} {c : Code} {Q : State → Prop} {G : GT} (F : Fk p s args m meth c G cX3_init 3 RX3) (hR : 2 ≤ R.frames ∧ 50 ≤ R.locals) {h0 aA : Nat} {x1 : Int32} {fs : List Value} {pre : va_W} (hfs : fs[5]? = some (.ref aA)) :
    ∀ (d i cells slots : Nat) (f : Nat → Option Nat) (Xs : va_W) (H : Heap) (locs : List Loc) (ls : Array Slot), i + d = 16 → cells + 2 * d ≤ R.cells → slots + 20 * d ≤ R.slots → va_P (gD G) vwCl ((h0, .inr (3, fs)) :: (pre ++ (aA, qA (gC G 3) f) :: Xs)) H → va_D (gF G) ((h0, .inr (3, fs)) :: (pre ++ (aA, qA (gC G 3) f) :: Xs)) → va_S (gF G) s.heap H locs → Mk vC (z0 (gC G 0) 16) i f Xs → lv_has ls 3 [(0, .ref h0), (1, .int x1), (2, .int (nI i))] →
      (∀ (f : Nat → Option Nat) (Xs : va_W) (H : Heap) (locs : List Loc) (ls : Array Slot), va_P (gD G) vwCl ((h0, .inr (3, fs)) :: (pre ++ (aA, qA (gC G 3) f) :: Xs)) H → va_D (gF G) ((h0, .inr (3, fs)) :: (pre ++ (aA, qA (gC G 3) f) :: Xs)) → va_S (gF G) s.heap H locs → Mk vC (z0 (gC G 0) 16) 16 f Xs → lv_has ls 3 [(0, .ref h0), (1, .int x1)] → W p l e R s m args below meth c H locs (cells + 2 * d) (slots + 20 * d) Q (F0 m 109 ls [])) →
      W p l e R s m args below meth c H locs cells slots Q (F0 m 84 ls []) := by
  obtain ⟨hx, hb, hrt, hml, hown, hts, hlocks, hC, hin2⟩ := id F
  intro d
  induction d with
  | zero =>
    intro i cells slots f Xs H locs ls hi hc hs hP hD hS hM hl kk
    have : i = 16 := by omega
    subst this
    refine lv_iload_n hx hb dX3_init_84 rfl (lv_at hl 2 rfl) ?_
    refine lv_bipush (v := 16) hx hb dX3_init_85 (by decide) ?_
    refine lv_icmp_ge (tgt := 109) hx hb dX3_init_87 (by decide) (fun b1 => ?_) (fun b1 => absurd (show (16 : Int32) ≤ nI 16 by decide) b1)
    exact kk f Xs H locs ls hP hD hS hM (lv_sub hl [0, 1] rfl)
  | succ d ih =>
    intro i cells slots f Xs H locs ls hi hc hs hP hD hS hM hl kk
    refine lv_iload_n hx hb dX3_init_84 rfl (lv_at hl 2 rfl) ?_
    refine lv_bipush (v := 16) hx hb dX3_init_85 (by decide) ?_
    refine lv_icmp_ge (tgt := 109) hx hb dX3_init_87 (by decide) (fun b1 => ?_) (fun b1 => ?_)
    · exact absurd ((nI_leI (a := 16) (b := i) (by decide) (by omega)).mp b1) (by omega)
    refine lv_aload_n hx hb dX3_init_90 rfl (lv_at hl 0 rfl) ?_
    refine va_get hx hb hts inX3 hown hC.1 hP 0 rfl (C := RX3) rfl 5 (by decide) (hts _ tk_116) (fun _ h => h) hfs dX3_init_91 ?_
    refine lv_iload_n hx hb dX3_init_94 rfl (lv_at hl 2 rfl) ?_
    refine va_new hx hb hts inX2 tyX2 tyX2_ok hown (hts _ tk_89) (hts _ tk_91) (hts _ tk_5) hC.1 hP hD hS hC.2.2.2.2 (ci := 2) rfl (fs := [.null, .int 0, .int 0, .int 0]) (by decide) (by omega) (by omega) dX3_init_95 (fun q H hP hD hS => ?_)
    refine lv_dup hx hb dX3_init_98 rfl ?_
    refine kIN F k_X2_init tk_94 tn_12 tk_93 tk_5 rfl (by decide +kernel) ⟨by omega, by omega⟩ hP hD hS hl.1 (Nat.le_of_ble_eq_true rfl) dX3_init_99 ⟨by omega, by omega⟩ (fun ws1 H locs hB hP hD hS => ?_)
    obtain ⟨w, rfl⟩ := hB
    rw [wd_app] at hP hD
    refine va_astq hx hb hC.1 hP hD hS (pre.length + 1) 3 (pre.length + 2 + Xs.length) 2 wd_at rfl (by
      rw [List.getElem?_cons, if_neg (by omega), List.getElem?_append_right (by omega), List.getElem?_cons, if_neg (by omega), List.getElem?_append_right (by omega), show pre.length + 2 + Xs.length - 1 - pre.length - 1 - Xs.length = 0 by omega]; rfl) rfl (vp_in_nI (n := i) (by omega) (by omega)) dX3_init_102 (fun H locs hP hD hS => ?_)
    rw [wd_set, nI_clamp (n := i) (by omega)] at hP hD
    refine lv_iinc (v := nI (i + 1)) (lv' := [(2, .int (nI (i + 1))), (0, .ref h0), (1, .int x1)]) hx hb dX3_init_103 hl (k := 2) rfl (nI_add i 1) (by decide) rfl (fun ls hl => ?_)
    refine lv_goto (tgt := 84) hx hb dX3_init_106 (by decide) ?_
    refine W.eq (g2 := F0 m 84 ls []) rfl ?_
    refine ih (i + 1) (cells + 1 + 1) (slots + 4 + 16) (va_up f i (some q)) (Xs ++ [(q, vC w), (w, z0 (gC G 0) 16)]) H locs ls (by omega) (by omega) (by omega) hP hD hS (hM.s q w) (lv_sub hl [1, 2, 0] rfl) (fun f Xs H locs ls hP hD hS hM hl => ?_)
    rw [show cells + 1 + 1 + 2 * d = cells + 2 * (d + 1) by omega, show slots + 4 + 16 + 20 * d = slots + 20 * (d + 1) by omega]
    exact kk f Xs H locs ls hP hD hS hM hl
/-- what the constructor leaves -/
def B3 (G : GT) (h0 : Nat) (z : Int32) (ws : va_W) : Prop := ∃ (d a1 a2 a3 a5 oA vA t tm : Nat) (fo fv : Nat → Option Nat) (Os Vs : va_W), Mk oC (z0 (gC G 0) 10) 16 fo Os ∧ Mk vC (z0 (gC G 0) 16) 16 fv Vs ∧ ws = (h0, .inr (3, [.int z, .ref d, .ref a5, .ref oA, .int 0, .ref vA, .int 0, .ref t])) :: (d, .inr (0, [.ref a1, .ref a2, .ref a3, .int 0])) :: (a1, z0 (gC G 0) 10) :: (a2, z0 (gC G 0) 10) :: (a3, z0 (gC G 0) 10) :: (a5, z0 (gC G 0) 10) :: (oA, qA (gC G 2) fo) :: (Os ++ (vA, qA (gC G 3) fv) :: (Vs ++ [(t, vC tm), (tm, z0 (gC G 0) 16)]))
def czz (x : Int32) : Int32 := if 0 < (if 65536 < x then 65536 else x) then (if 65536 < x then 65536 else x) else 0
set_option maxHeartbeats 4000000 in
set_option maxRecDepth 100000 in
theorem k_X3_init {l : Launch} {G : GT} {h0 : Nat} {x1 : Int32} : MK l G yX3_init cX3_init 3 3 80 73 720 [.ref h0, .int x1] [(h0, .inr (3, [.int 0, .null, .null, .null, .int 0, .null, .int 0, .null]))] (B3 G h0 (czz x1)) := by
  refine kbody (by decide) rfl (Nat.le_of_ble_eq_true rfl) ?_
  intro p e s m args below meth c F hP hD ls hl
  have F : Fk p s args m meth c G cX3_init 3 RX3 := F
  obtain ⟨hx, hb, hrt, hml, hown, hts, hlocks, hC, hin2⟩ := id F
  have hS : va_S (gF G) s.heap s.heap [] := va_S.rf
  have hl : lv_has ls 3 [(0, .ref h0), (1, .int x1)] := hl
  refine lv_aload_n hx hb dX3_init_0 rfl (lv_at hl 0 rfl) ?_
  refine kobj F tk_19 tk_20 tk_21 hl.1 dX3_init_1 (Nat.le_of_ble_eq_true rfl) (Nat.le_of_ble_eq_true rfl) ?_
  refine lv_aload_n hx hb dX3_init_4 rfl (lv_at hl 0 rfl) ?_
  refine lv_iconst (v := 0) hx hb dX3_init_5 (by decide) ?_
  refine lv_iload_n hx hb dX3_init_6 rfl (lv_at hl 1 rfl) ?_
  refine lv_ldc (v := 65536) hx hb hown (hts _ tk_22) dX3_init_7 ?_
  refine va_mmin hx hb (hml.trans hl.1.symm) hown (hts _ tk_23) (hts _ tk_24) (hts _ tk_2) (hts _ tk_25) (Nat.le_of_ble_eq_true rfl) (Nat.le_of_ble_eq_true rfl) (Nat.le_of_ble_eq_true rfl) (Nat.le_of_ble_eq_true rfl) dX3_init_9 ?_
  refine va_mmax hx hb (hml.trans hl.1.symm) hown (hts _ tk_26) (hts _ tk_27) (hts _ tk_2) (hts _ tk_28) (Nat.le_of_ble_eq_true rfl) (Nat.le_of_ble_eq_true rfl) (Nat.le_of_ble_eq_true rfl) (Nat.le_of_ble_eq_true rfl) dX3_init_12 ?_
  refine va_putF (v := .int (czz x1)) hx hb hts inX3 tyX3 tyX3_ok nmX3 hown hC.1 hP hD hS 0 rfl (C := RX3) rfl 0 (by decide) (hts _ tk_111) (fun _ h => h) rfl hin2 rfl (tyX3_ok 0 (by decide)) rfl rfl (Nat.le_of_ble_eq_true rfl) dX3_init_15 (fun H locs hP hD hS => ?_)
  replace hP : va_P (gD G) vwCl [(h0, .inr (3, [.int (czz x1), .null, .null, .null, .int 0, .null, .int 0, .null]))] H := hP
  replace hD : va_D (gF G) [(h0, .inr (3, [.int (czz x1), .null, .null, .null, .int 0, .null, .int 0, .null]))] := hD
  refine lv_aload_n hx hb dX3_init_18 rfl (lv_at hl 0 rfl) ?_
  refine va_new hx hb hts inX0 tyX0 tyX0_ok hown (hts _ tk_29) (hts _ tk_30) (hts _ tk_3) hC.1 hP hD hS hC.2.2.2.2 (ci := 0) rfl (fs := [.null, .null, .null, .int 0]) (by decide) (Nat.le_of_ble_eq_true rfl) (Nat.le_of_ble_eq_true rfl) dX3_init_19 (fun q H hP hD hS => ?_)
  refine lv_dup hx hb dX3_init_22 rfl ?_
  refine kIN F k_X0_init tk_33 tn_0 tk_32 tk_3 rfl (by decide +kernel) ⟨Nat.le_of_ble_eq_true rfl, Nat.le_of_ble_eq_true rfl⟩ hP hD hS hl.1 (Nat.le_of_ble_eq_true rfl) dX3_init_23 ⟨Nat.le_of_ble_eq_true rfl, Nat.le_of_ble_eq_true rfl⟩ (fun ws1 H locs hB hP hD hS => ?_)
  obtain ⟨a1, a2, a3, rfl⟩ := hB
  replace hP : va_P (gD G) vwCl ((h0, .inr (3, [.int (czz x1), .null, .null, .null, .int 0, .null, .int 0, .null])) :: (q, .inr (0, [.ref a1, .ref a2, .ref a3, .int 0])) :: (a1, z0 (gC G 0) 10) :: (a2, z0 (gC G 0) 10) :: (a3, z0 (gC G 0) 10) :: []) H := hP
  replace hD : va_D (gF G) ((h0, .inr (3, [.int (czz x1), .null, .null, .null, .int 0, .null, .int 0, .null])) :: (q, .inr (0, [.ref a1, .ref a2, .ref a3, .int 0])) :: (a1, z0 (gC G 0) 10) :: (a2, z0 (gC G 0) 10) :: (a3, z0 (gC G 0) 10) :: []) := hD
  refine va_putF (v := .ref q) hx hb hts inX3 tyX3 tyX3_ok nmX3 hown hC.1 hP hD hS 0 rfl (C := RX3) rfl 1 (by decide) (hts _ tk_112) (fun _ h => h) rfl hin2 rfl (tyX3_ok 1 (by decide)) rfl rfl (Nat.le_of_ble_eq_true rfl) dX3_init_26 (fun H locs hP hD hS => ?_)
  replace hP : va_P (gD G) vwCl ((h0, .inr (3, [.int (czz x1), .ref q, .null, .null, .int 0, .null, .int 0, .null])) :: (q, .inr (0, [.ref a1, .ref a2, .ref a3, .int 0])) :: (a1, z0 (gC G 0) 10) :: (a2, z0 (gC G 0) 10) :: (a3, z0 (gC G 0) 10) :: []) H := hP
  replace hD : va_D (gF G) ((h0, .inr (3, [.int (czz x1), .ref q, .null, .null, .int 0, .null, .int 0, .null])) :: (q, .inr (0, [.ref a1, .ref a2, .ref a3, .int 0])) :: (a1, z0 (gC G 0) 10) :: (a2, z0 (gC G 0) 10) :: (a3, z0 (gC G 0) 10) :: []) := hD
  refine lv_aload_n hx hb dX3_init_29 rfl (lv_at hl 0 rfl) ?_
  refine lv_bipush (v := 10) hx hb dX3_init_30 (by decide) ?_
  refine kArr (w0 := []) F (N := 10) (t0 := 0) (ty := .int) 2 inX3 tyX3_ok nmX3 hP hD hS rfl (by decide) tk_113 rfl rfl rfl (Nat.le_of_ble_eq_true rfl) tk_49 rfl rfl rfl (by decide) (by decide) (by decide) (Nat.le_of_ble_eq_true rfl) (Nat.le_of_ble_eq_true rfl) dX3_init_32 dX3_init_34 (fun a5 H locs hP hD hS => ?_)
  replace hP : va_P (gD G) vwCl ((h0, .inr (3, [.int (czz x1), .ref q, .ref a5, .null, .int 0, .null, .int 0, .null])) :: (q, .inr (0, [.ref a1, .ref a2, .ref a3, .int 0])) :: (a1, z0 (gC G 0) 10) :: (a2, z0 (gC G 0) 10) :: (a3, z0 (gC G 0) 10) :: (a5, z0 (gC G 0) 10) :: []) H := hP
  replace hD : va_D (gF G) ((h0, .inr (3, [.int (czz x1), .ref q, .ref a5, .null, .int 0, .null, .int 0, .null])) :: (q, .inr (0, [.ref a1, .ref a2, .ref a3, .int 0])) :: (a1, z0 (gC G 0) 10) :: (a2, z0 (gC G 0) 10) :: (a3, z0 (gC G 0) 10) :: (a5, z0 (gC G 0) 10) :: []) := hD
  refine lv_aload_n hx hb dX3_init_37 rfl (lv_at hl 0 rfl) ?_
  refine lv_bipush (v := 16) hx hb dX3_init_38 (by decide) ?_
  refine va_newq hx hb hown (hts _ tk_50) hC.2.2.1 hC.1 hP hD hS hC.2.2.2.2 (n := 16) (N' := 16) (by decide) (by decide) (by decide) (Nat.le_of_ble_eq_true rfl) (Nat.le_of_ble_eq_true rfl) dX3_init_40 (fun oA cA H hK hP hD hS => ?_)
  have hcA : cA = gC G 2 := zk_eq (ty := .object RX1) (c1 := cA) (c2 := gC G 2) (i := (tyG G).length) (j := 2) hK (by simp) (by rw [List.getElem?_append_left (by show _ < 5; decide)]; rfl)
  rw [hcA] at hP hD
  replace hP : va_P (gD G) vwCl ((h0, .inr (3, [.int (czz x1), .ref q, .ref a5, .null, .int 0, .null, .int 0, .null])) :: (q, .inr (0, [.ref a1, .ref a2, .ref a3, .int 0])) :: (a1, z0 (gC G 0) 10) :: (a2, z0 (gC G 0) 10) :: (a3, z0 (gC G 0) 10) :: (a5, z0 (gC G 0) 10) :: (oA, qA (gC G 2) (fun _ => none)) :: []) H := hP
  replace hD : va_D (gF G) ((h0, .inr (3, [.int (czz x1), .ref q, .ref a5, .null, .int 0, .null, .int 0, .null])) :: (q, .inr (0, [.ref a1, .ref a2, .ref a3, .int 0])) :: (a1, z0 (gC G 0) 10) :: (a2, z0 (gC G 0) 10) :: (a3, z0 (gC G 0) 10) :: (a5, z0 (gC G 0) 10) :: (oA, qA (gC G 2) (fun _ => none)) :: []) := hD
  refine va_putF (v := .ref oA) hx hb hts inX3 tyX3 tyX3_ok nmX3 hown hC.1 hP hD hS 0 rfl (C := RX3) rfl 3 (by decide) (hts _ tk_114) (fun _ h => h) rfl hin2 rfl (tyX3_ok 3 (by decide)) rfl rfl (Nat.le_of_ble_eq_true rfl) dX3_init_43 (fun H locs hP hD hS => ?_)
  replace hP : va_P (gD G) vwCl ((h0, .inr (3, [.int (czz x1), .ref q, .ref a5, .ref oA, .int 0, .null, .int 0, .null])) :: (((q, .inr (0, [.ref a1, .ref a2, .ref a3, .int 0])) :: (a1, z0 (gC G 0) 10) :: (a2, z0 (gC G 0) 10) :: (a3, z0 (gC G 0) 10) :: (a5, z0 (gC G 0) 10) :: []) ++ (oA, qA (gC G 2) (fun _ => none)) :: [])) H := hP
  replace hD : va_D (gF G) ((h0, .inr (3, [.int (czz x1), .ref q, .ref a5, .ref oA, .int 0, .null, .int 0, .null])) :: (((q, .inr (0, [.ref a1, .ref a2, .ref a3, .int 0])) :: (a1, z0 (gC G 0) 10) :: (a2, z0 (gC G 0) 10) :: (a3, z0 (gC G 0) 10) :: (a5, z0 (gC G 0) 10) :: []) ++ (oA, qA (gC G 2) (fun _ => none)) :: [])) := hD
  refine lv_iconst (v := 0) hx hb dX3_init_46 (by decide) ?_
  refine lv_istore_n (lv' := [(2, .int 0), (0, .ref h0), (1, .int x1)]) hx hb dX3_init_47 rfl hl (by decide) rfl (fun ls hl => ?_)
  refine k3_orders F ⟨Nat.le_of_ble_eq_true rfl, Nat.le_of_ble_eq_true rfl⟩ (fs := [.int (czz x1), .ref q, .ref a5, .ref oA, .int 0, .null, .int 0, .null]) (pre := (q, .inr (0, [.ref a1, .ref a2, .ref a3, .int 0])) :: (a1, z0 (gC G 0) 10) :: (a2, z0 (gC G 0) 10) :: (a3, z0 (gC G 0) 10) :: (a5, z0 (gC G 0) 10) :: []) rfl 16 0 _ _ _ _ H locs ls (by decide) (Nat.le_of_ble_eq_true rfl) (Nat.le_of_ble_eq_true rfl) hP hD hS Mk.z (lv_sub hl [1, 2, 0] rfl) (fun fo Os H locs ls hP hD hS hO hl => ?_)
  refine lv_aload_n hx hb dX3_init_73 rfl (lv_at hl 0 rfl) ?_
  refine lv_bipush (v := 16) hx hb dX3_init_74 (by decide) ?_
  refine va_newq hx hb hown (hts _ tk_89) hC.2.2.2.1 hC.1 hP hD hS hC.2.2.2.2 (n := 16) (N' := 16) (by decide) (by decide) (by decide) (Nat.le_of_ble_eq_true rfl) (Nat.le_of_ble_eq_true rfl) dX3_init_76 (fun vA cA H hK hP hD hS => ?_)
  have hcA : cA = gC G 3 := zk_eq (ty := .object RX2) (c1 := cA) (c2 := gC G 3) (i := (tyG G).length) (j := 3) hK (by simp) (by rw [List.getElem?_append_left (by show _ < 5; decide)]; rfl)
  rw [hcA] at hP hD
  rw [wd_app] at hP hD
  refine va_putF (v := .ref vA) hx hb hts inX3 tyX3 tyX3_ok nmX3 hown hC.1 hP hD hS 0 rfl (C := RX3) rfl 5 (by decide) (hts _ tk_116) (fun _ h => h) rfl hin2 rfl (tyX3_ok 5 (by decide)) rfl rfl (Nat.le_of_ble_eq_true rfl) dX3_init_79 (fun H locs hP hD hS => ?_)
  have hw : ∀ Xs : va_W, (((q, .inr (0, [.ref a1, .ref a2, .ref a3, .int 0])) :: (a1, z0 (gC G 0) 10) :: (a2, z0 (gC G 0) 10) :: (a3, z0 (gC G 0) 10) :: (a5, z0 (gC G 0) 10) :: []) ++ (oA, qA (gC G 2) fo) :: (Os ++ Xs)) = ((((q, .inr (0, [.ref a1, .ref a2, .ref a3, .int 0])) :: (a1, z0 (gC G 0) 10) :: (a2, z0 (gC G 0) 10) :: (a3, z0 (gC G 0) 10) :: (a5, z0 (gC G 0) 10) :: []) ++ (oA, qA (gC G 2) fo) :: Os)) ++ Xs := fun Xs => by simp
  replace hP : va_P (gD G) vwCl ((h0, .inr (3, [.int (czz x1), .ref q, .ref a5, .ref oA, .int 0, .ref vA, .int 0, .null])) :: (((q, .inr (0, [.ref a1, .ref a2, .ref a3, .int 0])) :: (a1, z0 (gC G 0) 10) :: (a2, z0 (gC G 0) 10) :: (a3, z0 (gC G 0) 10) :: (a5, z0 (gC G 0) 10) :: []) ++ (oA, qA (gC G 2) fo) :: (Os ++ [(vA, qA (gC G 3) (fun _ => none))]))) H := hP
  replace hD : va_D (gF G) ((h0, .inr (3, [.int (czz x1), .ref q, .ref a5, .ref oA, .int 0, .ref vA, .int 0, .null])) :: (((q, .inr (0, [.ref a1, .ref a2, .ref a3, .int 0])) :: (a1, z0 (gC G 0) 10) :: (a2, z0 (gC G 0) 10) :: (a3, z0 (gC G 0) 10) :: (a5, z0 (gC G 0) 10) :: []) ++ (oA, qA (gC G 2) fo) :: (Os ++ [(vA, qA (gC G 3) (fun _ => none))]))) := hD
  rw [hw] at hP hD
  refine lv_iconst (v := 0) hx hb dX3_init_82 (by decide) ?_
  refine lv_istore_n (lv' := [(2, .int 0), (0, .ref h0), (1, .int x1)]) hx hb dX3_init_83 rfl hl (by decide) rfl (fun ls hl => ?_)
  refine k3_waves F ⟨Nat.le_of_ble_eq_true rfl, Nat.le_of_ble_eq_true rfl⟩ (fs := [.int (czz x1), .ref q, .ref a5, .ref oA, .int 0, .ref vA, .int 0, .null]) (pre := ((((q, .inr (0, [.ref a1, .ref a2, .ref a3, .int 0])) :: (a1, z0 (gC G 0) 10) :: (a2, z0 (gC G 0) 10) :: (a3, z0 (gC G 0) 10) :: (a5, z0 (gC G 0) 10) :: []) ++ (oA, qA (gC G 2) fo) :: Os))) rfl 16 0 _ _ _ _ H locs ls (by decide) (Nat.le_of_ble_eq_true rfl) (Nat.le_of_ble_eq_true rfl) hP hD hS Mk.z (lv_sub hl [1, 2, 0] rfl) (fun fv Vs H locs ls hP hD hS hV hl => ?_)
  refine lv_aload_n hx hb dX3_init_109 rfl (lv_at hl 0 rfl) ?_
  refine va_new hx hb hts inX2 tyX2 tyX2_ok hown (hts _ tk_89) (hts _ tk_91) (hts _ tk_5) hC.1 hP hD hS hC.2.2.2.2 (ci := 2) rfl (fs := [.null, .int 0, .int 0, .int 0]) (by decide) (Nat.le_of_ble_eq_true rfl) (Nat.le_of_ble_eq_true rfl) dX3_init_110 (fun t H hP hD hS => ?_)
  refine lv_dup hx hb dX3_init_113 rfl ?_
  refine kIN F k_X2_init tk_94 tn_12 tk_93 tk_5 rfl (by decide +kernel) ⟨Nat.le_of_ble_eq_true rfl, Nat.le_of_ble_eq_true rfl⟩ hP hD hS hl.1 (Nat.le_of_ble_eq_true rfl) dX3_init_114 ⟨Nat.le_of_ble_eq_true rfl, Nat.le_of_ble_eq_true rfl⟩ (fun ws1 H locs hB hP hD hS => ?_)
  obtain ⟨tm, rfl⟩ := hB
  rw [wd_app] at hP hD
  refine va_putF (v := .ref t) hx hb hts inX3 tyX3 tyX3_ok nmX3 hown hC.1 hP hD hS 0 rfl (C := RX3) rfl 7 (by decide) (hts _ tk_118) (fun _ h => h) rfl hin2 rfl (tyX3_ok 7 (by decide)) rfl rfl (Nat.le_of_ble_eq_true rfl) dX3_init_117 (fun H locs hP hD hS => ?_)
  exact kend F hP hD hS ⟨q, a1, a2, a3, a5, oA, vA, t, tm, fo, fv, Os, Vs, hO, hV, by simp [vC, z0]⟩ (Nat.le_of_ble_eq_true rfl) (Nat.le_of_ble_eq_true rfl) dX3_init_120
