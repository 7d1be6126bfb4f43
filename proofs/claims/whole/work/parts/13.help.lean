/-! ===== the law's own small methods: one call of the class each, its exceptions turned to numbers ===== -/
def ncs : List (String × String) := [("java/lang/IllegalArgumentException", "java/lang/IllegalStateException"), ("java/lang/IllegalArgumentException", "java/lang/UnsupportedOperationException"), ("java/lang/IllegalArgumentException", "java/util/NoSuchElementException"), ("java/lang/IllegalStateException", "java/lang/IllegalArgumentException"), ("java/lang/IllegalStateException", "java/lang/UnsupportedOperationException"), ("java/lang/IllegalStateException", "java/util/NoSuchElementException"), ("java/lang/UnsupportedOperationException", "java/lang/IllegalArgumentException"), ("java/lang/UnsupportedOperationException", "java/lang/IllegalStateException"), ("java/lang/UnsupportedOperationException", "java/util/NoSuchElementException"), ("java/util/NoSuchElementException", "java/lang/IllegalArgumentException"), ("java/util/NoSuchElementException", "java/lang/IllegalStateException"), ("java/util/NoSuchElementException", "java/lang/UnsupportedOperationException")]
def HQ (G : GT) (lo : Nat → Int64) (k : Int32) (σ : St) : Array Value → State → Outcome → State → Prop := fun _ st oc t => oc = .returned (some (.int k)) ∧ va_P (gD G) vwCl (wld G lo σ) t.heap ∧ va_F (gF G) st t
def PWl (G : GT) (lo : Nat → Int64) (vs : List (Int32 ⊕ Nat)) (σ : St) : Array Value → State → Prop := va_Pc (vs.map (cv G)) (fun U => va_P (gD G) vwCl (wld G lo σ) U.heap ∧ Cx G U ∧ ∀ q ∈ ncs, va_Nc q.1 q.2 U)
def HC (l : Launch) (G : GT) (y : MethodName) (cc : ByteArray) (maxL : Nat) (hh : List (Nat × Nat × Nat × Nat)) (fr wl mc ms : Nat) (vs : List (Int32 ⊕ Nat)) (lo : Nat → Int64) (σ : St) (lo' : Nat → Int64) (k : Int32) (σ' : St) : Prop :=
  l.stackTraces = false → Met l y (Cond.codeWith y cc maxL (some .int) hh :: TB) (RM fr wl mc ms) (PWl G lo vs σ) (HQ G lo' k σ') mc ms (gF G)
def Fh (p : Program) (l : Launch) (s : State) (args : Array Value) (m : MethodId) (meth : Method) (c : Code) (G : GT) (cc : ByteArray) (nL : Nat) (hh : List (Nat × Nat × Nat × Nat)) : Prop :=
  p.tables.exec = Jvm.exec ∧ c.code = cc ∧ meth.sig.returnType = some .int ∧ c.maxLocals = nL ∧ s.vm.findClass RL = some m.cls ∧ (∀ w ∈ TB, w.before args s = true) ∧ meth.locks = false ∧ Cx G s ∧ (∀ q ∈ ncs, va_Nc q.1 q.2 s) ∧ c.exceptionTable.toList = tableOf hh ∧ l.stackTraces = false
theorem hbody {l : Launch} {G : GT} {y : MethodName} {cc : ByteArray} {maxL : Nat} {hh : List (Nat × Nat × Nat × Nat)} {fr wl mc ms : Nat} {vs : List (Int32 ⊕ Nat)} {lo lo' : Nat → Int64} {σ σ' : St} {k : Int32} (hy : plainName y.cls = true) (hyc : y.cls = RL) (hn : (lg_sl (vs.map (cv G))).length ≤ maxL)
    (body : ∀ (p : Program) (e : Env) (s : State) (m : MethodId) (args : Array Value) (below : List Frame) (meth : Method) (c : Code), Fh p l s args m meth c G cc maxL hh → va_P (gD G) vwCl (wld G lo σ) s.heap → ∀ ls : Array Slot, lv_has ls maxL (lv_args 0 (vs.map (cv G))) →
      W p l e (RM fr wl mc ms) s m args below meth c s.heap [] 0 0 (MQ below (HQ G lo' k σ') args s mc ms (gF G)) (F0 m 0 ls [])) : HC l G y cc maxL hh fr wl mc ms vs lo σ lo' k σ' := by
  intro hst
  refine va_MetW (cc := cc) (maxL := maxL) (ret := some .int) (hh := hh) hy rfl ?_
  intro p e s m args below meth c s₁ B hml hv
  obtain ⟨rfl, hP, hC, hnc⟩ := hv
  have hts := atoms_spec (ws := Cond.codeWith y cc maxL (some .int) hh :: TB) B.pre
  have hown : s.vm.findClass y.cls = some m.cls := findClass_of_methodNamed B.named
  rw [hyc] at hown
  have hl := lv_entry (vs.map (cv G)) (n := maxL) hn
  rw [lg_entry_eq]
  exact body p e s m _ below meth c ⟨B.exec, B.bytes, B.returns, hml, hown, fun w h => hts w (List.mem_cons_of_mem _ h), B.notSynchronized, hC, hnc, vx_table (x := y) B (hts _ List.mem_cons_self), hst⟩ hP _ hl
section
variable {p : Program} {l : Launch} {e : Env} {R : Room} {s : State} {m : MethodId} {args : Array Value} {below : List Frame} {meth : Method} {c : Code} {H : Heap} {locs : List Loc} {cells slots : Nat} {Q : State → Prop}
variable {cc : ByteArray} {nL : Nat} {hh : List (Nat × Nat × Nat × Nat)} {pc : Nat} {ls : Array Slot} {rest st0 : List Value} {G : GT} {lo : Nat → Int64} {σ : St} {r : RV × St} {mc ms : Nat}
theorem hend (F : Fh p l s args m meth c G cc nL hh) {k : Int32} (hP : va_P (gD G) vwCl (wld G lo σ) H) (hS : va_S (gF G) s.heap H locs) (hc : cells ≤ mc) (hs : slots ≤ ms) (hdg : decode cc pc = .ok (.ireturn, 1)) :
    W p l e R s m args below meth c H locs cells slots (MQ below (HQ G lo k σ) args s mc ms (gF G)) (F0 m pc ls [.int k]) := by
  obtain ⟨hx, hb, hrt, hml, hown, hts, hlocks, hC, hnc, htab, hst⟩ := F
  refine W.widen (k := mc) (n := ms) hc hs ?_
  exact W.iret hx hb hrt (fun t ht _ => ⟨rfl, by rw [ht]; exact hP, hS.F ht⟩) hS.2.2 hdg hlocks
theorem wcell_lo {G : GT} {lo lo' : Nat → Int64} {σ : St} {q : Nat} (h : kd q ≠ 9) (hq : q < 92) : wcell G lo' σ q = wcell G lo σ q := by
  have : ∀ q, q < 92 → kd q ≠ 9 → kd q = 0 ∨ kd q = 1 ∨ kd q = 2 ∨ kd q = 3 ∨ kd q = 4 ∨ kd q = 5 ∨ kd q = 6 ∨ kd q = 7 ∨ kd q = 8 := by decide +kernel
  rcases this q hq h with h | h | h | h | h | h | h | h | h <;> simp [wcell, h]
theorem hlast (F : Fh p l s args m meth c G cc nL hh) {x : Int64} (hP : va_P (gD G) vwCl (wld G lo σ) H) (hS : va_S (gF G) s.heap H locs) (hdg : decode cc pc = .ok (.lastore, 1))
    (kk : ∀ (H1 : Heap) (locs1 : List Loc), va_P (gD G) vwCl (wld G (vp_updL lo 0 x) σ) H1 → va_S (gF G) s.heap H1 locs1 → W p l e R s m args below meth c H1 locs1 cells slots Q (F0 m (pc + 1) ls rest)) : W p l e R s m args below meth c H locs cells slots Q (F0 m pc ls (.long x :: .int 0 :: .ref (gA G 25) :: rest)) := by
  obtain ⟨hx, hb, hrt, hml, hown, hts, hlocks, hC, hnc, htab, hst⟩ := F
  refine va_last hx hb hC.2.1 hP hC.apart hS 25 4 (by rw [wld_at (by decide), wc9 kdc_25]) rfl (show ¬ ((0 : Int32) < 0 ∨ 1 ≤ (0 : Int32).toNatClampNeg) by decide) hdg (fun H1 locs1 hP1 _ hS1 => ?_)
  have hw : (wld G lo σ).set 25 (gA G 25, .inl (gC G 4, 1, .inr (.inl (vp_updL lo (0 : Int32).toNatClampNeg x)))) = wld G (vp_updL lo 0 x) σ := by
    apply List.ext_getElem?
    intro i
    rw [List.getElem?_set]
    have hl : (wld G lo σ).length = 92 := by simp [wld]
    by_cases hi : 25 = i
    · subst hi
      rw [if_pos rfl, if_pos (by rw [hl]; decide), wld_at (by decide), wc9 kdc_25]
      rfl
    · rw [if_neg hi]
      rcases Nat.lt_or_ge i 92 with q | q
      · rw [wld_at q, wld_at q]
        have h9 : ∀ i, i < 92 → 25 ≠ i → kd i ≠ 9 := by decide +kernel
        rw [wcell_lo (lo := lo) (lo' := vp_updL lo 0 x) (h9 i q hi) q]
      · rw [wld_none q, wld_none q]
  rw [hw] at hP1
  exact kk H1 locs1 hP1 hS1
/-- a public method of the class -/
theorem xVh (F : Fh p l s args m meth c G cc nL hh) {y : MethodName} {bytes : ByteArray} {maxL fr wl index ci q : Nat} {ret' : Option FieldType} {C : String} {vs : List (Int32 ⊕ Nat)} {fs : List Value} {T : u_T} {N : Nat} (hM : MC l G y bytes maxL ret' fr wl mc ms (.inr q :: vs) σ r) (hcode : Cond.code y bytes maxL ret' ∈ TB) (hlink : Cond.methodLink RL index y ∈ TB) (hinst : Cond.instanceMethod y ∈ TB) (hsel : Cond.selects C y y ∈ TB) (hini : Cond.initialized C ∈ TB) (hyc : y.cls = C)
    (n : Nat) (hd : y.cls ≠ "java/lang/invoke/MethodHandle" ∧ y.cls ≠ "java/lang/invoke/VarHandle" ∧ (parseMethodDescriptor y.desc).map (fun d => d.parameters.length) = some n) (hn : vs.length = n) (hR : fr + 1 ≤ R.frames ∧ 8 + (maxL + 11) + wl ≤ R.locals) (hP : va_P (gD G) vwCl (wld G lo σ) H) (hS : va_S (gF G) s.heap H locs) (hq : q < 92) (he : wcell G lo σ q = .inr (ci, fs)) (hcl : vwCl[ci]? = some (C, T, N)) (hsize : ls.size = nL) (hst0 : st0 = (vs.map (cv G)).reverse ++ .ref (gA G q) :: rest) (hW : (rest.map fun v => v.category).sum ≤ 8) (hdg : decode cc pc = .ok (.invokevirtual index, 3)) (hf : cells + mc ≤ R.cells ∧ slots + ms ≤ R.slots)
    (kk : ∀ v : Option (Int32 ⊕ Nat), r.1 = .inl v → ∀ (H1 : Heap) (locs1 : List Loc), va_P (gD G) vwCl (wld G lo r.2) H1 → va_S (gF G) s.heap H1 locs1 → W p l e R s m args below meth c H1 locs1 (cells + mc) (slots + ms) Q (F0 m (pc + 3) ls ((v.map (cv G)).toList ++ rest)))
    (kx : ∀ E : String, r.1 = .inr E → ∀ (H1 : Heap) (locs1 : List Loc) (q9 : Addr) (ce : Cell), va_P (gD G) vwCl (wld G lo r.2) H1 → va_S (gF G) s.heap H1 locs1 → H1[q9]? = some ce → ce.vm = .none → s.vm.findClass E = some ce.cls → vx_W p l e R s m args below meth c H1 locs1 (cells + mc) (slots + ms) Q (F0 m pc ls rest) q9) : W p l e R s m args below meth c H locs cells slots Q (F0 m pc ls st0) := by
  subst hn
  obtain ⟨hx, hb, hrt, hml, hown, hts, hlocks, hC, hnc, htab, hst⟩ := F
  obtain ⟨hp1, hp2⟩ := xpre (vs := .inr q :: vs) hC hP hS
  exact xkX (vx_runV (C := C) (b := gA G q) (As := vs.map (cv G)) (rest := rest) ⟨hx, hb, hml, hown, hts⟩ (hM hst lo) ⟨callB_of vs.length hts (gTB hcode) rfl rfl rfl (by rw [hyc]; exact hts _ hini) (hts _ hlink) hd hR, hts _ hinst, hts _ hsel⟩ ⟨hp1, va_recv hC.2.1 hP hcl (by rw [wld_at hq, he]), hp2⟩ rfl (by simp) hsize hst0 (lv_room hW) hdg hf) hS kk kx
end
/-- the number of an exception among those that a method is said to throw -/
def cdx : List String → Int32 → String → Option Int32
  | [], _, _ => none
  | n :: r, k, E => if E = n then some k else cdx r (k + 1) E
/-- what a small method answers, and what it leaves in 'out': of an int, of a boolean, of nothing -/
def oI (ns : List String) (lo : Nat → Int64) (rv : RV) : Option (Int32 × (Nat → Int64)) := match rv with
  | .inl (some (.inl x)) => some (0, vp_updL lo 0 x.toInt64)
  | .inr E => (cdx ns 1 E).map (fun k => (k, lo))
  | _ => none
def oZ (ns : List String) (lo : Nat → Int64) (rv : RV) : Option (Int32 × (Nat → Int64)) := match rv with
  | .inl (some (.inl x)) => some (0, vp_updL lo 0 (if x = 0 then 0 else 1))
  | .inr E => (cdx ns 1 E).map (fun k => (k, lo))
  | _ => none
def oV (ns : List String) (lo : Nat → Int64) (rv : RV) : Option (Int32 × (Nat → Int64)) := match rv with
  | .inl none => some (0, lo)
  | .inr E => (cdx ns 1 E).map (fun k => (k, lo))
  | _ => none

set_option maxHeartbeats 4000000 in
set_option maxRecDepth 100000 in
theorem h_carrier {l : Launch} {G : GT} {lo lo1 : Nat → Int64} {σ : St} {x1 x2 : Int32} {r : RV × St} {k : Int32} (hm : f_X3_carrier σ x1 x2 = some r) (hk : oV ["java/util/NoSuchElementException", "java/lang/IllegalArgumentException", "java/lang/IllegalStateException"] lo r.1 = some (k, lo1)) : HC l G yL_carrier cL_carrier 4 [(0, 6, 9, 20), (0, 6, 12, 13), (0, 6, 15, 22)] 8 135 3 18 [.inr 0, .inl x1, .inl x2] lo σ lo1 k r.2 := by
  refine hbody (by decide) rfl (Nat.le_of_ble_eq_true rfl) ?_
  intro p e s m args below meth c F hP ls hl
  obtain ⟨hx, hb, hrt, hml, hown, hts, hlocks, hC, hnc, htab, hst⟩ := id F
  have hS : va_S (gF G) s.heap s.heap [] := va_S.rf
  have hl : lv_has ls 4 [(0, .ref (gA G 0)), (1, .int x1), (2, .int x2)] := hl
  refine lv_aload_n hx hb dL_carrier_0 rfl (lv_at hl 0 rfl) ?_
  refine lv_iload_n hx hb dL_carrier_1 rfl (lv_at hl 1 rfl) ?_
  refine lv_iload_n hx hb dL_carrier_2 rfl (lv_at hl 2 rfl) ?_
  refine xVh F (c_X3_carrier hm) tk_329 tk_326 tk_327 tk_328 tk_1 rfl 2 (by decide +kernel) rfl ⟨Nat.le_of_ble_eq_true rfl, Nat.le_of_ble_eq_true rfl⟩ hP hS (kd_k kdc_0 (by decide)) (wc3 kdc_0) rfl hl.1 rfl (Nat.le_of_ble_eq_true rfl) dL_carrier_3 ⟨Nat.le_of_ble_eq_true rfl, Nat.le_of_ble_eq_true rfl⟩ (fun v hv H locs hP hS => ?_) (fun E hE H locs q9 ce hP hS e1 e2 e3 => ?_)
  · rw [hv] at hk
    replace hP : va_P (gD G) vwCl (wld G lo r.2) H := hP
    rcases v with _ | (x | q)
    · cases hk
      refine W.eq (g2 := F0 m 6 ls []) rfl ?_
      refine lv_goto (tgt := 18) hx hb dL_carrier_6 (by decide) ?_
      refine lv_iconst (v := 0) hx hb dL_carrier_18 (by decide) ?_
      exact hend F hP hS (by decide) (by decide) dL_carrier_19
    · cases hk
    · cases hk
  · rw [hE] at hk
    replace hP : va_P (gD G) vwCl (wld G lo r.2) H := hP
    by_cases j1 : E = "java/util/NoSuchElementException"
    · subst j1
      simp [oV, cdx] at hk
      obtain ⟨rfl, rfl⟩ := hk
      refine zc_catch (name := "java/util/NoSuchElementException") hown [] ⟨0, 6, 9, 20⟩ [⟨0, 6, 12, 13⟩, ⟨0, 6, 15, 22⟩] (htab.trans rfl) (fun _ h => nomatch h) (by decide) (by decide) (hts _ tk_276) (va_Nw.use rfl (hC.2.2.1 _ tn_26)) e1 e2 e3 ?_
      refine lv_astore_n (lv' := [(3, .ref q9), (0, .ref (gA G 0)), (1, .int x1), (2, .int x2)]) hx hb dL_carrier_9 rfl hl (by decide) rfl (fun ls hl => ?_)
      refine lv_iconst (v := 1) hx hb dL_carrier_10 (by decide) ?_
      exact hend F hP hS (by decide) (by decide) dL_carrier_11
    by_cases j2 : E = "java/lang/IllegalArgumentException"
    · subst j2
      simp [oV, cdx] at hk
      obtain ⟨rfl, rfl⟩ := hk
      refine zc_catch (name := "java/lang/IllegalArgumentException") hown [⟨0, 6, 9, 20⟩] ⟨0, 6, 12, 13⟩ [⟨0, 6, 15, 22⟩] (htab.trans rfl) (List.forall_mem_cons.mpr ⟨⟨by decide, by decide, _, hts _ tk_276, hnc _ (List.mem_of_getElem? (i := 2) rfl)⟩, (fun _ h => nomatch h)⟩) (by decide) (by decide) (hts _ tk_178) (va_Nw.use rfl (hC.2.2.1 _ tn_18)) e1 e2 e3 ?_
      refine lv_astore_n (lv' := [(3, .ref q9), (0, .ref (gA G 0)), (1, .int x1), (2, .int x2)]) hx hb dL_carrier_12 rfl hl (by decide) rfl (fun ls hl => ?_)
      refine lv_iconst (v := 2) hx hb dL_carrier_13 (by decide) ?_
      exact hend F hP hS (by decide) (by decide) dL_carrier_14
    by_cases j3 : E = "java/lang/IllegalStateException"
    · subst j3
      simp [oV, cdx] at hk
      obtain ⟨rfl, rfl⟩ := hk
      refine zc_catch (name := "java/lang/IllegalStateException") hown [⟨0, 6, 9, 20⟩, ⟨0, 6, 12, 13⟩] ⟨0, 6, 15, 22⟩ [] (htab.trans rfl) (List.forall_mem_cons.mpr ⟨⟨by decide, by decide, _, hts _ tk_276, hnc _ (List.mem_of_getElem? (i := 5) rfl)⟩, (List.forall_mem_cons.mpr ⟨⟨by decide, by decide, _, hts _ tk_178, hnc _ (List.mem_of_getElem? (i := 3) rfl)⟩, (fun _ h => nomatch h)⟩)⟩) (by decide) (by decide) (hts _ tk_277) (va_Nw.use rfl (hC.2.2.1 _ tn_27)) e1 e2 e3 ?_
      refine lv_astore_n (lv' := [(3, .ref q9), (0, .ref (gA G 0)), (1, .int x1), (2, .int x2)]) hx hb dL_carrier_15 rfl hl (by decide) rfl (fun ls hl => ?_)
      refine lv_iconst (v := 3) hx hb dL_carrier_16 (by decide) ?_
      exact hend F hP hS (by decide) (by decide) dL_carrier_17
    simp [oV, cdx, j1, j2, j3] at hk
set_option maxHeartbeats 4000000 in
set_option maxRecDepth 100000 in
theorem h_change {l : Launch} {G : GT} {lo lo1 : Nat → Int64} {σ : St} {x1 x2 : Int32} {r : RV × St} {k : Int32} (hm : f_X3_change σ x1 x2 = some r) (hk : oZ ["java/util/NoSuchElementException", "java/lang/IllegalArgumentException", "java/lang/IllegalStateException"] lo r.1 = some (k, lo1)) : HC l G yL_change cL_change 5 [(0, 17, 20, 20), (0, 17, 24, 13), (0, 17, 28, 22)] 8 136 3 18 [.inr 0, .inl x1, .inl x2, .inr 25] lo σ lo1 k r.2 := by
  refine hbody (by decide) rfl (Nat.le_of_ble_eq_true rfl) ?_
  intro p e s m args below meth c F hP ls hl
  obtain ⟨hx, hb, hrt, hml, hown, hts, hlocks, hC, hnc, htab, hst⟩ := id F
  have hS : va_S (gF G) s.heap s.heap [] := va_S.rf
  have hl : lv_has ls 5 [(0, .ref (gA G 0)), (1, .int x1), (2, .int x2), (3, .ref (gA G 25))] := hl
  refine lv_aload_n hx hb dL_change_0 rfl (lv_at hl 3 rfl) ?_
  refine lv_iconst (v := 0) hx hb dL_change_1 (by decide) ?_
  refine lv_aload_n hx hb dL_change_2 rfl (lv_at hl 0 rfl) ?_
  refine lv_iload_n hx hb dL_change_3 rfl (lv_at hl 1 rfl) ?_
  refine lv_iload_n hx hb dL_change_4 rfl (lv_at hl 2 rfl) ?_
  refine xVh F (c_X3_change hm) tk_508 tk_505 tk_506 tk_507 tk_1 rfl 2 (by decide +kernel) rfl ⟨Nat.le_of_ble_eq_true rfl, Nat.le_of_ble_eq_true rfl⟩ hP hS (kd_k kdc_0 (by decide)) (wc3 kdc_0) rfl hl.1 rfl (Nat.le_of_ble_eq_true rfl) dL_change_5 ⟨Nat.le_of_ble_eq_true rfl, Nat.le_of_ble_eq_true rfl⟩ (fun v hv H locs hP hS => ?_) (fun E hE H locs q9 ce hP hS e1 e2 e3 => ?_)
  · rw [hv] at hk
    replace hP : va_P (gD G) vwCl (wld G lo r.2) H := hP
    rcases v with _ | (x | q)
    · cases hk
    · simp only [oZ, Option.some.injEq, Prod.mk.injEq] at hk
      obtain ⟨rfl, rfl⟩ := hk
      refine W.eq (g2 := F0 m 8 ls [.int x, .int 0, .ref (gA G 25)]) rfl ?_
      refine lv_if_eq (tgt := 15) hx hb dL_change_8 (by decide) (fun b => ?_) (fun b => ?_)
      · rw [if_pos b]
        refine lv_lconst (v := 0) hx hb dL_change_15 (by decide) ?_
        refine hlast F hP hS dL_change_16 (fun H locs hP hS => ?_)
        refine lv_goto (tgt := 32) hx hb dL_change_17 (by decide) ?_
        refine lv_iconst (v := 0) hx hb dL_change_32 (by decide) ?_
        exact hend F hP hS (by decide) (by decide) dL_change_33
      · rw [if_neg b]
        refine lv_lconst (v := 1) hx hb dL_change_11 (by decide) ?_
        refine lv_goto (tgt := 16) hx hb dL_change_12 (by decide) ?_
        refine hlast F hP hS dL_change_16 (fun H locs hP hS => ?_)
        refine lv_goto (tgt := 32) hx hb dL_change_17 (by decide) ?_
        refine lv_iconst (v := 0) hx hb dL_change_32 (by decide) ?_
        exact hend F hP hS (by decide) (by decide) dL_change_33
    · cases hk
  · rw [hE] at hk
    replace hP : va_P (gD G) vwCl (wld G lo r.2) H := hP
    by_cases j1 : E = "java/util/NoSuchElementException"
    · subst j1
      simp [oZ, cdx] at hk
      obtain ⟨rfl, rfl⟩ := hk
      refine zc_catch (name := "java/util/NoSuchElementException") hown [] ⟨0, 17, 20, 20⟩ [⟨0, 17, 24, 13⟩, ⟨0, 17, 28, 22⟩] (htab.trans rfl) (fun _ h => nomatch h) (by decide) (by decide) (hts _ tk_276) (va_Nw.use rfl (hC.2.2.1 _ tn_26)) e1 e2 e3 ?_
      refine lv_astore (lv' := [(4, .ref q9), (0, .ref (gA G 0)), (1, .int x1), (2, .int x2), (3, .ref (gA G 25))]) hx hb dL_change_20 hl (by decide) rfl (fun ls hl => ?_)
      refine lv_iconst (v := 1) hx hb dL_change_22 (by decide) ?_
      exact hend F hP hS (by decide) (by decide) dL_change_23
    by_cases j2 : E = "java/lang/IllegalArgumentException"
    · subst j2
      simp [oZ, cdx] at hk
      obtain ⟨rfl, rfl⟩ := hk
      refine zc_catch (name := "java/lang/IllegalArgumentException") hown [⟨0, 17, 20, 20⟩] ⟨0, 17, 24, 13⟩ [⟨0, 17, 28, 22⟩] (htab.trans rfl) (List.forall_mem_cons.mpr ⟨⟨by decide, by decide, _, hts _ tk_276, hnc _ (List.mem_of_getElem? (i := 2) rfl)⟩, (fun _ h => nomatch h)⟩) (by decide) (by decide) (hts _ tk_178) (va_Nw.use rfl (hC.2.2.1 _ tn_18)) e1 e2 e3 ?_
      refine lv_astore (lv' := [(4, .ref q9), (0, .ref (gA G 0)), (1, .int x1), (2, .int x2), (3, .ref (gA G 25))]) hx hb dL_change_24 hl (by decide) rfl (fun ls hl => ?_)
      refine lv_iconst (v := 2) hx hb dL_change_26 (by decide) ?_
      exact hend F hP hS (by decide) (by decide) dL_change_27
    by_cases j3 : E = "java/lang/IllegalStateException"
    · subst j3
      simp [oZ, cdx] at hk
      obtain ⟨rfl, rfl⟩ := hk
      refine zc_catch (name := "java/lang/IllegalStateException") hown [⟨0, 17, 20, 20⟩, ⟨0, 17, 24, 13⟩] ⟨0, 17, 28, 22⟩ [] (htab.trans rfl) (List.forall_mem_cons.mpr ⟨⟨by decide, by decide, _, hts _ tk_276, hnc _ (List.mem_of_getElem? (i := 5) rfl)⟩, (List.forall_mem_cons.mpr ⟨⟨by decide, by decide, _, hts _ tk_178, hnc _ (List.mem_of_getElem? (i := 3) rfl)⟩, (fun _ h => nomatch h)⟩)⟩) (by decide) (by decide) (hts _ tk_277) (va_Nw.use rfl (hC.2.2.1 _ tn_27)) e1 e2 e3 ?_
      refine lv_astore (lv' := [(4, .ref q9), (0, .ref (gA G 0)), (1, .int x1), (2, .int x2), (3, .ref (gA G 25))]) hx hb dL_change_28 hl (by decide) rfl (fun ls hl => ?_)
      refine lv_iconst (v := 3) hx hb dL_change_30 (by decide) ?_
      exact hend F hP hS (by decide) (by decide) dL_change_31
    simp [oZ, cdx, j1, j2, j3] at hk
set_option maxHeartbeats 4000000 in
set_option maxRecDepth 100000 in
theorem h_cutoff {l : Launch} {G : GT} {lo lo1 : Nat → Int64} {σ : St} {x1 x2 : Int32} {r : RV × St} {k : Int32} (hm : f_X3_cutoff σ x1 x2 = some r) (hk : oI ["java/lang/IllegalArgumentException"] lo r.1 = some (k, lo1)) : HC l G yL_cutoff cL_cutoff 5 [(0, 10, 13, 13)] 8 137 2 12 [.inr 0, .inl x1, .inl x2, .inr 25] lo σ lo1 k r.2 := by
  refine hbody (by decide) rfl (Nat.le_of_ble_eq_true rfl) ?_
  intro p e s m args below meth c F hP ls hl
  obtain ⟨hx, hb, hrt, hml, hown, hts, hlocks, hC, hnc, htab, hst⟩ := id F
  have hS : va_S (gF G) s.heap s.heap [] := va_S.rf
  have hl : lv_has ls 5 [(0, .ref (gA G 0)), (1, .int x1), (2, .int x2), (3, .ref (gA G 25))] := hl
  refine lv_aload_n hx hb dL_cutoff_0 rfl (lv_at hl 3 rfl) ?_
  refine lv_iconst (v := 0) hx hb dL_cutoff_1 (by decide) ?_
  refine lv_aload_n hx hb dL_cutoff_2 rfl (lv_at hl 0 rfl) ?_
  refine lv_iload_n hx hb dL_cutoff_3 rfl (lv_at hl 1 rfl) ?_
  refine lv_iload_n hx hb dL_cutoff_4 rfl (lv_at hl 2 rfl) ?_
  refine xVh F (c_X3_cutoff hm) tk_538 tk_535 tk_536 tk_537 tk_1 rfl 2 (by decide +kernel) rfl ⟨Nat.le_of_ble_eq_true rfl, Nat.le_of_ble_eq_true rfl⟩ hP hS (kd_k kdc_0 (by decide)) (wc3 kdc_0) rfl hl.1 rfl (Nat.le_of_ble_eq_true rfl) dL_cutoff_5 ⟨Nat.le_of_ble_eq_true rfl, Nat.le_of_ble_eq_true rfl⟩ (fun v hv H locs hP hS => ?_) (fun E hE H locs q9 ce hP hS e1 e2 e3 => ?_)
  · rw [hv] at hk
    replace hP : va_P (gD G) vwCl (wld G lo r.2) H := hP
    rcases v with _ | (x | q)
    · cases hk
    · cases hk
      refine W.eq (g2 := F0 m 8 ls [.int x, .int 0, .ref (gA G 25)]) rfl ?_
      refine lv_i2l (v := x.toInt64) hx hb dL_cutoff_8 rfl ?_
      refine hlast F hP hS dL_cutoff_9 (fun H locs hP hS => ?_)
      refine lv_goto (tgt := 17) hx hb dL_cutoff_10 (by decide) ?_
      refine lv_iconst (v := 0) hx hb dL_cutoff_17 (by decide) ?_
      exact hend F hP hS (by decide) (by decide) dL_cutoff_18
    · cases hk
  · rw [hE] at hk
    replace hP : va_P (gD G) vwCl (wld G lo r.2) H := hP
    by_cases j1 : E = "java/lang/IllegalArgumentException"
    · subst j1
      simp [oI, cdx] at hk
      obtain ⟨rfl, rfl⟩ := hk
      refine zc_catch (name := "java/lang/IllegalArgumentException") hown [] ⟨0, 10, 13, 13⟩ [] (htab.trans rfl) (fun _ h => nomatch h) (by decide) (by decide) (hts _ tk_178) (va_Nw.use rfl (hC.2.2.1 _ tn_18)) e1 e2 e3 ?_
      refine lv_astore (lv' := [(4, .ref q9), (0, .ref (gA G 0)), (1, .int x1), (2, .int x2), (3, .ref (gA G 25))]) hx hb dL_cutoff_13 hl (by decide) rfl (fun ls hl => ?_)
      refine lv_iconst (v := 1) hx hb dL_cutoff_15 (by decide) ?_
      exact hend F hP hS (by decide) (by decide) dL_cutoff_16
    simp [oI, cdx, j1] at hk
set_option maxHeartbeats 4000000 in
set_option maxRecDepth 100000 in
theorem h_done {l : Launch} {G : GT} {lo lo1 : Nat → Int64} {σ : St} {x1 : Int32} {r : RV × St} {k : Int32} (hm : f_X3_done σ x1 = some r) (hk : oI ["java/util/NoSuchElementException", "java/lang/IllegalStateException"] lo r.1 = some (k, lo1)) : HC l G yL_done cL_done 4 [(0, 9, 12, 20), (0, 9, 15, 22)] 8 134 2 12 [.inr 0, .inl x1, .inr 25] lo σ lo1 k r.2 := by
  refine hbody (by decide) rfl (Nat.le_of_ble_eq_true rfl) ?_
  intro p e s m args below meth c F hP ls hl
  obtain ⟨hx, hb, hrt, hml, hown, hts, hlocks, hC, hnc, htab, hst⟩ := id F
  have hS : va_S (gF G) s.heap s.heap [] := va_S.rf
  have hl : lv_has ls 4 [(0, .ref (gA G 0)), (1, .int x1), (2, .ref (gA G 25))] := hl
  refine lv_aload_n hx hb dL_done_0 rfl (lv_at hl 2 rfl) ?_
  refine lv_iconst (v := 0) hx hb dL_done_1 (by decide) ?_
  refine lv_aload_n hx hb dL_done_2 rfl (lv_at hl 0 rfl) ?_
  refine lv_iload_n hx hb dL_done_3 rfl (lv_at hl 1 rfl) ?_
  refine xVh F (c_X3_done hm) tk_492 tk_489 tk_490 tk_491 tk_1 rfl 1 (by decide +kernel) rfl ⟨Nat.le_of_ble_eq_true rfl, Nat.le_of_ble_eq_true rfl⟩ hP hS (kd_k kdc_0 (by decide)) (wc3 kdc_0) rfl hl.1 rfl (Nat.le_of_ble_eq_true rfl) dL_done_4 ⟨Nat.le_of_ble_eq_true rfl, Nat.le_of_ble_eq_true rfl⟩ (fun v hv H locs hP hS => ?_) (fun E hE H locs q9 ce hP hS e1 e2 e3 => ?_)
  · rw [hv] at hk
    replace hP : va_P (gD G) vwCl (wld G lo r.2) H := hP
    rcases v with _ | (x | q)
    · cases hk
    · cases hk
      refine W.eq (g2 := F0 m 7 ls [.int x, .int 0, .ref (gA G 25)]) rfl ?_
      refine lv_i2l (v := x.toInt64) hx hb dL_done_7 rfl ?_
      refine hlast F hP hS dL_done_8 (fun H locs hP hS => ?_)
      refine lv_goto (tgt := 18) hx hb dL_done_9 (by decide) ?_
      refine lv_iconst (v := 0) hx hb dL_done_18 (by decide) ?_
      exact hend F hP hS (by decide) (by decide) dL_done_19
    · cases hk
  · rw [hE] at hk
    replace hP : va_P (gD G) vwCl (wld G lo r.2) H := hP
    by_cases j1 : E = "java/util/NoSuchElementException"
    · subst j1
      simp [oI, cdx] at hk
      obtain ⟨rfl, rfl⟩ := hk
      refine zc_catch (name := "java/util/NoSuchElementException") hown [] ⟨0, 9, 12, 20⟩ [⟨0, 9, 15, 22⟩] (htab.trans rfl) (fun _ h => nomatch h) (by decide) (by decide) (hts _ tk_276) (va_Nw.use rfl (hC.2.2.1 _ tn_26)) e1 e2 e3 ?_
      refine lv_astore_n (lv' := [(3, .ref q9), (0, .ref (gA G 0)), (1, .int x1), (2, .ref (gA G 25))]) hx hb dL_done_12 rfl hl (by decide) rfl (fun ls hl => ?_)
      refine lv_iconst (v := 1) hx hb dL_done_13 (by decide) ?_
      exact hend F hP hS (by decide) (by decide) dL_done_14
    by_cases j2 : E = "java/lang/IllegalStateException"
    · subst j2
      simp [oI, cdx] at hk
      obtain ⟨rfl, rfl⟩ := hk
      refine zc_catch (name := "java/lang/IllegalStateException") hown [⟨0, 9, 12, 20⟩] ⟨0, 9, 15, 22⟩ [] (htab.trans rfl) (List.forall_mem_cons.mpr ⟨⟨by decide, by decide, _, hts _ tk_276, hnc _ (List.mem_of_getElem? (i := 5) rfl)⟩, (fun _ h => nomatch h)⟩) (by decide) (by decide) (hts _ tk_277) (va_Nw.use rfl (hC.2.2.1 _ tn_27)) e1 e2 e3 ?_
      refine lv_astore_n (lv' := [(3, .ref q9), (0, .ref (gA G 0)), (1, .int x1), (2, .ref (gA G 25))]) hx hb dL_done_15 rfl hl (by decide) rfl (fun ls hl => ?_)
      refine lv_iconst (v := 2) hx hb dL_done_16 (by decide) ?_
      exact hend F hP hS (by decide) (by decide) dL_done_17
    simp [oI, cdx, j1, j2] at hk
set_option maxHeartbeats 4000000 in
set_option maxRecDepth 100000 in
theorem h_hour {l : Launch} {G : GT} {lo lo1 : Nat → Int64} {σ : St} {x1 x2 x3 : Int32} {r : RV × St} {k : Int32} (hm : f_X3_hour σ x1 x2 x3 = some r) (hk : oI ["java/lang/IllegalArgumentException", "java/lang/UnsupportedOperationException"] lo r.1 = some (k, lo1)) : HC l G yL_hour cL_hour 6 [(0, 12, 15, 13), (0, 12, 19, 15)] 8 135 4 24 [.inr 0, .inl x1, .inl x2, .inl x3, .inr 25] lo σ lo1 k r.2 := by
  refine hbody (by decide) rfl (Nat.le_of_ble_eq_true rfl) ?_
  intro p e s m args below meth c F hP ls hl
  obtain ⟨hx, hb, hrt, hml, hown, hts, hlocks, hC, hnc, htab, hst⟩ := id F
  have hS : va_S (gF G) s.heap s.heap [] := va_S.rf
  have hl : lv_has ls 6 [(0, .ref (gA G 0)), (1, .int x1), (2, .int x2), (3, .int x3), (4, .ref (gA G 25))] := hl
  refine lv_aload hx hb dL_hour_0 (lv_at hl 4 rfl) ?_
  refine lv_iconst (v := 0) hx hb dL_hour_2 (by decide) ?_
  refine lv_aload_n hx hb dL_hour_3 rfl (lv_at hl 0 rfl) ?_
  refine lv_iload_n hx hb dL_hour_4 rfl (lv_at hl 1 rfl) ?_
  refine lv_iload_n hx hb dL_hour_5 rfl (lv_at hl 2 rfl) ?_
  refine lv_iload_n hx hb dL_hour_6 rfl (lv_at hl 3 rfl) ?_
  refine xVh F (c_X3_hour hm) tk_336 tk_333 tk_334 tk_335 tk_1 rfl 3 (by decide +kernel) rfl ⟨Nat.le_of_ble_eq_true rfl, Nat.le_of_ble_eq_true rfl⟩ hP hS (kd_k kdc_0 (by decide)) (wc3 kdc_0) rfl hl.1 rfl (Nat.le_of_ble_eq_true rfl) dL_hour_7 ⟨Nat.le_of_ble_eq_true rfl, Nat.le_of_ble_eq_true rfl⟩ (fun v hv H locs hP hS => ?_) (fun E hE H locs q9 ce hP hS e1 e2 e3 => ?_)
  · rw [hv] at hk
    replace hP : va_P (gD G) vwCl (wld G lo r.2) H := hP
    rcases v with _ | (x | q)
    · cases hk
    · cases hk
      refine W.eq (g2 := F0 m 10 ls [.int x, .int 0, .ref (gA G 25)]) rfl ?_
      refine lv_i2l (v := x.toInt64) hx hb dL_hour_10 rfl ?_
      refine hlast F hP hS dL_hour_11 (fun H locs hP hS => ?_)
      refine lv_goto (tgt := 23) hx hb dL_hour_12 (by decide) ?_
      refine lv_iconst (v := 0) hx hb dL_hour_23 (by decide) ?_
      exact hend F hP hS (by decide) (by decide) dL_hour_24
    · cases hk
  · rw [hE] at hk
    replace hP : va_P (gD G) vwCl (wld G lo r.2) H := hP
    by_cases j1 : E = "java/lang/IllegalArgumentException"
    · subst j1
      simp [oI, cdx] at hk
      obtain ⟨rfl, rfl⟩ := hk
      refine zc_catch (name := "java/lang/IllegalArgumentException") hown [] ⟨0, 12, 15, 13⟩ [⟨0, 12, 19, 15⟩] (htab.trans rfl) (fun _ h => nomatch h) (by decide) (by decide) (hts _ tk_178) (va_Nw.use rfl (hC.2.2.1 _ tn_18)) e1 e2 e3 ?_
      refine lv_astore (lv' := [(5, .ref q9), (0, .ref (gA G 0)), (1, .int x1), (2, .int x2), (3, .int x3), (4, .ref (gA G 25))]) hx hb dL_hour_15 hl (by decide) rfl (fun ls hl => ?_)
      refine lv_iconst (v := 1) hx hb dL_hour_17 (by decide) ?_
      exact hend F hP hS (by decide) (by decide) dL_hour_18
    by_cases j2 : E = "java/lang/UnsupportedOperationException"
    · subst j2
      simp [oI, cdx] at hk
      obtain ⟨rfl, rfl⟩ := hk
      refine zc_catch (name := "java/lang/UnsupportedOperationException") hown [⟨0, 12, 15, 13⟩] ⟨0, 12, 19, 15⟩ [] (htab.trans rfl) (List.forall_mem_cons.mpr ⟨⟨by decide, by decide, _, hts _ tk_178, hnc _ (List.mem_of_getElem? (i := 6) rfl)⟩, (fun _ h => nomatch h)⟩) (by decide) (by decide) (hts _ tk_179) (va_Nw.use rfl (hC.2.2.1 _ tn_25)) e1 e2 e3 ?_
      refine lv_astore (lv' := [(5, .ref q9), (0, .ref (gA G 0)), (1, .int x1), (2, .int x2), (3, .int x3), (4, .ref (gA G 25))]) hx hb dL_hour_19 hl (by decide) rfl (fun ls hl => ?_)
      refine lv_iconst (v := 2) hx hb dL_hour_21 (by decide) ?_
      exact hend F hP hS (by decide) (by decide) dL_hour_22
    simp [oI, cdx, j1, j2] at hk
set_option maxHeartbeats 4000000 in
set_option maxRecDepth 100000 in
theorem h_join {l : Launch} {G : GT} {lo lo1 : Nat → Int64} {σ : St} {x1 x2 : Int32} {r : RV × St} {k : Int32} (hm : f_X3_join σ x1 x2 = some r) (hk : oI ["java/util/NoSuchElementException", "java/lang/IllegalStateException"] lo r.1 = some (k, lo1)) : HC l G yL_join cL_join 5 [(0, 10, 13, 20), (0, 10, 17, 22)] 8 141 5 30 [.inr 0, .inl x1, .inl x2, .inr 25] lo σ lo1 k r.2 := by
  refine hbody (by decide) rfl (Nat.le_of_ble_eq_true rfl) ?_
  intro p e s m args below meth c F hP ls hl
  obtain ⟨hx, hb, hrt, hml, hown, hts, hlocks, hC, hnc, htab, hst⟩ := id F
  have hS : va_S (gF G) s.heap s.heap [] := va_S.rf
  have hl : lv_has ls 5 [(0, .ref (gA G 0)), (1, .int x1), (2, .int x2), (3, .ref (gA G 25))] := hl
  refine lv_aload_n hx hb dL_join_0 rfl (lv_at hl 3 rfl) ?_
  refine lv_iconst (v := 0) hx hb dL_join_1 (by decide) ?_
  refine lv_aload_n hx hb dL_join_2 rfl (lv_at hl 0 rfl) ?_
  refine lv_iload_n hx hb dL_join_3 rfl (lv_at hl 1 rfl) ?_
  refine lv_iload_n hx hb dL_join_4 rfl (lv_at hl 2 rfl) ?_
  refine xVh F (c_X3_join hm) tk_524 tk_521 tk_522 tk_523 tk_1 rfl 2 (by decide +kernel) rfl ⟨Nat.le_of_ble_eq_true rfl, Nat.le_of_ble_eq_true rfl⟩ hP hS (kd_k kdc_0 (by decide)) (wc3 kdc_0) rfl hl.1 rfl (Nat.le_of_ble_eq_true rfl) dL_join_5 ⟨Nat.le_of_ble_eq_true rfl, Nat.le_of_ble_eq_true rfl⟩ (fun v hv H locs hP hS => ?_) (fun E hE H locs q9 ce hP hS e1 e2 e3 => ?_)
  · rw [hv] at hk
    replace hP : va_P (gD G) vwCl (wld G lo r.2) H := hP
    rcases v with _ | (x | q)
    · cases hk
    · cases hk
      refine W.eq (g2 := F0 m 8 ls [.int x, .int 0, .ref (gA G 25)]) rfl ?_
      refine lv_i2l (v := x.toInt64) hx hb dL_join_8 rfl ?_
      refine hlast F hP hS dL_join_9 (fun H locs hP hS => ?_)
      refine lv_goto (tgt := 21) hx hb dL_join_10 (by decide) ?_
      refine lv_iconst (v := 0) hx hb dL_join_21 (by decide) ?_
      exact hend F hP hS (by decide) (by decide) dL_join_22
    · cases hk
  · rw [hE] at hk
    replace hP : va_P (gD G) vwCl (wld G lo r.2) H := hP
    by_cases j1 : E = "java/util/NoSuchElementException"
    · subst j1
      simp [oI, cdx] at hk
      obtain ⟨rfl, rfl⟩ := hk
      refine zc_catch (name := "java/util/NoSuchElementException") hown [] ⟨0, 10, 13, 20⟩ [⟨0, 10, 17, 22⟩] (htab.trans rfl) (fun _ h => nomatch h) (by decide) (by decide) (hts _ tk_276) (va_Nw.use rfl (hC.2.2.1 _ tn_26)) e1 e2 e3 ?_
      refine lv_astore (lv' := [(4, .ref q9), (0, .ref (gA G 0)), (1, .int x1), (2, .int x2), (3, .ref (gA G 25))]) hx hb dL_join_13 hl (by decide) rfl (fun ls hl => ?_)
      refine lv_iconst (v := 1) hx hb dL_join_15 (by decide) ?_
      exact hend F hP hS (by decide) (by decide) dL_join_16
    by_cases j2 : E = "java/lang/IllegalStateException"
    · subst j2
      simp [oI, cdx] at hk
      obtain ⟨rfl, rfl⟩ := hk
      refine zc_catch (name := "java/lang/IllegalStateException") hown [⟨0, 10, 13, 20⟩] ⟨0, 10, 17, 22⟩ [] (htab.trans rfl) (List.forall_mem_cons.mpr ⟨⟨by decide, by decide, _, hts _ tk_276, hnc _ (List.mem_of_getElem? (i := 5) rfl)⟩, (fun _ h => nomatch h)⟩) (by decide) (by decide) (hts _ tk_277) (va_Nw.use rfl (hC.2.2.1 _ tn_27)) e1 e2 e3 ?_
      refine lv_astore (lv' := [(4, .ref q9), (0, .ref (gA G 0)), (1, .int x1), (2, .int x2), (3, .ref (gA G 25))]) hx hb dL_join_17 hl (by decide) rfl (fun ls hl => ?_)
      refine lv_iconst (v := 2) hx hb dL_join_19 (by decide) ?_
      exact hend F hP hS (by decide) (by decide) dL_join_20
    simp [oI, cdx, j1, j2] at hk
set_option maxHeartbeats 4000000 in
set_option maxRecDepth 100000 in
theorem h_lacks {l : Launch} {G : GT} {lo lo1 : Nat → Int64} {σ : St} {x1 x2 : Int32} {r : RV} {k : Int32} (hm : f_X3_lacks σ x1 x2 = some r) (hk : oI ["java/util/NoSuchElementException", "java/lang/IllegalArgumentException"] lo r = some (k, lo1)) : HC l G yL_lacks cL_lacks 5 [(0, 10, 13, 20), (0, 10, 17, 13)] 8 134 2 12 [.inr 0, .inl x1, .inl x2, .inr 25] lo σ lo1 k σ := by
  refine hbody (by decide) rfl (Nat.le_of_ble_eq_true rfl) ?_
  intro p e s m args below meth c F hP ls hl
  obtain ⟨hx, hb, hrt, hml, hown, hts, hlocks, hC, hnc, htab, hst⟩ := id F
  have hS : va_S (gF G) s.heap s.heap [] := va_S.rf
  have hl : lv_has ls 5 [(0, .ref (gA G 0)), (1, .int x1), (2, .int x2), (3, .ref (gA G 25))] := hl
  refine lv_aload_n hx hb dL_lacks_0 rfl (lv_at hl 3 rfl) ?_
  refine lv_iconst (v := 0) hx hb dL_lacks_1 (by decide) ?_
  refine lv_aload_n hx hb dL_lacks_2 rfl (lv_at hl 0 rfl) ?_
  refine lv_iload_n hx hb dL_lacks_3 rfl (lv_at hl 1 rfl) ?_
  refine lv_iload_n hx hb dL_lacks_4 rfl (lv_at hl 2 rfl) ?_
  refine xVh F (c_X3_lacks hm) tk_470 tk_467 tk_468 tk_469 tk_1 rfl 2 (by decide +kernel) rfl ⟨Nat.le_of_ble_eq_true rfl, Nat.le_of_ble_eq_true rfl⟩ hP hS (kd_k kdc_0 (by decide)) (wc3 kdc_0) rfl hl.1 rfl (Nat.le_of_ble_eq_true rfl) dL_lacks_5 ⟨Nat.le_of_ble_eq_true rfl, Nat.le_of_ble_eq_true rfl⟩ (fun v hv H locs hP hS => ?_) (fun E hE H locs q9 ce hP hS e1 e2 e3 => ?_)
  · replace hv : r = .inl v := hv
    subst hv
    replace hP : va_P (gD G) vwCl (wld G lo σ) H := hP
    rcases v with _ | (x | q)
    · cases hk
    · cases hk
      refine W.eq (g2 := F0 m 8 ls [.int x, .int 0, .ref (gA G 25)]) rfl ?_
      refine lv_i2l (v := x.toInt64) hx hb dL_lacks_8 rfl ?_
      refine hlast F hP hS dL_lacks_9 (fun H locs hP hS => ?_)
      refine lv_goto (tgt := 21) hx hb dL_lacks_10 (by decide) ?_
      refine lv_iconst (v := 0) hx hb dL_lacks_21 (by decide) ?_
      exact hend F hP hS (by decide) (by decide) dL_lacks_22
    · cases hk
  · replace hE : r = .inr E := hE
    subst hE
    replace hP : va_P (gD G) vwCl (wld G lo σ) H := hP
    by_cases j1 : E = "java/util/NoSuchElementException"
    · subst j1
      simp [oI, cdx] at hk
      obtain ⟨rfl, rfl⟩ := hk
      refine zc_catch (name := "java/util/NoSuchElementException") hown [] ⟨0, 10, 13, 20⟩ [⟨0, 10, 17, 13⟩] (htab.trans rfl) (fun _ h => nomatch h) (by decide) (by decide) (hts _ tk_276) (va_Nw.use rfl (hC.2.2.1 _ tn_26)) e1 e2 e3 ?_
      refine lv_astore (lv' := [(4, .ref q9), (0, .ref (gA G 0)), (1, .int x1), (2, .int x2), (3, .ref (gA G 25))]) hx hb dL_lacks_13 hl (by decide) rfl (fun ls hl => ?_)
      refine lv_iconst (v := 1) hx hb dL_lacks_15 (by decide) ?_
      exact hend F hP hS (by decide) (by decide) dL_lacks_16
    by_cases j2 : E = "java/lang/IllegalArgumentException"
    · subst j2
      simp [oI, cdx] at hk
      obtain ⟨rfl, rfl⟩ := hk
      refine zc_catch (name := "java/lang/IllegalArgumentException") hown [⟨0, 10, 13, 20⟩] ⟨0, 10, 17, 13⟩ [] (htab.trans rfl) (List.forall_mem_cons.mpr ⟨⟨by decide, by decide, _, hts _ tk_276, hnc _ (List.mem_of_getElem? (i := 2) rfl)⟩, (fun _ h => nomatch h)⟩) (by decide) (by decide) (hts _ tk_178) (va_Nw.use rfl (hC.2.2.1 _ tn_18)) e1 e2 e3 ?_
      refine lv_astore (lv' := [(4, .ref q9), (0, .ref (gA G 0)), (1, .int x1), (2, .int x2), (3, .ref (gA G 25))]) hx hb dL_lacks_17 hl (by decide) rfl (fun ls hl => ?_)
      refine lv_iconst (v := 2) hx hb dL_lacks_19 (by decide) ?_
      exact hend F hP hS (by decide) (by decide) dL_lacks_20
    simp [oI, cdx, j1, j2] at hk
set_option maxHeartbeats 4000000 in
set_option maxRecDepth 100000 in
theorem h_late {l : Launch} {G : GT} {lo lo1 : Nat → Int64} {σ : St} {x1 : Int32} {r : RV} {k : Int32} (hm : f_X3_late σ x1 = some r) (hk : oI ["java/lang/IllegalArgumentException"] lo r = some (k, lo1)) : HC l G yL_late cL_late 4 [(0, 9, 12, 13)] 8 133 1 6 [.inr 0, .inl x1, .inr 25] lo σ lo1 k σ := by
  refine hbody (by decide) rfl (Nat.le_of_ble_eq_true rfl) ?_
  intro p e s m args below meth c F hP ls hl
  obtain ⟨hx, hb, hrt, hml, hown, hts, hlocks, hC, hnc, htab, hst⟩ := id F
  have hS : va_S (gF G) s.heap s.heap [] := va_S.rf
  have hl : lv_has ls 4 [(0, .ref (gA G 0)), (1, .int x1), (2, .ref (gA G 25))] := hl
  refine lv_aload_n hx hb dL_late_0 rfl (lv_at hl 2 rfl) ?_
  refine lv_iconst (v := 0) hx hb dL_late_1 (by decide) ?_
  refine lv_aload_n hx hb dL_late_2 rfl (lv_at hl 0 rfl) ?_
  refine lv_iload_n hx hb dL_late_3 rfl (lv_at hl 1 rfl) ?_
  refine xVh F (c_X3_late hm) tk_545 tk_542 tk_543 tk_544 tk_1 rfl 1 (by decide +kernel) rfl ⟨Nat.le_of_ble_eq_true rfl, Nat.le_of_ble_eq_true rfl⟩ hP hS (kd_k kdc_0 (by decide)) (wc3 kdc_0) rfl hl.1 rfl (Nat.le_of_ble_eq_true rfl) dL_late_4 ⟨Nat.le_of_ble_eq_true rfl, Nat.le_of_ble_eq_true rfl⟩ (fun v hv H locs hP hS => ?_) (fun E hE H locs q9 ce hP hS e1 e2 e3 => ?_)
  · replace hv : r = .inl v := hv
    subst hv
    replace hP : va_P (gD G) vwCl (wld G lo σ) H := hP
    rcases v with _ | (x | q)
    · cases hk
    · cases hk
      refine W.eq (g2 := F0 m 7 ls [.int x, .int 0, .ref (gA G 25)]) rfl ?_
      refine lv_i2l (v := x.toInt64) hx hb dL_late_7 rfl ?_
      refine hlast F hP hS dL_late_8 (fun H locs hP hS => ?_)
      refine lv_goto (tgt := 15) hx hb dL_late_9 (by decide) ?_
      refine lv_iconst (v := 0) hx hb dL_late_15 (by decide) ?_
      exact hend F hP hS (by decide) (by decide) dL_late_16
    · cases hk
  · replace hE : r = .inr E := hE
    subst hE
    replace hP : va_P (gD G) vwCl (wld G lo σ) H := hP
    by_cases j1 : E = "java/lang/IllegalArgumentException"
    · subst j1
      simp [oI, cdx] at hk
      obtain ⟨rfl, rfl⟩ := hk
      refine zc_catch (name := "java/lang/IllegalArgumentException") hown [] ⟨0, 9, 12, 13⟩ [] (htab.trans rfl) (fun _ h => nomatch h) (by decide) (by decide) (hts _ tk_178) (va_Nw.use rfl (hC.2.2.1 _ tn_18)) e1 e2 e3 ?_
      refine lv_astore_n (lv' := [(3, .ref q9), (0, .ref (gA G 0)), (1, .int x1), (2, .ref (gA G 25))]) hx hb dL_late_12 rfl hl (by decide) rfl (fun ls hl => ?_)
      refine lv_iconst (v := 1) hx hb dL_late_13 (by decide) ?_
      exact hend F hP hS (by decide) (by decide) dL_late_14
    simp [oI, cdx, j1] at hk
set_option maxHeartbeats 4000000 in
set_option maxRecDepth 100000 in
theorem h_line {l : Launch} {G : GT} {lo lo1 : Nat → Int64} {σ : St} {x1 x2 x3 : Int32} {r : RV × St} {k : Int32} (hm : f_X3_line σ x1 x2 x3 = some r) (hk : oI ["java/util/NoSuchElementException", "java/lang/IllegalArgumentException", "java/lang/IllegalStateException", "java/lang/UnsupportedOperationException"] lo r.1 = some (k, lo1)) : HC l G yL_line cL_line 6 [(0, 12, 15, 20), (0, 12, 19, 13), (0, 12, 23, 22), (0, 12, 27, 15)] 8 136 5 30 [.inr 0, .inl x1, .inl x2, .inl x3, .inr 25] lo σ lo1 k r.2 := by
  refine hbody (by decide) rfl (Nat.le_of_ble_eq_true rfl) ?_
  intro p e s m args below meth c F hP ls hl
  obtain ⟨hx, hb, hrt, hml, hown, hts, hlocks, hC, hnc, htab, hst⟩ := id F
  have hS : va_S (gF G) s.heap s.heap [] := va_S.rf
  have hl : lv_has ls 6 [(0, .ref (gA G 0)), (1, .int x1), (2, .int x2), (3, .int x3), (4, .ref (gA G 25))] := hl
  refine lv_aload hx hb dL_line_0 (lv_at hl 4 rfl) ?_
  refine lv_iconst (v := 0) hx hb dL_line_2 (by decide) ?_
  refine lv_aload_n hx hb dL_line_3 rfl (lv_at hl 0 rfl) ?_
  refine lv_iload_n hx hb dL_line_4 rfl (lv_at hl 1 rfl) ?_
  refine lv_iload_n hx hb dL_line_5 rfl (lv_at hl 2 rfl) ?_
  refine lv_iload_n hx hb dL_line_6 rfl (lv_at hl 3 rfl) ?_
  refine xVh F (c_X3_line hm) tk_281 tk_278 tk_279 tk_280 tk_1 rfl 3 (by decide +kernel) rfl ⟨Nat.le_of_ble_eq_true rfl, Nat.le_of_ble_eq_true rfl⟩ hP hS (kd_k kdc_0 (by decide)) (wc3 kdc_0) rfl hl.1 rfl (Nat.le_of_ble_eq_true rfl) dL_line_7 ⟨Nat.le_of_ble_eq_true rfl, Nat.le_of_ble_eq_true rfl⟩ (fun v hv H locs hP hS => ?_) (fun E hE H locs q9 ce hP hS e1 e2 e3 => ?_)
  · rw [hv] at hk
    replace hP : va_P (gD G) vwCl (wld G lo r.2) H := hP
    rcases v with _ | (x | q)
    · cases hk
    · cases hk
      refine W.eq (g2 := F0 m 10 ls [.int x, .int 0, .ref (gA G 25)]) rfl ?_
      refine lv_i2l (v := x.toInt64) hx hb dL_line_10 rfl ?_
      refine hlast F hP hS dL_line_11 (fun H locs hP hS => ?_)
      refine lv_goto (tgt := 31) hx hb dL_line_12 (by decide) ?_
      refine lv_iconst (v := 0) hx hb dL_line_31 (by decide) ?_
      exact hend F hP hS (by decide) (by decide) dL_line_32
    · cases hk
  · rw [hE] at hk
    replace hP : va_P (gD G) vwCl (wld G lo r.2) H := hP
    by_cases j1 : E = "java/util/NoSuchElementException"
    · subst j1
      simp [oI, cdx] at hk
      obtain ⟨rfl, rfl⟩ := hk
      refine zc_catch (name := "java/util/NoSuchElementException") hown [] ⟨0, 12, 15, 20⟩ [⟨0, 12, 19, 13⟩, ⟨0, 12, 23, 22⟩, ⟨0, 12, 27, 15⟩] (htab.trans rfl) (fun _ h => nomatch h) (by decide) (by decide) (hts _ tk_276) (va_Nw.use rfl (hC.2.2.1 _ tn_26)) e1 e2 e3 ?_
      refine lv_astore (lv' := [(5, .ref q9), (0, .ref (gA G 0)), (1, .int x1), (2, .int x2), (3, .int x3), (4, .ref (gA G 25))]) hx hb dL_line_15 hl (by decide) rfl (fun ls hl => ?_)
      refine lv_iconst (v := 1) hx hb dL_line_17 (by decide) ?_
      exact hend F hP hS (by decide) (by decide) dL_line_18
    by_cases j2 : E = "java/lang/IllegalArgumentException"
    · subst j2
      simp [oI, cdx] at hk
      obtain ⟨rfl, rfl⟩ := hk
      refine zc_catch (name := "java/lang/IllegalArgumentException") hown [⟨0, 12, 15, 20⟩] ⟨0, 12, 19, 13⟩ [⟨0, 12, 23, 22⟩, ⟨0, 12, 27, 15⟩] (htab.trans rfl) (List.forall_mem_cons.mpr ⟨⟨by decide, by decide, _, hts _ tk_276, hnc _ (List.mem_of_getElem? (i := 2) rfl)⟩, (fun _ h => nomatch h)⟩) (by decide) (by decide) (hts _ tk_178) (va_Nw.use rfl (hC.2.2.1 _ tn_18)) e1 e2 e3 ?_
      refine lv_astore (lv' := [(5, .ref q9), (0, .ref (gA G 0)), (1, .int x1), (2, .int x2), (3, .int x3), (4, .ref (gA G 25))]) hx hb dL_line_19 hl (by decide) rfl (fun ls hl => ?_)
      refine lv_iconst (v := 2) hx hb dL_line_21 (by decide) ?_
      exact hend F hP hS (by decide) (by decide) dL_line_22
    by_cases j3 : E = "java/lang/IllegalStateException"
    · subst j3
      simp [oI, cdx] at hk
      obtain ⟨rfl, rfl⟩ := hk
      refine zc_catch (name := "java/lang/IllegalStateException") hown [⟨0, 12, 15, 20⟩, ⟨0, 12, 19, 13⟩] ⟨0, 12, 23, 22⟩ [⟨0, 12, 27, 15⟩] (htab.trans rfl) (List.forall_mem_cons.mpr ⟨⟨by decide, by decide, _, hts _ tk_276, hnc _ (List.mem_of_getElem? (i := 5) rfl)⟩, (List.forall_mem_cons.mpr ⟨⟨by decide, by decide, _, hts _ tk_178, hnc _ (List.mem_of_getElem? (i := 3) rfl)⟩, (fun _ h => nomatch h)⟩)⟩) (by decide) (by decide) (hts _ tk_277) (va_Nw.use rfl (hC.2.2.1 _ tn_27)) e1 e2 e3 ?_
      refine lv_astore (lv' := [(5, .ref q9), (0, .ref (gA G 0)), (1, .int x1), (2, .int x2), (3, .int x3), (4, .ref (gA G 25))]) hx hb dL_line_23 hl (by decide) rfl (fun ls hl => ?_)
      refine lv_iconst (v := 3) hx hb dL_line_25 (by decide) ?_
      exact hend F hP hS (by decide) (by decide) dL_line_26
    by_cases j4 : E = "java/lang/UnsupportedOperationException"
    · subst j4
      simp [oI, cdx] at hk
      obtain ⟨rfl, rfl⟩ := hk
      refine zc_catch (name := "java/lang/UnsupportedOperationException") hown [⟨0, 12, 15, 20⟩, ⟨0, 12, 19, 13⟩, ⟨0, 12, 23, 22⟩] ⟨0, 12, 27, 15⟩ [] (htab.trans rfl) (List.forall_mem_cons.mpr ⟨⟨by decide, by decide, _, hts _ tk_276, hnc _ (List.mem_of_getElem? (i := 8) rfl)⟩, (List.forall_mem_cons.mpr ⟨⟨by decide, by decide, _, hts _ tk_178, hnc _ (List.mem_of_getElem? (i := 6) rfl)⟩, (List.forall_mem_cons.mpr ⟨⟨by decide, by decide, _, hts _ tk_277, hnc _ (List.mem_of_getElem? (i := 7) rfl)⟩, (fun _ h => nomatch h)⟩)⟩)⟩) (by decide) (by decide) (hts _ tk_179) (va_Nw.use rfl (hC.2.2.1 _ tn_25)) e1 e2 e3 ?_
      refine lv_astore (lv' := [(5, .ref q9), (0, .ref (gA G 0)), (1, .int x1), (2, .int x2), (3, .int x3), (4, .ref (gA G 25))]) hx hb dL_line_27 hl (by decide) rfl (fun ls hl => ?_)
      refine lv_iconst (v := 4) hx hb dL_line_29 (by decide) ?_
      exact hend F hP hS (by decide) (by decide) dL_line_30
    simp [oI, cdx, j1, j2, j3, j4] at hk
set_option maxHeartbeats 4000000 in
set_option maxRecDepth 100000 in
theorem h_member {l : Launch} {G : GT} {lo lo1 : Nat → Int64} {σ : St} {x1 x2 : Int32} {r : RV} {k : Int32} (hm : f_X3_member σ x1 x2 = some r) (hk : oI ["java/util/NoSuchElementException"] lo r = some (k, lo1)) : HC l G yL_member cL_member 5 [(0, 10, 13, 20)] 8 134 2 12 [.inr 0, .inl x1, .inl x2, .inr 25] lo σ lo1 k σ := by
  refine hbody (by decide) rfl (Nat.le_of_ble_eq_true rfl) ?_
  intro p e s m args below meth c F hP ls hl
  obtain ⟨hx, hb, hrt, hml, hown, hts, hlocks, hC, hnc, htab, hst⟩ := id F
  have hS : va_S (gF G) s.heap s.heap [] := va_S.rf
  have hl : lv_has ls 5 [(0, .ref (gA G 0)), (1, .int x1), (2, .int x2), (3, .ref (gA G 25))] := hl
  refine lv_aload_n hx hb dL_member_0 rfl (lv_at hl 3 rfl) ?_
  refine lv_iconst (v := 0) hx hb dL_member_1 (by decide) ?_
  refine lv_aload_n hx hb dL_member_2 rfl (lv_at hl 0 rfl) ?_
  refine lv_iload_n hx hb dL_member_3 rfl (lv_at hl 1 rfl) ?_
  refine lv_iload_n hx hb dL_member_4 rfl (lv_at hl 2 rfl) ?_
  refine xVh F (c_X3_member hm) tk_439 tk_436 tk_437 tk_438 tk_1 rfl 2 (by decide +kernel) rfl ⟨Nat.le_of_ble_eq_true rfl, Nat.le_of_ble_eq_true rfl⟩ hP hS (kd_k kdc_0 (by decide)) (wc3 kdc_0) rfl hl.1 rfl (Nat.le_of_ble_eq_true rfl) dL_member_5 ⟨Nat.le_of_ble_eq_true rfl, Nat.le_of_ble_eq_true rfl⟩ (fun v hv H locs hP hS => ?_) (fun E hE H locs q9 ce hP hS e1 e2 e3 => ?_)
  · replace hv : r = .inl v := hv
    subst hv
    replace hP : va_P (gD G) vwCl (wld G lo σ) H := hP
    rcases v with _ | (x | q)
    · cases hk
    · cases hk
      refine W.eq (g2 := F0 m 8 ls [.int x, .int 0, .ref (gA G 25)]) rfl ?_
      refine lv_i2l (v := x.toInt64) hx hb dL_member_8 rfl ?_
      refine hlast F hP hS dL_member_9 (fun H locs hP hS => ?_)
      refine lv_goto (tgt := 17) hx hb dL_member_10 (by decide) ?_
      refine lv_iconst (v := 0) hx hb dL_member_17 (by decide) ?_
      exact hend F hP hS (by decide) (by decide) dL_member_18
    · cases hk
  · replace hE : r = .inr E := hE
    subst hE
    replace hP : va_P (gD G) vwCl (wld G lo σ) H := hP
    by_cases j1 : E = "java/util/NoSuchElementException"
    · subst j1
      simp [oI, cdx] at hk
      obtain ⟨rfl, rfl⟩ := hk
      refine zc_catch (name := "java/util/NoSuchElementException") hown [] ⟨0, 10, 13, 20⟩ [] (htab.trans rfl) (fun _ h => nomatch h) (by decide) (by decide) (hts _ tk_276) (va_Nw.use rfl (hC.2.2.1 _ tn_26)) e1 e2 e3 ?_
      refine lv_astore (lv' := [(4, .ref q9), (0, .ref (gA G 0)), (1, .int x1), (2, .int x2), (3, .ref (gA G 25))]) hx hb dL_member_13 hl (by decide) rfl (fun ls hl => ?_)
      refine lv_iconst (v := 1) hx hb dL_member_15 (by decide) ?_
      exact hend F hP hS (by decide) (by decide) dL_member_16
    simp [oI, cdx, j1] at hk
set_option maxHeartbeats 4000000 in
set_option maxRecDepth 100000 in
theorem h_order {l : Launch} {G : GT} {lo lo1 : Nat → Int64} {σ : St} {x1 x2 x3 : Int32} {r : RV × St} {k : Int32} (hm : f_X3_order σ x1 x2 x3 = some r) (hk : oI ["java/lang/IllegalArgumentException", "java/lang/UnsupportedOperationException"] lo r.1 = some (k, lo1)) : HC l G yL_order cL_order 6 [(0, 12, 15, 13), (0, 12, 19, 15)] 8 136 4 24 [.inr 0, .inl x1, .inl x2, .inl x3, .inr 25] lo σ lo1 k r.2 := by
  refine hbody (by decide) rfl (Nat.le_of_ble_eq_true rfl) ?_
  intro p e s m args below meth c F hP ls hl
  obtain ⟨hx, hb, hrt, hml, hown, hts, hlocks, hC, hnc, htab, hst⟩ := id F
  have hS : va_S (gF G) s.heap s.heap [] := va_S.rf
  have hl : lv_has ls 6 [(0, .ref (gA G 0)), (1, .int x1), (2, .int x2), (3, .int x3), (4, .ref (gA G 25))] := hl
  refine lv_aload hx hb dL_order_0 (lv_at hl 4 rfl) ?_
  refine lv_iconst (v := 0) hx hb dL_order_2 (by decide) ?_
  refine lv_aload_n hx hb dL_order_3 rfl (lv_at hl 0 rfl) ?_
  refine lv_iload_n hx hb dL_order_4 rfl (lv_at hl 1 rfl) ?_
  refine lv_iload_n hx hb dL_order_5 rfl (lv_at hl 2 rfl) ?_
  refine lv_iload_n hx hb dL_order_6 rfl (lv_at hl 3 rfl) ?_
  refine xVh F (c_X3_order hm) tk_183 tk_180 tk_181 tk_182 tk_1 rfl 3 (by decide +kernel) rfl ⟨Nat.le_of_ble_eq_true rfl, Nat.le_of_ble_eq_true rfl⟩ hP hS (kd_k kdc_0 (by decide)) (wc3 kdc_0) rfl hl.1 rfl (Nat.le_of_ble_eq_true rfl) dL_order_7 ⟨Nat.le_of_ble_eq_true rfl, Nat.le_of_ble_eq_true rfl⟩ (fun v hv H locs hP hS => ?_) (fun E hE H locs q9 ce hP hS e1 e2 e3 => ?_)
  · rw [hv] at hk
    replace hP : va_P (gD G) vwCl (wld G lo r.2) H := hP
    rcases v with _ | (x | q)
    · cases hk
    · cases hk
      refine W.eq (g2 := F0 m 10 ls [.int x, .int 0, .ref (gA G 25)]) rfl ?_
      refine lv_i2l (v := x.toInt64) hx hb dL_order_10 rfl ?_
      refine hlast F hP hS dL_order_11 (fun H locs hP hS => ?_)
      refine lv_goto (tgt := 23) hx hb dL_order_12 (by decide) ?_
      refine lv_iconst (v := 0) hx hb dL_order_23 (by decide) ?_
      exact hend F hP hS (by decide) (by decide) dL_order_24
    · cases hk
  · rw [hE] at hk
    replace hP : va_P (gD G) vwCl (wld G lo r.2) H := hP
    by_cases j1 : E = "java/lang/IllegalArgumentException"
    · subst j1
      simp [oI, cdx] at hk
      obtain ⟨rfl, rfl⟩ := hk
      refine zc_catch (name := "java/lang/IllegalArgumentException") hown [] ⟨0, 12, 15, 13⟩ [⟨0, 12, 19, 15⟩] (htab.trans rfl) (fun _ h => nomatch h) (by decide) (by decide) (hts _ tk_178) (va_Nw.use rfl (hC.2.2.1 _ tn_18)) e1 e2 e3 ?_
      refine lv_astore (lv' := [(5, .ref q9), (0, .ref (gA G 0)), (1, .int x1), (2, .int x2), (3, .int x3), (4, .ref (gA G 25))]) hx hb dL_order_15 hl (by decide) rfl (fun ls hl => ?_)
      refine lv_iconst (v := 1) hx hb dL_order_17 (by decide) ?_
      exact hend F hP hS (by decide) (by decide) dL_order_18
    by_cases j2 : E = "java/lang/UnsupportedOperationException"
    · subst j2
      simp [oI, cdx] at hk
      obtain ⟨rfl, rfl⟩ := hk
      refine zc_catch (name := "java/lang/UnsupportedOperationException") hown [⟨0, 12, 15, 13⟩] ⟨0, 12, 19, 15⟩ [] (htab.trans rfl) (List.forall_mem_cons.mpr ⟨⟨by decide, by decide, _, hts _ tk_178, hnc _ (List.mem_of_getElem? (i := 6) rfl)⟩, (fun _ h => nomatch h)⟩) (by decide) (by decide) (hts _ tk_179) (va_Nw.use rfl (hC.2.2.1 _ tn_25)) e1 e2 e3 ?_
      refine lv_astore (lv' := [(5, .ref q9), (0, .ref (gA G 0)), (1, .int x1), (2, .int x2), (3, .int x3), (4, .ref (gA G 25))]) hx hb dL_order_19 hl (by decide) rfl (fun ls hl => ?_)
      refine lv_iconst (v := 2) hx hb dL_order_21 (by decide) ?_
      exact hend F hP hS (by decide) (by decide) dL_order_22
    simp [oI, cdx, j1, j2] at hk
set_option maxHeartbeats 4000000 in
set_option maxRecDepth 100000 in
theorem h_plan {l : Launch} {G : GT} {lo lo1 : Nat → Int64} {σ : St} {r : RV × St} {k : Int32} (hm : f_X3_plan σ  = some r) (hk : oI ["java/lang/UnsupportedOperationException"] lo r.1 = some (k, lo1)) : HC l G yL_plan cL_plan 3 [(0, 8, 11, 15)] 7 166 1 6 [.inr 0, .inr 25] lo σ lo1 k r.2 := by
  refine hbody (by decide) rfl (Nat.le_of_ble_eq_true rfl) ?_
  intro p e s m args below meth c F hP ls hl
  obtain ⟨hx, hb, hrt, hml, hown, hts, hlocks, hC, hnc, htab, hst⟩ := id F
  have hS : va_S (gF G) s.heap s.heap [] := va_S.rf
  have hl : lv_has ls 3 [(0, .ref (gA G 0)), (1, .ref (gA G 25))] := hl
  refine lv_aload_n hx hb dL_plan_0 rfl (lv_at hl 1 rfl) ?_
  refine lv_iconst (v := 0) hx hb dL_plan_1 (by decide) ?_
  refine lv_aload_n hx hb dL_plan_2 rfl (lv_at hl 0 rfl) ?_
  refine xVh F (c_X3_plan hm) tk_359 tk_356 tk_357 tk_358 tk_1 rfl 0 (by decide +kernel) rfl ⟨Nat.le_of_ble_eq_true rfl, Nat.le_of_ble_eq_true rfl⟩ hP hS (kd_k kdc_0 (by decide)) (wc3 kdc_0) rfl hl.1 rfl (Nat.le_of_ble_eq_true rfl) dL_plan_3 ⟨Nat.le_of_ble_eq_true rfl, Nat.le_of_ble_eq_true rfl⟩ (fun v hv H locs hP hS => ?_) (fun E hE H locs q9 ce hP hS e1 e2 e3 => ?_)
  · rw [hv] at hk
    replace hP : va_P (gD G) vwCl (wld G lo r.2) H := hP
    rcases v with _ | (x | q)
    · cases hk
    · cases hk
      refine W.eq (g2 := F0 m 6 ls [.int x, .int 0, .ref (gA G 25)]) rfl ?_
      refine lv_i2l (v := x.toInt64) hx hb dL_plan_6 rfl ?_
      refine hlast F hP hS dL_plan_7 (fun H locs hP hS => ?_)
      refine lv_goto (tgt := 14) hx hb dL_plan_8 (by decide) ?_
      refine lv_iconst (v := 0) hx hb dL_plan_14 (by decide) ?_
      exact hend F hP hS (by decide) (by decide) dL_plan_15
    · cases hk
  · rw [hE] at hk
    replace hP : va_P (gD G) vwCl (wld G lo r.2) H := hP
    by_cases j1 : E = "java/lang/UnsupportedOperationException"
    · subst j1
      simp [oI, cdx] at hk
      obtain ⟨rfl, rfl⟩ := hk
      refine zc_catch (name := "java/lang/UnsupportedOperationException") hown [] ⟨0, 8, 11, 15⟩ [] (htab.trans rfl) (fun _ h => nomatch h) (by decide) (by decide) (hts _ tk_179) (va_Nw.use rfl (hC.2.2.1 _ tn_25)) e1 e2 e3 ?_
      refine lv_astore_n (lv' := [(2, .ref q9), (0, .ref (gA G 0)), (1, .ref (gA G 25))]) hx hb dL_plan_11 rfl hl (by decide) rfl (fun ls hl => ?_)
      refine lv_iconst (v := 1) hx hb dL_plan_12 (by decide) ?_
      exact hend F hP hS (by decide) (by decide) dL_plan_13
    simp [oI, cdx, j1] at hk
set_option maxHeartbeats 4000000 in
set_option maxRecDepth 100000 in
theorem h_release {l : Launch} {G : GT} {lo lo1 : Nat → Int64} {σ : St} {x1 : Int32} {r : RV × St} {k : Int32} (hm : f_X3_release σ x1 = some r) (hk : oI ["java/util/NoSuchElementException", "java/lang/IllegalStateException"] lo r.1 = some (k, lo1)) : HC l G yL_release cL_release 4 [(0, 9, 12, 20), (0, 9, 15, 22)] 8 133 2 12 [.inr 0, .inl x1, .inr 25] lo σ lo1 k r.2 := by
  refine hbody (by decide) rfl (Nat.le_of_ble_eq_true rfl) ?_
  intro p e s m args below meth c F hP ls hl
  obtain ⟨hx, hb, hrt, hml, hown, hts, hlocks, hC, hnc, htab, hst⟩ := id F
  have hS : va_S (gF G) s.heap s.heap [] := va_S.rf
  have hl : lv_has ls 4 [(0, .ref (gA G 0)), (1, .int x1), (2, .ref (gA G 25))] := hl
  refine lv_aload_n hx hb dL_release_0 rfl (lv_at hl 2 rfl) ?_
  refine lv_iconst (v := 0) hx hb dL_release_1 (by decide) ?_
  refine lv_aload_n hx hb dL_release_2 rfl (lv_at hl 0 rfl) ?_
  refine lv_iload_n hx hb dL_release_3 rfl (lv_at hl 1 rfl) ?_
  refine xVh F (c_X3_release hm) tk_477 tk_474 tk_475 tk_476 tk_1 rfl 1 (by decide +kernel) rfl ⟨Nat.le_of_ble_eq_true rfl, Nat.le_of_ble_eq_true rfl⟩ hP hS (kd_k kdc_0 (by decide)) (wc3 kdc_0) rfl hl.1 rfl (Nat.le_of_ble_eq_true rfl) dL_release_4 ⟨Nat.le_of_ble_eq_true rfl, Nat.le_of_ble_eq_true rfl⟩ (fun v hv H locs hP hS => ?_) (fun E hE H locs q9 ce hP hS e1 e2 e3 => ?_)
  · rw [hv] at hk
    replace hP : va_P (gD G) vwCl (wld G lo r.2) H := hP
    rcases v with _ | (x | q)
    · cases hk
    · cases hk
      refine W.eq (g2 := F0 m 7 ls [.int x, .int 0, .ref (gA G 25)]) rfl ?_
      refine lv_i2l (v := x.toInt64) hx hb dL_release_7 rfl ?_
      refine hlast F hP hS dL_release_8 (fun H locs hP hS => ?_)
      refine lv_goto (tgt := 18) hx hb dL_release_9 (by decide) ?_
      refine lv_iconst (v := 0) hx hb dL_release_18 (by decide) ?_
      exact hend F hP hS (by decide) (by decide) dL_release_19
    · cases hk
  · rw [hE] at hk
    replace hP : va_P (gD G) vwCl (wld G lo r.2) H := hP
    by_cases j1 : E = "java/util/NoSuchElementException"
    · subst j1
      simp [oI, cdx] at hk
      obtain ⟨rfl, rfl⟩ := hk
      refine zc_catch (name := "java/util/NoSuchElementException") hown [] ⟨0, 9, 12, 20⟩ [⟨0, 9, 15, 22⟩] (htab.trans rfl) (fun _ h => nomatch h) (by decide) (by decide) (hts _ tk_276) (va_Nw.use rfl (hC.2.2.1 _ tn_26)) e1 e2 e3 ?_
      refine lv_astore_n (lv' := [(3, .ref q9), (0, .ref (gA G 0)), (1, .int x1), (2, .ref (gA G 25))]) hx hb dL_release_12 rfl hl (by decide) rfl (fun ls hl => ?_)
      refine lv_iconst (v := 1) hx hb dL_release_13 (by decide) ?_
      exact hend F hP hS (by decide) (by decide) dL_release_14
    by_cases j2 : E = "java/lang/IllegalStateException"
    · subst j2
      simp [oI, cdx] at hk
      obtain ⟨rfl, rfl⟩ := hk
      refine zc_catch (name := "java/lang/IllegalStateException") hown [⟨0, 9, 12, 20⟩] ⟨0, 9, 15, 22⟩ [] (htab.trans rfl) (List.forall_mem_cons.mpr ⟨⟨by decide, by decide, _, hts _ tk_276, hnc _ (List.mem_of_getElem? (i := 5) rfl)⟩, (fun _ h => nomatch h)⟩) (by decide) (by decide) (hts _ tk_277) (va_Nw.use rfl (hC.2.2.1 _ tn_27)) e1 e2 e3 ?_
      refine lv_astore_n (lv' := [(3, .ref q9), (0, .ref (gA G 0)), (1, .int x1), (2, .ref (gA G 25))]) hx hb dL_release_15 rfl hl (by decide) rfl (fun ls hl => ?_)
      refine lv_iconst (v := 2) hx hb dL_release_16 (by decide) ?_
      exact hend F hP hS (by decide) (by decide) dL_release_17
    simp [oI, cdx, j1, j2] at hk
set_option maxHeartbeats 4000000 in
set_option maxRecDepth 100000 in
theorem h_replenish {l : Launch} {G : GT} {lo lo1 : Nat → Int64} {σ : St} {x1 x2 : Int32} {r : RV} {k : Int32} (hm : f_X3_replenish σ x1 x2 = some r) (hk : oI ["java/util/NoSuchElementException", "java/lang/IllegalArgumentException"] lo r = some (k, lo1)) : HC l G yL_replenish cL_replenish 5 [(0, 10, 13, 20), (0, 10, 17, 13)] 8 133 2 12 [.inr 0, .inl x1, .inl x2, .inr 25] lo σ lo1 k σ := by
  refine hbody (by decide) rfl (Nat.le_of_ble_eq_true rfl) ?_
  intro p e s m args below meth c F hP ls hl
  obtain ⟨hx, hb, hrt, hml, hown, hts, hlocks, hC, hnc, htab, hst⟩ := id F
  have hS : va_S (gF G) s.heap s.heap [] := va_S.rf
  have hl : lv_has ls 5 [(0, .ref (gA G 0)), (1, .int x1), (2, .int x2), (3, .ref (gA G 25))] := hl
  refine lv_aload_n hx hb dL_replenish_0 rfl (lv_at hl 3 rfl) ?_
  refine lv_iconst (v := 0) hx hb dL_replenish_1 (by decide) ?_
  refine lv_aload_n hx hb dL_replenish_2 rfl (lv_at hl 0 rfl) ?_
  refine lv_iload_n hx hb dL_replenish_3 rfl (lv_at hl 1 rfl) ?_
  refine lv_iload_n hx hb dL_replenish_4 rfl (lv_at hl 2 rfl) ?_
  refine xVh F (c_X3_replenish hm) tk_447 tk_444 tk_445 tk_446 tk_1 rfl 2 (by decide +kernel) rfl ⟨Nat.le_of_ble_eq_true rfl, Nat.le_of_ble_eq_true rfl⟩ hP hS (kd_k kdc_0 (by decide)) (wc3 kdc_0) rfl hl.1 rfl (Nat.le_of_ble_eq_true rfl) dL_replenish_5 ⟨Nat.le_of_ble_eq_true rfl, Nat.le_of_ble_eq_true rfl⟩ (fun v hv H locs hP hS => ?_) (fun E hE H locs q9 ce hP hS e1 e2 e3 => ?_)
  · replace hv : r = .inl v := hv
    subst hv
    replace hP : va_P (gD G) vwCl (wld G lo σ) H := hP
    rcases v with _ | (x | q)
    · cases hk
    · cases hk
      refine W.eq (g2 := F0 m 8 ls [.int x, .int 0, .ref (gA G 25)]) rfl ?_
      refine lv_i2l (v := x.toInt64) hx hb dL_replenish_8 rfl ?_
      refine hlast F hP hS dL_replenish_9 (fun H locs hP hS => ?_)
      refine lv_goto (tgt := 21) hx hb dL_replenish_10 (by decide) ?_
      refine lv_iconst (v := 0) hx hb dL_replenish_21 (by decide) ?_
      exact hend F hP hS (by decide) (by decide) dL_replenish_22
    · cases hk
  · replace hE : r = .inr E := hE
    subst hE
    replace hP : va_P (gD G) vwCl (wld G lo σ) H := hP
    by_cases j1 : E = "java/util/NoSuchElementException"
    · subst j1
      simp [oI, cdx] at hk
      obtain ⟨rfl, rfl⟩ := hk
      refine zc_catch (name := "java/util/NoSuchElementException") hown [] ⟨0, 10, 13, 20⟩ [⟨0, 10, 17, 13⟩] (htab.trans rfl) (fun _ h => nomatch h) (by decide) (by decide) (hts _ tk_276) (va_Nw.use rfl (hC.2.2.1 _ tn_26)) e1 e2 e3 ?_
      refine lv_astore (lv' := [(4, .ref q9), (0, .ref (gA G 0)), (1, .int x1), (2, .int x2), (3, .ref (gA G 25))]) hx hb dL_replenish_13 hl (by decide) rfl (fun ls hl => ?_)
      refine lv_iconst (v := 1) hx hb dL_replenish_15 (by decide) ?_
      exact hend F hP hS (by decide) (by decide) dL_replenish_16
    by_cases j2 : E = "java/lang/IllegalArgumentException"
    · subst j2
      simp [oI, cdx] at hk
      obtain ⟨rfl, rfl⟩ := hk
      refine zc_catch (name := "java/lang/IllegalArgumentException") hown [⟨0, 10, 13, 20⟩] ⟨0, 10, 17, 13⟩ [] (htab.trans rfl) (List.forall_mem_cons.mpr ⟨⟨by decide, by decide, _, hts _ tk_276, hnc _ (List.mem_of_getElem? (i := 2) rfl)⟩, (fun _ h => nomatch h)⟩) (by decide) (by decide) (hts _ tk_178) (va_Nw.use rfl (hC.2.2.1 _ tn_18)) e1 e2 e3 ?_
      refine lv_astore (lv' := [(4, .ref q9), (0, .ref (gA G 0)), (1, .int x1), (2, .int x2), (3, .ref (gA G 25))]) hx hb dL_replenish_17 hl (by decide) rfl (fun ls hl => ?_)
      refine lv_iconst (v := 2) hx hb dL_replenish_19 (by decide) ?_
      exact hend F hP hS (by decide) (by decide) dL_replenish_20
    simp [oI, cdx, j1, j2] at hk
set_option maxHeartbeats 4000000 in
set_option maxRecDepth 100000 in
theorem h_stock {l : Launch} {G : GT} {lo lo1 : Nat → Int64} {σ : St} {x1 x2 : Int32} {r : RV × St} {k : Int32} (hm : f_X3_stock σ x1 x2 = some r) (hk : oV ["java/lang/IllegalArgumentException"] lo r.1 = some (k, lo1)) : HC l G yL_stock cL_stock 4 [(0, 6, 9, 13)] 8 134 2 12 [.inr 0, .inl x1, .inl x2] lo σ lo1 k r.2 := by
  refine hbody (by decide) rfl (Nat.le_of_ble_eq_true rfl) ?_
  intro p e s m args below meth c F hP ls hl
  obtain ⟨hx, hb, hrt, hml, hown, hts, hlocks, hC, hnc, htab, hst⟩ := id F
  have hS : va_S (gF G) s.heap s.heap [] := va_S.rf
  have hl : lv_has ls 4 [(0, .ref (gA G 0)), (1, .int x1), (2, .int x2)] := hl
  refine lv_aload_n hx hb dL_stock_0 rfl (lv_at hl 0 rfl) ?_
  refine lv_iload_n hx hb dL_stock_1 rfl (lv_at hl 1 rfl) ?_
  refine lv_iload_n hx hb dL_stock_2 rfl (lv_at hl 2 rfl) ?_
  refine xVh F (c_X3_stock hm) tk_352 tk_349 tk_350 tk_351 tk_1 rfl 2 (by decide +kernel) rfl ⟨Nat.le_of_ble_eq_true rfl, Nat.le_of_ble_eq_true rfl⟩ hP hS (kd_k kdc_0 (by decide)) (wc3 kdc_0) rfl hl.1 rfl (Nat.le_of_ble_eq_true rfl) dL_stock_3 ⟨Nat.le_of_ble_eq_true rfl, Nat.le_of_ble_eq_true rfl⟩ (fun v hv H locs hP hS => ?_) (fun E hE H locs q9 ce hP hS e1 e2 e3 => ?_)
  · rw [hv] at hk
    replace hP : va_P (gD G) vwCl (wld G lo r.2) H := hP
    rcases v with _ | (x | q)
    · cases hk
      refine W.eq (g2 := F0 m 6 ls []) rfl ?_
      refine lv_goto (tgt := 12) hx hb dL_stock_6 (by decide) ?_
      refine lv_iconst (v := 0) hx hb dL_stock_12 (by decide) ?_
      exact hend F hP hS (by decide) (by decide) dL_stock_13
    · cases hk
    · cases hk
  · rw [hE] at hk
    replace hP : va_P (gD G) vwCl (wld G lo r.2) H := hP
    by_cases j1 : E = "java/lang/IllegalArgumentException"
    · subst j1
      simp [oV, cdx] at hk
      obtain ⟨rfl, rfl⟩ := hk
      refine zc_catch (name := "java/lang/IllegalArgumentException") hown [] ⟨0, 6, 9, 13⟩ [] (htab.trans rfl) (fun _ h => nomatch h) (by decide) (by decide) (hts _ tk_178) (va_Nw.use rfl (hC.2.2.1 _ tn_18)) e1 e2 e3 ?_
      refine lv_astore_n (lv' := [(3, .ref q9), (0, .ref (gA G 0)), (1, .int x1), (2, .int x2)]) hx hb dL_stock_9 rfl hl (by decide) rfl (fun ls hl => ?_)
      refine lv_iconst (v := 1) hx hb dL_stock_10 (by decide) ?_
      exact hend F hP hS (by decide) (by decide) dL_stock_11
    simp [oV, cdx, j1] at hk
set_option maxHeartbeats 4000000 in
set_option maxRecDepth 100000 in
theorem h_told {l : Launch} {G : GT} {lo lo1 : Nat → Int64} {σ : St} {x1 x2 : Int32} {r : RV} {k : Int32} (hm : f_X3_told σ x1 x2 = some r) (hk : oI ["java/util/NoSuchElementException", "java/lang/IllegalArgumentException"] lo r = some (k, lo1)) : HC l G yL_told cL_told 5 [(0, 10, 13, 20), (0, 10, 17, 13)] 8 138 2 12 [.inr 0, .inl x1, .inl x2, .inr 25] lo σ lo1 k σ := by
  refine hbody (by decide) rfl (Nat.le_of_ble_eq_true rfl) ?_
  intro p e s m args below meth c F hP ls hl
  obtain ⟨hx, hb, hrt, hml, hown, hts, hlocks, hC, hnc, htab, hst⟩ := id F
  have hS : va_S (gF G) s.heap s.heap [] := va_S.rf
  have hl : lv_has ls 5 [(0, .ref (gA G 0)), (1, .int x1), (2, .int x2), (3, .ref (gA G 25))] := hl
  refine lv_aload_n hx hb dL_told_0 rfl (lv_at hl 3 rfl) ?_
  refine lv_iconst (v := 0) hx hb dL_told_1 (by decide) ?_
  refine lv_aload_n hx hb dL_told_2 rfl (lv_at hl 0 rfl) ?_
  refine lv_iload_n hx hb dL_told_3 rfl (lv_at hl 1 rfl) ?_
  refine lv_iload_n hx hb dL_told_4 rfl (lv_at hl 2 rfl) ?_
  refine xVh F (c_X3_told hm) tk_414 tk_411 tk_412 tk_413 tk_1 rfl 2 (by decide +kernel) rfl ⟨Nat.le_of_ble_eq_true rfl, Nat.le_of_ble_eq_true rfl⟩ hP hS (kd_k kdc_0 (by decide)) (wc3 kdc_0) rfl hl.1 rfl (Nat.le_of_ble_eq_true rfl) dL_told_5 ⟨Nat.le_of_ble_eq_true rfl, Nat.le_of_ble_eq_true rfl⟩ (fun v hv H locs hP hS => ?_) (fun E hE H locs q9 ce hP hS e1 e2 e3 => ?_)
  · replace hv : r = .inl v := hv
    subst hv
    replace hP : va_P (gD G) vwCl (wld G lo σ) H := hP
    rcases v with _ | (x | q)
    · cases hk
    · cases hk
      refine W.eq (g2 := F0 m 8 ls [.int x, .int 0, .ref (gA G 25)]) rfl ?_
      refine lv_i2l (v := x.toInt64) hx hb dL_told_8 rfl ?_
      refine hlast F hP hS dL_told_9 (fun H locs hP hS => ?_)
      refine lv_goto (tgt := 21) hx hb dL_told_10 (by decide) ?_
      refine lv_iconst (v := 0) hx hb dL_told_21 (by decide) ?_
      exact hend F hP hS (by decide) (by decide) dL_told_22
    · cases hk
  · replace hE : r = .inr E := hE
    subst hE
    replace hP : va_P (gD G) vwCl (wld G lo σ) H := hP
    by_cases j1 : E = "java/util/NoSuchElementException"
    · subst j1
      simp [oI, cdx] at hk
      obtain ⟨rfl, rfl⟩ := hk
      refine zc_catch (name := "java/util/NoSuchElementException") hown [] ⟨0, 10, 13, 20⟩ [⟨0, 10, 17, 13⟩] (htab.trans rfl) (fun _ h => nomatch h) (by decide) (by decide) (hts _ tk_276) (va_Nw.use rfl (hC.2.2.1 _ tn_26)) e1 e2 e3 ?_
      refine lv_astore (lv' := [(4, .ref q9), (0, .ref (gA G 0)), (1, .int x1), (2, .int x2), (3, .ref (gA G 25))]) hx hb dL_told_13 hl (by decide) rfl (fun ls hl => ?_)
      refine lv_iconst (v := 1) hx hb dL_told_15 (by decide) ?_
      exact hend F hP hS (by decide) (by decide) dL_told_16
    by_cases j2 : E = "java/lang/IllegalArgumentException"
    · subst j2
      simp [oI, cdx] at hk
      obtain ⟨rfl, rfl⟩ := hk
      refine zc_catch (name := "java/lang/IllegalArgumentException") hown [⟨0, 10, 13, 20⟩] ⟨0, 10, 17, 13⟩ [] (htab.trans rfl) (List.forall_mem_cons.mpr ⟨⟨by decide, by decide, _, hts _ tk_276, hnc _ (List.mem_of_getElem? (i := 2) rfl)⟩, (fun _ h => nomatch h)⟩) (by decide) (by decide) (hts _ tk_178) (va_Nw.use rfl (hC.2.2.1 _ tn_18)) e1 e2 e3 ?_
      refine lv_astore (lv' := [(4, .ref q9), (0, .ref (gA G 0)), (1, .int x1), (2, .int x2), (3, .ref (gA G 25))]) hx hb dL_told_17 hl (by decide) rfl (fun ls hl => ?_)
      refine lv_iconst (v := 2) hx hb dL_told_19 (by decide) ?_
      exact hend F hP hS (by decide) (by decide) dL_told_20
    simp [oI, cdx, j1, j2] at hk
set_option maxHeartbeats 4000000 in
set_option maxRecDepth 100000 in
theorem h_wave {l : Launch} {G : GT} {lo lo1 : Nat → Int64} {σ : St} {x1 : Int32} {r : RV} {k : Int32} (hm : f_X3_wave σ x1 = some r) (hk : oI ["java/util/NoSuchElementException"] lo r = some (k, lo1)) : HC l G yL_wave cL_wave 4 [(0, 9, 12, 20)] 8 132 1 6 [.inr 0, .inl x1, .inr 25] lo σ lo1 k σ := by
  refine hbody (by decide) rfl (Nat.le_of_ble_eq_true rfl) ?_
  intro p e s m args below meth c F hP ls hl
  obtain ⟨hx, hb, hrt, hml, hown, hts, hlocks, hC, hnc, htab, hst⟩ := id F
  have hS : va_S (gF G) s.heap s.heap [] := va_S.rf
  have hl : lv_has ls 4 [(0, .ref (gA G 0)), (1, .int x1), (2, .ref (gA G 25))] := hl
  refine lv_aload_n hx hb dL_wave_0 rfl (lv_at hl 2 rfl) ?_
  refine lv_iconst (v := 0) hx hb dL_wave_1 (by decide) ?_
  refine lv_aload_n hx hb dL_wave_2 rfl (lv_at hl 0 rfl) ?_
  refine lv_iload_n hx hb dL_wave_3 rfl (lv_at hl 1 rfl) ?_
  refine xVh F (c_X3_wave hm) tk_407 tk_404 tk_405 tk_406 tk_1 rfl 1 (by decide +kernel) rfl ⟨Nat.le_of_ble_eq_true rfl, Nat.le_of_ble_eq_true rfl⟩ hP hS (kd_k kdc_0 (by decide)) (wc3 kdc_0) rfl hl.1 rfl (Nat.le_of_ble_eq_true rfl) dL_wave_4 ⟨Nat.le_of_ble_eq_true rfl, Nat.le_of_ble_eq_true rfl⟩ (fun v hv H locs hP hS => ?_) (fun E hE H locs q9 ce hP hS e1 e2 e3 => ?_)
  · replace hv : r = .inl v := hv
    subst hv
    replace hP : va_P (gD G) vwCl (wld G lo σ) H := hP
    rcases v with _ | (x | q)
    · cases hk
    · cases hk
      refine W.eq (g2 := F0 m 7 ls [.int x, .int 0, .ref (gA G 25)]) rfl ?_
      refine lv_i2l (v := x.toInt64) hx hb dL_wave_7 rfl ?_
      refine hlast F hP hS dL_wave_8 (fun H locs hP hS => ?_)
      refine lv_goto (tgt := 15) hx hb dL_wave_9 (by decide) ?_
      refine lv_iconst (v := 0) hx hb dL_wave_15 (by decide) ?_
      exact hend F hP hS (by decide) (by decide) dL_wave_16
    · cases hk
  · replace hE : r = .inr E := hE
    subst hE
    replace hP : va_P (gD G) vwCl (wld G lo σ) H := hP
    by_cases j1 : E = "java/util/NoSuchElementException"
    · subst j1
      simp [oI, cdx] at hk
      obtain ⟨rfl, rfl⟩ := hk
      refine zc_catch (name := "java/util/NoSuchElementException") hown [] ⟨0, 9, 12, 20⟩ [] (htab.trans rfl) (fun _ h => nomatch h) (by decide) (by decide) (hts _ tk_276) (va_Nw.use rfl (hC.2.2.1 _ tn_26)) e1 e2 e3 ?_
      refine lv_astore_n (lv' := [(3, .ref q9), (0, .ref (gA G 0)), (1, .int x1), (2, .ref (gA G 25))]) hx hb dL_wave_12 rfl hl (by decide) rfl (fun ls hl => ?_)
      refine lv_iconst (v := 1) hx hb dL_wave_13 (by decide) ?_
      exact hend F hP hS (by decide) (by decide) dL_wave_14
    simp [oI, cdx, j1] at hk
