/-! ===== constructors: worlds that grow ===== -/
def Kc (G : GT) (U : State) : Prop := va_K (gD G) vwCl (tyG G) U ∧ (∀ w ∈ nst, va_Nw w U) ∧ va_AO RX1 U ∧ va_AO RX2 U ∧ ∀ q : Nat, U.heap.size ≤ q → gF G q
theorem Kc.to {G : GT} {s U : State} {H : Heap} {locs : List Loc} (h : Kc G s) (hW : s.WarmedH U.vm) (hS : va_S (gF G) s.heap H locs) (hU : U.heap = H) : Kc G U := by
  obtain ⟨h1, h2, h3, h4, h5⟩ := h
  exact ⟨va_K.moved hW.alike h1, fun w hw => nst_warm hW w (nst_ok w hw) (h2 w hw), va_AO.moved hW.alike h3, va_AO.moved hW.alike h4, fun q hq => h5 q (Nat.le_trans hS.1 (by rw [← hU]; exact hq))⟩
theorem Kc.blind {G : GT} {U : State} (h : Kc G U) (g : JFrame) (mk : MethodId) (a : Array Value) : Kc G (U.calling g mk a) :=
  h.to (H := U.heap) (locs := []) (State.WarmedH.refl U) va_S.rf rfl
def PK (G : GT) (vs : List Value) (ws : va_W) : Array Value → State → Prop := va_Pc vs (fun U => va_P (gD G) vwCl ws U.heap ∧ va_D (gF G) ws ∧ Kc G U)
def QK (G : GT) (B : va_W → Prop) : Array Value → State → Outcome → State → Prop := fun _ st oc t => oc = .returned none ∧ (∃ ws, B ws ∧ va_P (gD G) vwCl ws t.heap ∧ va_D (gF G) ws) ∧ va_F (gF G) st t
def MK (l : Launch) (G : GT) (y : MethodName) (cc : ByteArray) (maxL : Nat) (fr wl mc ms : Nat) (vs : List Value) (ws : va_W) (B : va_W → Prop) : Prop := Met l y (Cond.code y cc maxL none :: TB) (RM fr wl mc ms) (PK G vs ws) (QK G B) mc ms (gF G)
def Fk (p : Program) (s : State) (args : Array Value) (m : MethodId) (meth : Method) (c : Code) (G : GT) (cc : ByteArray) (nL : Nat) (own : String) : Prop :=
  p.tables.exec = Jvm.exec ∧ c.code = cc ∧ meth.sig.returnType = none ∧ c.maxLocals = nL ∧ s.vm.findClass own = some m.cls ∧ (∀ w ∈ TB, w.before args s = true) ∧ meth.locks = false ∧ Kc G s ∧ meth.name = "<init>"
theorem kbody {l : Launch} {G : GT} {y : MethodName} {cc : ByteArray} {maxL fr wl mc ms : Nat} {vs : List Value} {ws : va_W} {B : va_W → Prop} (hy : plainName y.cls = true) (hyn : y.name = "<init>") (hn : (lg_sl vs).length ≤ maxL)
    (body : ∀ (p : Program) (e : Env) (s : State) (m : MethodId) (args : Array Value) (below : List Frame) (meth : Method) (c : Code), Fk p s args m meth c G cc maxL y.cls → va_P (gD G) vwCl ws s.heap → va_D (gF G) ws → ∀ ls : Array Slot, lv_has ls maxL (lv_args 0 vs) →
      W p l e (RM fr wl mc ms) s m args below meth c s.heap [] 0 0 (MQ below (QK G B) args s mc ms (gF G)) (F0 m 0 ls [])) : MK l G y cc maxL fr wl mc ms vs ws B := by
  refine Met.ofW (cc := cc) (maxL := maxL) (ret := none) hy rfl ?_
  intro p e s m args below meth c s₁ B9 hml hv
  obtain ⟨rfl, hP, hD, hC⟩ := hv
  have hts := atoms_spec (ws := Cond.code y cc maxL none :: TB) B9.pre
  have hown : s.vm.findClass y.cls = some m.cls := findClass_of_methodNamed B9.named
  have hl := lv_entry vs (n := maxL) hn
  rw [lg_entry_eq]
  exact body p e s m _ below meth c ⟨B9.exec, B9.bytes, B9.returns, hml, hown, fun w h => hts w (List.mem_cons_of_mem _ h), B9.notSynchronized, hC, ((name_of_methodNamed B9.named B9.method).1).trans hyn⟩ hP hD _ hl
theorem zl_at {w0 r : va_W} {x : Nat × va_E} : (w0 ++ x :: r)[w0.length]? = some x := by simp
theorem zl_set {w0 r : va_W} {x y : Nat × va_E} : (w0 ++ x :: r).set w0.length y = w0 ++ y :: r := by simp
theorem zk_eq {D : va_G} {cl : List vw_C} {tys : List (ClassId × FieldType)} {U : State} (hK : va_K D cl tys U) {i j : Nat} {c1 c2 : ClassId} {ty : FieldType} (h1 : tys[i]? = some (c1, ty)) (h2 : tys[j]? = some (c2, ty)) : c1 = c2 := by
  have r1 := (hK.2 i _ h1).2
  have r2 := (hK.2 j _ h2).2
  cases ty with
  | object C =>
    obtain ⟨_, _, _, _, _, e1⟩ := r1
    obtain ⟨_, _, _, _, _, e2⟩ := r2
    exact Option.some.inj (e1.symm.trans e2)
  | _ => exact Option.some.inj (Eq.trans (Eq.symm r1) r2)
section
variable {p : Program} {l : Launch} {e : Env} {R : Room} {s : State} {m : MethodId} {args : Array Value} {below : List Frame} {meth : Method} {c : Code} {H : Heap} {locs : List Loc} {cells slots : Nat} {Q : State → Prop}
variable {cc : ByteArray} {nL : Nat} {own : String} {pc : Nat} {ls : Array Slot} {rest st0 : List Value} {G : GT} {ws : va_W} {B : va_W → Prop} {mc ms : Nat}
theorem kend (F : Fk p s args m meth c G cc nL own) (hP : va_P (gD G) vwCl ws H) (hD : va_D (gF G) ws) (hS : va_S (gF G) s.heap H locs) (hB : B ws) (hc : cells ≤ mc) (hs : slots ≤ ms) (hdg : decode cc pc = .ok (.return_, 1)) :
    W p l e R s m args below meth c H locs cells slots (MQ below (QK G B) args s mc ms (gF G)) (F0 m pc ls []) := by
  obtain ⟨hx, hb, hrt, hml, hown, hts, hlocks, hC, hin⟩ := F
  refine W.widen (k := mc) (n := ms) hc hs ?_
  exact W.vret hx hb hrt (fun t ht _ => ⟨rfl, ⟨ws, hB, by rw [ht]; exact hP, hD⟩, hS.F ht⟩) hS.2.2 hdg hlocks
theorem kobj (F : Fk p s args m meth c G cc nL own) {a idx : Nat} (hlink : Cond.methodLink own idx objectInit ∈ TB) (hinst : Cond.instanceMethod objectInit ∈ TB) (hcode : Cond.code objectInit ⟨#[0xb1]⟩ 1 none ∈ TB) (hsize : ls.size = nL) (hd : decode cc pc = .ok (.invokespecial idx, 3)) (hf : 1 ≤ R.frames) (hlo : 2 * 0 + (rest.map fun v => v.category).sum + 12 ≤ R.locals)
    (kk : W p l e R s m args below meth c H locs cells slots Q (F0 m (pc + 3) ls rest)) : W p l e R s m args below meth c H locs cells slots Q (F0 m pc ls (.ref a :: rest)) := by
  obtain ⟨hx, hb, hrt, hml, hown, hts, hlocks, hC, hin⟩ := F
  exact W.objInit hx hb hown (hts _ hlink) (hts _ hinst) (hts _ hcode) (g := F0 m pc ls (.ref a :: rest)) rfl (by rw [hml]; exact hsize) rfl hd hf hlo kk
/-- a new array of zeros into a final field of the object that is made -/
theorem kArr (F : Fk p s args m meth c G cc nL own) {T : u_T} {N0 ci index N t0 h0 : Nat} {ty0 : Nat → FieldType} {atype : ArrayType} {ty : FieldType} {cA : ClassId} {n : Int32} {w0 r : va_W} {fs : List Value} (k : Nat) (hin : ∀ w ∈ u_ws own T N0, w ∈ TB) (hty : ∀ k, k < N0 → parseFieldDescriptor (T k).2.2.1 = some (ty0 k)) (hnm : ∀ a, a < N0 → ∀ b, b < N0 → a ≠ b → (T a).2.1 ≠ (T b).2.1)
    (hP : va_P (gD G) vwCl (w0 ++ (h0, .inr (ci, fs)) :: r) H) (hD : va_D (gF G) (w0 ++ (h0, .inr (ci, fs)) :: r)) (hS : va_S (gF G) s.heap H locs) (hc : vwCl[ci]? = some (own, T, N0)) (hk : k < N0) (hlink : Cond.fieldLink own index own (T k).2.1 (T k).2.2.1 ∈ TB) (hT1 : (T k).1 = own) (hfin : (T k).2.2.2 = true) (hd : ty0 k = .array ty) (hl : k < fs.length)
    (harr : Cond.arrayClass ty ∈ TB) (hat : newarray.typeOf atype = ty) (ht0 : (tyG G)[t0]? = some (cA, ty)) (hdef : defaultValue ty = .int 0) (hn : ¬ n < 0) (hN : n.toNatClampNeg = N) (hby : N * componentBytes ty ≤ 536870912) (hcells : cells + 1 ≤ R.cells) (hslots : slots + N ≤ R.slots) (d1 : decode cc pc = .ok (.newarray atype, 2)) (d2 : decode cc (pc + 2) = .ok (.putfield index, 3))
    (kk : ∀ (a : Nat) (H1 : Heap) (locs1 : List Loc), va_P (gD G) vwCl (w0 ++ (h0, .inr (ci, fs.set k (.ref a))) :: (r ++ [(a, .inl (cA, N, .inl (fun _ => 0)))])) H1 → va_D (gF G) (w0 ++ (h0, .inr (ci, fs.set k (.ref a))) :: (r ++ [(a, .inl (cA, N, .inl (fun _ => 0)))])) → va_S (gF G) s.heap H1 locs1 → W p l e R s m args below meth c H1 locs1 (cells + 1) (slots + N) Q (F0 m (pc + 2 + 3) ls rest)) :
    W p l e R s m args below meth c H locs cells slots Q (F0 m pc ls (.int n :: .ref h0 :: rest)) := by
  obtain ⟨hx, hb, hrt, hml, hown, hts, hlocks, hC, hin2⟩ := F
  refine va_newa hx hb (by rw [hat]; exact hts _ harr) hat hC.1 hP hD hS hC.2.2.2.2 (a0 := (N, .inl fun _ => 0)) (fun cA => by rw [vp_cell_i, hdef]) hn hN hby hcells hslots d1 (fun a cA' H1 hK1 hP1 hD1 hS1 => ?_)
  have hcA : cA' = cA := zk_eq (ty := ty) (c1 := cA') (c2 := cA) (i := (tyG G).length) (j := t0) hK1 (by simp) (by rw [List.getElem?_append_left (List.getElem?_eq_some_iff.mp ht0).1]; exact ht0)
  subst hcA
  rw [List.append_assoc, List.cons_append] at hP1 hD1
  refine va_putF hx hb hts hin ty0 hty hnm hown hC.1 hP1 hD1 hS1 w0.length zl_at hc k hk (hts _ hlink) (fun x h => by rw [hT1] at h; exact h) hfin hin2 hT1 (by rw [hty k hk, hd]) rfl rfl hl d2 (fun H2 locs2 hP2 hD2 hS2 => ?_)
  rw [zl_set] at hP2 hD2
  exact kk a H2 locs2 hP2 hD2 hS2
/-- the constructor of a nest mate -/
theorem kIN (F : Fk p s args m meth c G cc nL own) {y : MethodName} {bytes : ByteArray} {maxL fr wl index b : Nat} {host : String} (hM : MK l G y bytes maxL fr wl mc ms [.ref b] ws B) (hcode : Cond.code y bytes maxL none ∈ TB) (hlink : Cond.methodLinkNest own index y host ∈ nst) (hinst : Cond.instanceMethod y ∈ TB) (hini : Cond.initialized y.cls ∈ TB) (hyn : y.name = "<init>") (hd : y.cls ≠ "java/lang/invoke/MethodHandle" ∧ y.cls ≠ "java/lang/invoke/VarHandle" ∧ (parseMethodDescriptor y.desc).map (fun d => d.parameters.length) = some 0)
    (hR : fr + 1 ≤ R.frames ∧ 8 + (maxL + 11) + wl ≤ R.locals) (hP : va_P (gD G) vwCl ws H) (hD : va_D (gF G) ws) (hS : va_S (gF G) s.heap H locs) (hsize : ls.size = nL) (hW : (rest.map fun v => v.category).sum ≤ 8) (hdg : decode cc pc = .ok (.invokespecial index, 3)) (hf : cells + mc ≤ R.cells ∧ slots + ms ≤ R.slots)
    (kk : ∀ (ws1 : va_W) (H1 : Heap) (locs1 : List Loc), B ws1 → va_P (gD G) vwCl ws1 H1 → va_D (gF G) ws1 → va_S (gF G) s.heap H1 locs1 → W p l e R s m args below meth c H1 locs1 (cells + mc) (slots + ms) Q (F0 m (pc + 3) ls rest)) : W p l e R s m args below meth c H locs cells slots Q (F0 m pc ls (.ref b :: rest)) := by
  obtain ⟨hx, hb, hrt, hml, hown, hts, hlocks, hC, hin2⟩ := F
  have hp : PreS s H (PK G [.ref b] ws) [.ref b] := ⟨fun a U g mk q => ⟨q.1, q.2.1, q.2.2.1, q.2.2.2.blind g mk a⟩, fun U hU hW => ⟨rfl, by rw [hU]; exact hP, hD, hC.to hW hS hU⟩⟩
  have hr := va_runIN (e := e) (below := below) (meth := meth) (locs := locs) (cells := cells) (slots := slots) (g := F0 m pc ls (.ref b :: rest)) (b := b) (As := []) (rest := rest) ⟨hx, hb, hml, hown, hts⟩ hM ⟨va_cnB 0 hts (gTB hcode) rfl rfl rfl (hC.2.1 _ hlink) (hts _ hini) hd hR, hyn, hts _ hinst⟩ hp rfl rfl hsize rfl (lv_room hW) hdg hf
  intro T hT X
  obtain ⟨v', st₀, t, T', L, h0, X', hL, e1, e2, ⟨ho, ⟨ws1, hB, hP1, hD1⟩, hF⟩, st⟩ := hr T hT X
  cases ho
  obtain ⟨k1, k2, k3⟩ := vx_keep h0 e1 hS (fun _ _ h => h) (fun _ h => h) hL hF
  obtain ⟨t2, a1, b1⟩ := kk ws1 T'.heap (locs ++ L) hB (by rw [e1]; exact hP1) hD1 k3 T' rfl X'
  exact ⟨t2, st t2 a1, b1⟩
end

set_option maxHeartbeats 4000000 in
set_option maxRecDepth 100000 in
theorem k_X0_init {l : Launch} {G : GT} {w0 : va_W} {h0 : Nat} : MK l G yX0_init cX0_init 1 1 20 3 30 [.ref h0] (w0 ++ [(h0, .inr (0, [.null, .null, .null, .int 0]))]) (fun ws => ∃ a1 a2 a3 : Nat, ws = w0 ++ [(h0, .inr (0, [.ref a1, .ref a2, .ref a3, .int 0])), (a1, .inl (gC G 0, 10, .inl (fun _ => 0))), (a2, .inl (gC G 0, 10, .inl (fun _ => 0))), (a3, .inl (gC G 0, 10, .inl (fun _ => 0)))]) := by
  refine kbody (by decide) rfl (Nat.le_of_ble_eq_true rfl) ?_
  intro p e s m args below meth c F hP hD ls hl
  have F : Fk p s args m meth c G cX0_init 1 RX0 := F
  obtain ⟨hx, hb, hrt, hml, hown, hts, hlocks, hC, hin2⟩ := id F
  have hS : va_S (gF G) s.heap s.heap [] := va_S.rf
  have hl : lv_has ls 1 [(0, .ref h0)] := hl
  refine lv_aload_n hx hb dX0_init_0 rfl (lv_at hl 0 rfl) ?_
  refine kobj F tk_34 tk_20 tk_21 hl.1 dX0_init_1 (Nat.le_of_ble_eq_true rfl) (Nat.le_of_ble_eq_true rfl) ?_
  refine lv_aload_n hx hb dX0_init_4 rfl (lv_at hl 0 rfl) ?_
  refine lv_bipush (v := 10) hx hb dX0_init_5 (by decide) ?_
  refine kArr F (N := 10) (t0 := 0) (ty := .int) 0 inX0 tyX0_ok nmX0 hP hD hS rfl (by decide) tk_35 rfl rfl rfl (Nat.le_of_ble_eq_true rfl) tk_49 rfl rfl rfl (by decide) (by decide) (by decide) (Nat.le_of_ble_eq_true rfl) (Nat.le_of_ble_eq_true rfl) dX0_init_7 dX0_init_9 (fun a0 H locs hP hD hS => ?_)
  refine lv_aload_n hx hb dX0_init_12 rfl (lv_at hl 0 rfl) ?_
  refine lv_bipush (v := 10) hx hb dX0_init_13 (by decide) ?_
  refine kArr F (N := 10) (t0 := 0) (ty := .int) 1 inX0 tyX0_ok nmX0 hP hD hS rfl (by decide) tk_36 rfl rfl rfl (Nat.le_of_ble_eq_true rfl) tk_49 rfl rfl rfl (by decide) (by decide) (by decide) (Nat.le_of_ble_eq_true rfl) (Nat.le_of_ble_eq_true rfl) dX0_init_15 dX0_init_17 (fun a1 H locs hP hD hS => ?_)
  refine lv_aload_n hx hb dX0_init_20 rfl (lv_at hl 0 rfl) ?_
  refine lv_bipush (v := 10) hx hb dX0_init_21 (by decide) ?_
  refine kArr F (N := 10) (t0 := 0) (ty := .int) 2 inX0 tyX0_ok nmX0 hP hD hS rfl (by decide) tk_37 rfl rfl rfl (Nat.le_of_ble_eq_true rfl) tk_49 rfl rfl rfl (by decide) (by decide) (by decide) (Nat.le_of_ble_eq_true rfl) (Nat.le_of_ble_eq_true rfl) dX0_init_23 dX0_init_25 (fun a2 H locs hP hD hS => ?_)
  exact kend F hP hD hS ⟨a0, a1, a2, rfl⟩ (by decide) (by decide) dX0_init_28
set_option maxHeartbeats 4000000 in
set_option maxRecDepth 100000 in
theorem k_X1_init {l : Launch} {G : GT} {w0 : va_W} {h0 : Nat} : MK l G yX1_init cX1_init 1 1 20 1 10 [.ref h0] (w0 ++ [(h0, .inr (1, [.int 0, .int 0, .int 0, .int 0, .int 0, .null, .int 0, .int 0, .int 0]))]) (fun ws => ∃ a1 : Nat, ws = w0 ++ [(h0, .inr (1, [.int 0, .int 0, .int 0, .int 0, .int 0, .ref a1, .int 0, .int 0, .int 0])), (a1, .inl (gC G 0, 10, .inl (fun _ => 0)))]) := by
  refine kbody (by decide) rfl (Nat.le_of_ble_eq_true rfl) ?_
  intro p e s m args below meth c F hP hD ls hl
  have F : Fk p s args m meth c G cX1_init 1 RX1 := F
  obtain ⟨hx, hb, hrt, hml, hown, hts, hlocks, hC, hin2⟩ := id F
  have hS : va_S (gF G) s.heap s.heap [] := va_S.rf
  have hl : lv_has ls 1 [(0, .ref h0)] := hl
  refine lv_aload_n hx hb dX1_init_0 rfl (lv_at hl 0 rfl) ?_
  refine kobj F tk_56 tk_20 tk_21 hl.1 dX1_init_1 (Nat.le_of_ble_eq_true rfl) (Nat.le_of_ble_eq_true rfl) ?_
  refine lv_aload_n hx hb dX1_init_4 rfl (lv_at hl 0 rfl) ?_
  refine lv_bipush (v := 10) hx hb dX1_init_5 (by decide) ?_
  refine kArr F (N := 10) (t0 := 0) (ty := .int) 5 inX1 tyX1_ok nmX1 hP hD hS rfl (by decide) tk_64 rfl rfl rfl (Nat.le_of_ble_eq_true rfl) tk_49 rfl rfl rfl (by decide) (by decide) (by decide) (Nat.le_of_ble_eq_true rfl) (Nat.le_of_ble_eq_true rfl) dX1_init_7 dX1_init_9 (fun a5 H locs hP hD hS => ?_)
  refine lv_aload_n hx hb dX1_init_12 rfl (lv_at hl 0 rfl) ?_
  refine lv_iconst (v := 0) hx hb dX1_init_13 (by decide) ?_
  refine va_put (v := .int 0) (ty := .int) hx hb hts inX1 tyX1 tyX1_ok nmX1 hown hC.1 hP hD hS w0.length zl_at rfl 6 (by decide) (hts _ tk_66) (fun _ h => h) rfl (tyX1_ok 6 (by decide)) rfl rfl (Nat.le_of_ble_eq_true rfl) dX1_init_14 (fun H locs hP hD hS => ?_)
  rw [zl_set] at hP hD
  exact kend F hP hD hS ⟨a5, rfl⟩ (by decide) (by decide) dX1_init_17
set_option maxHeartbeats 4000000 in
set_option maxRecDepth 100000 in
theorem k_X2_init {l : Launch} {G : GT} {w0 : va_W} {h0 : Nat} : MK l G yX2_init cX2_init 1 1 20 1 16 [.ref h0] (w0 ++ [(h0, .inr (2, [.null, .int 0, .int 0, .int 0]))]) (fun ws => ∃ a1 : Nat, ws = w0 ++ [(h0, .inr (2, [.ref a1, .int 0, .int 0, .int 0])), (a1, .inl (gC G 0, 16, .inl (fun _ => 0)))]) := by
  refine kbody (by decide) rfl (Nat.le_of_ble_eq_true rfl) ?_
  intro p e s m args below meth c F hP hD ls hl
  have F : Fk p s args m meth c G cX2_init 1 RX2 := F
  obtain ⟨hx, hb, hrt, hml, hown, hts, hlocks, hC, hin2⟩ := id F
  have hS : va_S (gF G) s.heap s.heap [] := va_S.rf
  have hl : lv_has ls 1 [(0, .ref h0)] := hl
  refine lv_aload_n hx hb dX2_init_0 rfl (lv_at hl 0 rfl) ?_
  refine kobj F tk_95 tk_20 tk_21 hl.1 dX2_init_1 (Nat.le_of_ble_eq_true rfl) (Nat.le_of_ble_eq_true rfl) ?_
  refine lv_aload_n hx hb dX2_init_4 rfl (lv_at hl 0 rfl) ?_
  refine lv_bipush (v := 16) hx hb dX2_init_5 (by decide) ?_
  refine kArr F (N := 16) (t0 := 0) (ty := .int) 0 inX2 tyX2_ok nmX2 hP hD hS rfl (by decide) tk_96 rfl rfl rfl (Nat.le_of_ble_eq_true rfl) tk_49 rfl rfl rfl (by decide) (by decide) (by decide) (Nat.le_of_ble_eq_true rfl) (Nat.le_of_ble_eq_true rfl) dX2_init_7 dX2_init_9 (fun a0 H locs hP hD hS => ?_)
  exact kend F hP hD hS ⟨a0, rfl⟩ (by decide) (by decide) dX2_init_12
