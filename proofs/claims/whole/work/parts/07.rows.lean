/-! ===== contracts of one form: the outcome and the state behind it, said exactly ===== -/
/-- returned nothing, an int, a reference to a place; or thrown, by the class -/
abbrev RV : Type := Option (Int32 ⊕ Nat) ⊕ String
def cv (G : GT) (x : Int32 ⊕ Nat) : Value := match x with
  | .inl i => .int i
  | .inr q => .ref (gA G q)
def QCr (G : GT) (lo : Nat → Int64) (r : RV × St) : Array Value → State → Outcome → State → Prop := fun _ st oc t => ∃ v : Option (Int32 ⊕ Nat), r.1 = .inl v ∧ oc = .returned (v.map (cv G)) ∧ va_P (gD G) vwCl (wld G lo r.2) t.heap ∧ va_F (gF G) st t
def XCr (G : GT) (lo : Nat → Int64) (r : RV × St) : String → State → State → Prop := fun E st t => r.1 = .inr E ∧ va_P (gD G) vwCl (wld G lo r.2) t.heap ∧ va_F (gF G) st t
def PWr (G : GT) (lo : Nat → Int64) (vs : List (Int32 ⊕ Nat)) (σ : St) : Array Value → State → Prop := va_Pc (vs.map (cv G)) (fun U => va_P (gD G) vwCl (wld G lo σ) U.heap ∧ Cx G U)
abbrev RM (fr wl mc ms : Nat) : Room := { frames := fr, cells := mc, slots := ms, locals := wl }
def MC (l : Launch) (G : GT) (y : MethodName) (cc : ByteArray) (maxL : Nat) (ret : Option FieldType) (fr wl mc ms : Nat) (vs : List (Int32 ⊕ Nat)) (σ : St) (r : RV × St) : Prop :=
  l.stackTraces = false → ∀ lo : Nat → Int64, vx_Met l y (Cond.code y cc maxL ret :: TB) (RM fr wl mc ms) (PWr G lo vs σ) (QCr G lo r) (XCr G lo r) mc ms (gF G)
/-- what a body knows of the machine and of its method -/
def Fx (p : Program) (l : Launch) (s : State) (args : Array Value) (m : MethodId) (meth : Method) (c : Code) (G : GT) (cc : ByteArray) (nL : Nat) (ret : Option FieldType) (own : String) : Prop :=
  p.tables.exec = Jvm.exec ∧ c.code = cc ∧ meth.sig.returnType = ret ∧ c.maxLocals = nL ∧ s.vm.findClass own = some m.cls ∧ (∀ w ∈ TB, w.before args s = true) ∧ meth.locks = false ∧ Cx G s ∧ (∀ x ∈ c.exceptionTable.toList, False) ∧ l.stackTraces = false
theorem xbody {l : Launch} {G : GT} {y : MethodName} {cc : ByteArray} {maxL : Nat} {ret : Option FieldType} {fr wl mc ms : Nat} {vs : List (Int32 ⊕ Nat)} {σ : St} {r : RV × St} (hy : plainName y.cls = true) (hn : (lg_sl (vs.map (cv G))).length ≤ maxL)
    (body : ∀ (lo : Nat → Int64) (p : Program) (e : Env) (s : State) (m : MethodId) (args : Array Value) (below : List Frame) (meth : Method) (c : Code), Fx p l s args m meth c G cc maxL ret y.cls → va_P (gD G) vwCl (wld G lo σ) s.heap → ∀ ls : Array Slot, lv_has ls maxL (lv_args 0 (vs.map (cv G))) →
      W p l e (RM fr wl mc ms) s m args below meth c s.heap [] 0 0 (vx_MQ below (QCr G lo r) (XCr G lo r) args s mc ms (gF G)) (F0 m 0 ls [])) : MC l G y cc maxL ret fr wl mc ms vs σ r := by
  intro hst lo
  refine vx_ofW (cc := cc) (maxL := maxL) (ret := ret) hy rfl ?_
  intro p e s m args below meth c s₁ B hml htab hv
  obtain ⟨rfl, hP, hC⟩ := hv
  have hts := atoms_spec (ws := Cond.code y cc maxL ret :: TB) B.pre
  have hown : s.vm.findClass y.cls = some m.cls := findClass_of_methodNamed B.named
  have hl := lv_entry (vs.map (cv G)) (n := maxL) hn
  rw [lg_entry_eq]
  exact body lo p e s m _ below meth c ⟨B.exec, B.bytes, B.returns, hml, hown, fun w h => hts w (List.mem_cons_of_mem _ h), B.notSynchronized, hC, htab, hst⟩ hP _ hl
theorem gTB {y : MethodName} {cc : ByteArray} {maxL : Nat} {ret : Option FieldType} (h : Cond.code y cc maxL ret ∈ TB) : GoodIn TB (Cond.code y cc maxL ret :: TB) := by
  intro w hw
  rcases List.mem_cons.mp hw with e | e
  · subst e; exact ⟨h, good_of_word (List.mem_filter.mp h).2⟩
  · exact ⟨e, good_of_word (List.mem_filter.mp e).2⟩
theorem xmet {l : Launch} {y : MethodName} {ws : List Cond} {rm : Room} {Pc : Array Value → State → Prop} {G : GT} {lo : Nat → Int64} {r : RV × St} {v : Option (Int32 ⊕ Nat)} {mc ms : Nat} {free : Addr → Prop} (h : vx_Met l y ws rm Pc (QCr G lo r) (XCr G lo r) mc ms free) (hr : r.1 = .inl v) : Met l y ws rm Pc (QCr G lo r) mc ms free := by
  intro p e a1 a2 a3 s m args below f1 f2 f3 f4
  obtain ⟨n, o, h1, h2, h3, h4⟩ := h p e a1 a2 a3 s m args below f1 f2 f3 f4
  refine ⟨n, o, h1, h2, h3, ?_⟩
  rcases h4 with h4 | ⟨q, -, E, ce, L, hx, -⟩
  · exact h4
  · have := hx.1
    rw [hr] at this
    cases this
section
variable {p : Program} {l : Launch} {e : Env} {R : Room} {s : State} {m : MethodId} {args : Array Value} {below : List Frame} {meth : Method} {c : Code} {H : Heap} {locs : List Loc} {cells slots : Nat} {Q : State → Prop}
variable {cc : ByteArray} {nL : Nat} {ret : Option FieldType} {own : String} {pc : Nat} {ls : Array Slot} {rest st0 : List Value} {G : GT} {lo : Nat → Int64} {σ : St} {r : RV × St} {mc ms : Nat}
/-! ends -/
theorem xir (F : Fx p l s args m meth c G cc nL (some .int) own) {v : Int32} (hP : va_P (gD G) vwCl (wld G lo σ) H) (hS : va_S (gF G) s.heap H locs) (hr : r = (.inl (some (.inl v)), σ)) (hc : cells ≤ mc) (hs : slots ≤ ms) (hdg : decode cc pc = .ok (.ireturn, 1)) :
    W p l e R s m args below meth c H locs cells slots (vx_MQ below (QCr G lo r) (XCr G lo r) args s mc ms (gF G)) (F0 m pc ls [.int v]) := by
  subst hr
  obtain ⟨hx, hb, hrt, hml, hown, hts, hlocks, hC, htab, hst⟩ := F
  refine W.widen (k := mc) (n := ms) hc hs (vx_ret ?_)
  exact W.iret hx hb hrt (fun t ht _ => ⟨some (.inl v), rfl, rfl, by rw [ht]; exact hP, hS.F ht⟩) hS.2.2 hdg hlocks
theorem xzr (F : Fx p l s args m meth c G cc nL (some .boolean) own) {v : Int32} (hP : va_P (gD G) vwCl (wld G lo σ) H) (hS : va_S (gF G) s.heap H locs) (hn : narrow .boolean (.int v) = .int v) (hr : r = (.inl (some (.inl v)), σ)) (hc : cells ≤ mc) (hs : slots ≤ ms) (hdg : decode cc pc = .ok (.ireturn, 1)) :
    W p l e R s m args below meth c H locs cells slots (vx_MQ below (QCr G lo r) (XCr G lo r) args s mc ms (gF G)) (F0 m pc ls [.int v]) := by
  subst hr
  obtain ⟨hx, hb, hrt, hml, hown, hts, hlocks, hC, htab, hst⟩ := F
  refine W.widen (k := mc) (n := ms) hc hs (vx_ret ?_)
  exact W.zret hx hb hrt hn (fun t ht _ => ⟨some (.inl v), rfl, rfl, by rw [ht]; exact hP, hS.F ht⟩) hS.2.2 hdg hlocks
theorem xvr (F : Fx p l s args m meth c G cc nL none own) (hP : va_P (gD G) vwCl (wld G lo σ) H) (hS : va_S (gF G) s.heap H locs) (hr : r = (.inl none, σ)) (hc : cells ≤ mc) (hs : slots ≤ ms) (hdg : decode cc pc = .ok (.return_, 1)) :
    W p l e R s m args below meth c H locs cells slots (vx_MQ below (QCr G lo r) (XCr G lo r) args s mc ms (gF G)) (F0 m pc ls []) := by
  subst hr
  obtain ⟨hx, hb, hrt, hml, hown, hts, hlocks, hC, htab, hst⟩ := F
  refine W.widen (k := mc) (n := ms) hc hs (vx_ret ?_)
  exact W.vret hx hb hrt (fun t ht _ => ⟨none, rfl, rfl, by rw [ht]; exact hP, hS.F ht⟩) hS.2.2 hdg hlocks
theorem xar {C : String} (F : Fx p l s args m meth c G cc nL (some (.object C)) own) {q : Nat} (hP : va_P (gD G) vwCl (wld G lo σ) H) (hS : va_S (gF G) s.heap H locs) (hr : r = (.inl (some (.inr q)), σ)) (hc : cells ≤ mc) (hs : slots ≤ ms) (hdg : decode cc pc = .ok (.areturn, 1)) :
    W p l e R s m args below meth c H locs cells slots (vx_MQ below (QCr G lo r) (XCr G lo r) args s mc ms (gF G)) (F0 m pc ls [.ref (gA G q)]) := by
  subst hr
  obtain ⟨hx, hb, hrt, hml, hown, hts, hlocks, hC, htab, hst⟩ := F
  refine W.widen (k := mc) (n := ms) hc hs (vx_ret ?_)
  exact W.aret hx hb hrt (Or.inl ⟨_, rfl⟩) (Or.inr ⟨_, rfl⟩) (fun t ht _ => ⟨some (.inr q), rfl, rfl, by rw [ht]; exact hP, hS.F ht⟩) hS.2.2 hdg hlocks
/-- a callee has thrown: it goes on to the caller -/
theorem xto (F : Fx p l s args m meth c G cc nL ret own) {E : String} {ce : Cell} {q : Addr} (hP : va_P (gD G) vwCl (wld G lo σ) H) (hS : va_S (gF G) s.heap H locs) (hr : r = (.inr E, σ)) (hc : cells ≤ mc) (hs : slots ≤ ms) (hcell : H[q]? = some ce) (hv : ce.vm = .none) (hcl : s.vm.findClass E = some ce.cls) :
    vx_W p l e R s m args below meth c H locs cells slots (vx_MQ below (QCr G lo r) (XCr G lo r) args s mc ms (gF G)) (F0 m pc ls rest) q := by
  subst hr
  obtain ⟨hx, hb, hrt, hml, hown, hts, hlocks, hC, htab, hst⟩ := F
  exact vx_out (fun x h => (htab x h).elim) hlocks hcell hv hcl (fun t ht _ => ⟨rfl, by rw [ht]; exact hP, hS.F ht⟩) hS.2.2 hc hs
/-- 'throw new E("text")' -/
theorem xthr (F : Fx p l s args m meth c G cc nL ret RX3) {cls text : String} {ik is ic : Nat} (hP : va_P (gD G) vwCl (wld G lo σ) H) (hS : va_S (gF G) s.heap H locs) (hr : r = (.inr cls, σ)) (hc : cells + 1 ≤ mc) (hs : slots + 6 ≤ ms) (hsize : ls.size = nL)
    (hcls : Bundle.fit cls = true) (hk : Cond.classLink RX3 ik cls ∈ TB) (hini : Cond.initialized cls ∈ TB) (hstr : (is, text) ∈ strs) (h1 : ∀ w ∈ (vx_atS RX3 ic cls ["java/lang/RuntimeException", "java/lang/Exception"]).filter goodWord, w ∈ TB) (h2 : ∀ w ∈ (vx_atS RX3 ic cls ["java/lang/RuntimeException", "java/lang/Exception"]).filter (fun w => !goodWord w), w ∈ nst)
    (hgood : ∀ w ∈ Cond.classLink RX3 ik cls :: Cond.initialized cls :: vx_atS RX3 ic cls ["java/lang/RuntimeException", "java/lang/Exception"], vx_ot w = true)
    (d0 : decode cc pc = .ok (.new ik, 3)) (d3 : decode cc (pc + 3) = .ok (.dup, 1)) (d4 : decode cc (pc + 4) = .ok (.ldc is, 2)) (d6 : decode cc (pc + 6) = .ok (.invokespecial ic, 3)) (d9 : decode cc (pc + 9) = .ok (.athrow, 1))
    (hR : 5 < R.frames) (hR2 : (rest.map fun v => v.category).sum + 82 ≤ R.locals) (hR3 : cells + 1 ≤ R.cells) (hR4 : slots + 6 ≤ R.slots) :
    W p l e R s m args below meth c H locs cells slots (vx_MQ below (QCr G lo r) (XCr G lo r) args s mc ms (gF G)) (F0 m pc ls rest) := by
  subst hr
  obtain ⟨hx, hb, hrt, hml, hown, hts, hlocks, hC, htab, hst⟩ := F
  obtain ⟨sa, hsa⟩ := hC.2.2.2.1 _ hstr
  refine vx_throwS (names := ["java/lang/RuntimeException", "java/lang/Exception"]) hx hb hst hown hcls (by decide +kernel) (hts _ hk) (hts _ hini) hsa (vx_hat (fun w hw => hts w (h1 w hw)) h2 (fun w hw => va_Nw.use (nst_tab w hw) (hC.2.2.1 w hw))) hgood hC.2.2.2.2.1 hC.2.2.2.2.2 hS (hsize.trans hml.symm) d0 d3 d4 d6 d9 (fun x h => (htab x h).elim) hR hR2 hR3 hR4 hlocks ?_ hS.2.2 hc hs
  intro t hal hz hk2
  refine ⟨rfl, hP.kept (fun k q hq => hk2 q.1 (hP k q hq).lt), ?_, fun q hq hn => ?_⟩
  · exact Nat.le_trans hS.1 hz
  · rw [hk2 q (Nat.lt_of_lt_of_le hq hS.1)]; exact hS.2.1 q hq hn
/-- 'throw new NoSuchElementException("text")': its constructor links RuntimeException's by another number than the library's rows say -/
theorem xthrN (F : Fx p l s args m meth c G cc nL ret RX3) {text : String} {is : Nat} (hP : va_P (gD G) vwCl (wld G lo σ) H) (hS : va_S (gF G) s.heap H locs) (hr : r = (.inr "java/util/NoSuchElementException", σ)) (hc : cells + 1 ≤ mc) (hs : slots + 6 ≤ ms) (hsize : ls.size = nL)
    (hk : Cond.classLink RX3 159 "java/util/NoSuchElementException" ∈ TB) (hini : Cond.initialized "java/util/NoSuchElementException" ∈ TB) (hstr : (is, text) ∈ strs)
    (d0 : decode cc pc = .ok (.new 159, 3)) (d3 : decode cc (pc + 3) = .ok (.dup, 1)) (d4 : decode cc (pc + 4) = .ok (.ldc is, 2)) (d6 : decode cc (pc + 6) = .ok (.invokespecial 163, 3)) (d9 : decode cc (pc + 9) = .ok (.athrow, 1))
    (hR : 5 < R.frames) (hR2 : (rest.map fun v => v.category).sum + 82 ≤ R.locals) (hR3 : cells + 1 ≤ R.cells) (hR4 : slots + 6 ≤ R.slots) :
    W p l e R s m args below meth c H locs cells slots (vx_MQ below (QCr G lo r) (XCr G lo r) args s mc ms (gF G)) (F0 m pc ls rest) := by
  subst hr
  obtain ⟨hx, hb, hrt, hml, hown, hts, hlocks, hC, htab, hst⟩ := F
  obtain ⟨sa, hsa⟩ := hC.2.2.2.1 _ hstr
  refine zn_throw hx hb hst hown (hts _ hk) (hts _ hini) hsa (vx_hat (fun w hw => hts w (zn_1 w hw)) zn_2 (fun w hw => va_Nw.use (nst_tab w hw) (hC.2.2.1 w hw))) hC.2.2.2.2.1 hC.2.2.2.2.2 hS (hsize.trans hml.symm) d0 d3 d4 d6 d9 (fun x h => (htab x h).elim) hR hR2 hR3 hR4 hlocks ?_ hS.2.2 hc hs
  intro t hal hz hk2
  refine ⟨rfl, hP.kept (fun k q hq => hk2 q.1 (hP k q hq).lt), ?_, fun q hq hn => ?_⟩
  · exact Nat.le_trans hS.1 hz
  · rw [hk2 q (Nat.lt_of_lt_of_le hq hS.1)]; exact hS.2.1 q hq hn
/-! fields -/
theorem xg (F : Fx p l s args m meth c G cc nL ret own) {ref C : String} {T : u_T} {N ci index q : Nat} {fs : List Value} {v : Value} (k : Nat) (hin : ∀ w ∈ u_ws C T N, w ∈ TB) (hP : va_P (gD G) vwCl (wld G lo σ) H) (hq : q < 92) (he : wcell G lo σ q = .inr (ci, fs)) (hc : vwCl[ci]? = some (C, T, N)) (hk : k < N) (hlink : Cond.fieldLink own index ref (T k).2.1 (T k).2.2.1 ∈ TB) (hsame : (T k).1 = ref) (hv : fs[k]? = some v) (hdg : decode cc pc = .ok (.getfield index, 3))
    (kk : W p l e R s m args below meth c H locs cells slots Q (F0 m (pc + 3) ls (v :: rest))) : W p l e R s m args below meth c H locs cells slots Q (F0 m pc ls (.ref (gA G q) :: rest)) := by
  obtain ⟨hx, hb, hrt, hml, hown, hts, hlocks, hC, htab, hst⟩ := F
  exact va_get hx hb hts hin hown hC.2.1 hP q (by rw [wld_at hq, he]) hc k hk (hts _ hlink) (fun x h => by rw [← hsame]; exact h) hv hdg kk
theorem xgN (F : Fx p l s args m meth c G cc nL ret own) {ref C host : String} {T : u_T} {N ci index q : Nat} {fs : List Value} {v : Value} (k : Nat) (hin : ∀ w ∈ u_ws C T N, w ∈ TB) (hP : va_P (gD G) vwCl (wld G lo σ) H) (hq : q < 92) (he : wcell G lo σ q = .inr (ci, fs)) (hc : vwCl[ci]? = some (C, T, N)) (hk : k < N) (hlink : Cond.fieldLinkNest own index ref (T k).2.1 (T k).2.2.1 host ∈ nst) (hsame : (T k).1 = ref) (hv : fs[k]? = some v) (hdg : decode cc pc = .ok (.getfield index, 3))
    (kk : W p l e R s m args below meth c H locs cells slots Q (F0 m (pc + 3) ls (v :: rest))) : W p l e R s m args below meth c H locs cells slots Q (F0 m pc ls (.ref (gA G q) :: rest)) := by
  obtain ⟨hx, hb, hrt, hml, hown, hts, hlocks, hC, htab, hst⟩ := F
  exact va_getN hx hb hts hin hown hC.2.1 hP q (by rw [wld_at hq, he]) hc k hk (va_Nw.use rfl (hC.2.2.1 _ hlink)) (fun x h => by rw [← hsame]; exact h) hv hdg kk
theorem xp (F : Fx p l s args m meth c G cc nL ret own) {ref C : String} {T : u_T} {N ci index q : Nat} {fs : List Value} {v : Int32} {ty : FieldType} {ty0 : Nat → FieldType} (k : Nat) (hin : ∀ w ∈ u_ws C T N, w ∈ TB) (hty : ∀ k, k < N → parseFieldDescriptor (T k).2.2.1 = some (ty0 k)) (hnm : ∀ a, a < N → ∀ b, b < N → a ≠ b → (T a).2.1 ≠ (T b).2.1) (hP : va_P (gD G) vwCl (wld G lo σ) H) (hS : va_S (gF G) s.heap H locs) (hq : q < 92) (he : wcell G lo σ q = .inr (ci, fs)) (he2 : wcell G lo (up2 σ q k v) q = .inr (ci, fs.set k (.int v))) (hc : vwCl[ci]? = some (C, T, N)) (hk : k < N) (hlink : Cond.fieldLink own index ref (T k).2.1 (T k).2.2.1 ∈ TB) (hsame : (T k).1 = ref) (hfin : (T k).2.2.2 = false) (hd : ty0 k = ty) (hn : narrow ty (.int v) = .int v) (hfit : fits ty (.int v) = true) (hl : k < fs.length) (hdg : decode cc pc = .ok (.putfield index, 3))
    (kk : ∀ (H1 : Heap) (locs1 : List Loc), va_P (gD G) vwCl (wld G lo (up2 σ q k v)) H1 → va_S (gF G) s.heap H1 locs1 → W p l e R s m args below meth c H1 locs1 cells slots Q (F0 m (pc + 3) ls rest)) : W p l e R s m args below meth c H locs cells slots Q (F0 m pc ls (.int v :: .ref (gA G q) :: rest)) := by
  obtain ⟨hx, hb, hrt, hml, hown, hts, hlocks, hC, htab, hst⟩ := F
  refine va_put hx hb hts hin ty0 hty hnm hown hC.2.1 hP hC.apart hS q (by rw [wld_at hq, he]) hc k hk (hts _ hlink) (fun x h => by rw [← hsame]; exact h) hfin (by rw [hty k hk, hd]) hn hfit hl hdg (fun H1 locs1 hP1 _ hS1 => ?_)
  rw [wld_set hq he2 (fun z hz => wcell_ne hz)] at hP1
  exact kk H1 locs1 hP1 hS1
theorem xpN (F : Fx p l s args m meth c G cc nL ret own) {ref C host : String} {T : u_T} {N ci index q : Nat} {fs : List Value} {v : Int32} {ty : FieldType} {ty0 : Nat → FieldType} (k : Nat) (hin : ∀ w ∈ u_ws C T N, w ∈ TB) (hty : ∀ k, k < N → parseFieldDescriptor (T k).2.2.1 = some (ty0 k)) (hnm : ∀ a, a < N → ∀ b, b < N → a ≠ b → (T a).2.1 ≠ (T b).2.1) (hP : va_P (gD G) vwCl (wld G lo σ) H) (hS : va_S (gF G) s.heap H locs) (hq : q < 92) (he : wcell G lo σ q = .inr (ci, fs)) (he2 : wcell G lo (up2 σ q k v) q = .inr (ci, fs.set k (.int v))) (hc : vwCl[ci]? = some (C, T, N)) (hk : k < N) (hlink : Cond.fieldLinkNest own index ref (T k).2.1 (T k).2.2.1 host ∈ nst) (hsame : (T k).1 = ref) (hfin : (T k).2.2.2 = false) (hd : ty0 k = ty) (hn : narrow ty (.int v) = .int v) (hfit : fits ty (.int v) = true) (hl : k < fs.length) (hdg : decode cc pc = .ok (.putfield index, 3))
    (kk : ∀ (H1 : Heap) (locs1 : List Loc), va_P (gD G) vwCl (wld G lo (up2 σ q k v)) H1 → va_S (gF G) s.heap H1 locs1 → W p l e R s m args below meth c H1 locs1 cells slots Q (F0 m (pc + 3) ls rest)) : W p l e R s m args below meth c H locs cells slots Q (F0 m pc ls (.int v :: .ref (gA G q) :: rest)) := by
  obtain ⟨hx, hb, hrt, hml, hown, hts, hlocks, hC, htab, hst⟩ := F
  refine va_putN hx hb hts hin ty0 hty hnm hown hC.2.1 hP hC.apart hS q (by rw [wld_at hq, he]) hc k hk (va_Nw.use rfl (hC.2.2.1 _ hlink)) (fun x h => by rw [← hsame]; exact h) hfin (by rw [hty k hk, hd]) hn hfit hl hdg (fun H1 locs1 hP1 _ hS1 => ?_)
  rw [wld_set hq he2 (fun z hz => wcell_ne hz)] at hP1
  exact kk H1 locs1 hP1 hS1
/-! arrays -/
theorem xil (F : Fx p l s args m meth c G cc nL ret own) {q n : Nat} {i : Int32} (hP : va_P (gD G) vwCl (wld G lo σ) H) (hk : kd q = 5) (hn : ln q = n) (hin : ¬ (i < 0 ∨ n ≤ i.toNatClampNeg)) (hdg : decode cc pc = .ok (.iaload, 1))
    (kk : W p l e R s m args below meth c H locs cells slots Q (F0 m (pc + 1) ls (.int (σ q i.toNatClampNeg) :: rest))) : W p l e R s m args below meth c H locs cells slots Q (F0 m pc ls (.int i :: .ref (gA G q) :: rest)) := by
  subst hn
  obtain ⟨hx, hb, hrt, hml, hown, hts, hlocks, hC, htab, hst⟩ := F
  exact va_iald hx hb hC.2.1 hP q 0 (by rw [wld_at (kd_k hk (by decide)), wc5 hk]) rfl hin hdg kk
theorem xzl (F : Fx p l s args m meth c G cc nL ret own) {q n : Nat} {i : Int32} (hP : va_P (gD G) vwCl (wld G lo σ) H) (hk : kd q = 6) (hn : ln q = n) (hin : ¬ (i < 0 ∨ n ≤ i.toNatClampNeg)) (hdg : decode cc pc = .ok (.baload, 1))
    (kk : W p l e R s m args below meth c H locs cells slots Q (F0 m (pc + 1) ls (.int (σ q i.toNatClampNeg) :: rest))) : W p l e R s m args below meth c H locs cells slots Q (F0 m pc ls (.int i :: .ref (gA G q) :: rest)) := by
  subst hn
  obtain ⟨hx, hb, hrt, hml, hown, hts, hlocks, hC, htab, hst⟩ := F
  exact va_zald hx hb hC.2.1 hP q 1 (by rw [wld_at (kd_k hk (by decide)), wc6 hk]) rfl hin hdg kk
theorem xol (F : Fx p l s args m meth c G cc nL ret own) {q : Nat} {i : Int32} (hP : va_P (gD G) vwCl (wld G lo σ) H) (hk : kd q = 7) (hin : ¬ (i < 0 ∨ 16 ≤ i.toNatClampNeg)) (hdg : decode cc pc = .ok (.aaload, 1))
    (kk : W p l e R s m args below meth c H locs cells slots Q (F0 m (pc + 1) ls (.ref (gA G (26 + 2 * i.toNatClampNeg)) :: rest))) : W p l e R s m args below meth c H locs cells slots Q (F0 m pc ls (.int i :: .ref (gA G q) :: rest)) := by
  obtain ⟨hx, hb, hrt, hml, hown, hts, hlocks, hC, htab, hst⟩ := F
  exact va_aldq (f := fun i => some (gA G (26 + 2 * i))) hx hb hC.2.1 hP q 2 (by rw [wld_at (kd_k hk (by decide)), wc7 hk]) rfl hin hdg kk
theorem xwl (F : Fx p l s args m meth c G cc nL ret own) {q : Nat} {i : Int32} (hP : va_P (gD G) vwCl (wld G lo σ) H) (hk : kd q = 8) (hin : ¬ (i < 0 ∨ 16 ≤ i.toNatClampNeg)) (hdg : decode cc pc = .ok (.aaload, 1))
    (kk : W p l e R s m args below meth c H locs cells slots Q (F0 m (pc + 1) ls (.ref (gA G (58 + 2 * i.toNatClampNeg)) :: rest))) : W p l e R s m args below meth c H locs cells slots Q (F0 m pc ls (.int i :: .ref (gA G q) :: rest)) := by
  obtain ⟨hx, hb, hrt, hml, hown, hts, hlocks, hC, htab, hst⟩ := F
  exact va_aldq (f := fun i => some (gA G (58 + 2 * i))) hx hb hC.2.1 hP q 3 (by rw [wld_at (kd_k hk (by decide)), wc8 hk]) rfl hin hdg kk
theorem xis (F : Fx p l s args m meth c G cc nL ret own) {q n : Nat} {i v : Int32} (hP : va_P (gD G) vwCl (wld G lo σ) H) (hS : va_S (gF G) s.heap H locs) (hk : kd q = 5) (hn : ln q = n) (hin : ¬ (i < 0 ∨ n ≤ i.toNatClampNeg)) (hdg : decode cc pc = .ok (.iastore, 1))
    (kk : ∀ (H1 : Heap) (locs1 : List Loc), va_P (gD G) vwCl (wld G lo (up2 σ q i.toNatClampNeg v)) H1 → va_S (gF G) s.heap H1 locs1 → W p l e R s m args below meth c H1 locs1 cells slots Q (F0 m (pc + 1) ls rest)) : W p l e R s m args below meth c H locs cells slots Q (F0 m pc ls (.int v :: .int i :: .ref (gA G q) :: rest)) := by
  subst hn
  obtain ⟨hx, hb, hrt, hml, hown, hts, hlocks, hC, htab, hst⟩ := F
  have hq := kd_k hk (by decide)
  refine va_iast hx hb hC.2.1 hP hC.apart hS q 0 (by rw [wld_at hq, wc5 hk]) rfl hin hdg (fun H1 locs1 hP1 _ hS1 => ?_)
  rw [wld_set hq (σ' := up2 σ q i.toNatClampNeg v) (by rw [wc5 hk, up2_eq]) (fun z hz => wcell_ne hz)] at hP1
  exact kk H1 locs1 hP1 hS1
theorem xzs (F : Fx p l s args m meth c G cc nL ret own) {q n : Nat} {i v : Int32} (hP : va_P (gD G) vwCl (wld G lo σ) H) (hS : va_S (gF G) s.heap H locs) (hk : kd q = 6) (hn : ln q = n) (hin : ¬ (i < 0 ∨ n ≤ i.toNatClampNeg)) (hv : vp_nar .boolean v = v) (hdg : decode cc pc = .ok (.bastore, 1))
    (kk : ∀ (H1 : Heap) (locs1 : List Loc), va_P (gD G) vwCl (wld G lo (up2 σ q i.toNatClampNeg v)) H1 → va_S (gF G) s.heap H1 locs1 → W p l e R s m args below meth c H1 locs1 cells slots Q (F0 m (pc + 1) ls rest)) : W p l e R s m args below meth c H locs cells slots Q (F0 m pc ls (.int v :: .int i :: .ref (gA G q) :: rest)) := by
  subst hn
  obtain ⟨hx, hb, hrt, hml, hown, hts, hlocks, hC, htab, hst⟩ := F
  have hq := kd_k hk (by decide)
  refine va_zast hx hb hC.2.1 hP hC.apart hS q 1 (by rw [wld_at hq, wc6 hk]) rfl hin hdg (fun H1 locs1 hP1 _ hS1 => ?_)
  rw [hv, wld_set hq (σ' := up2 σ q i.toNatClampNeg v) (by rw [wc6 hk, up2_eq]) (fun z hz => wcell_ne hz)] at hP1
  exact kk H1 locs1 hP1 hS1
/-! Math -/
theorem xmx (F : Fx p l s args m meth c G cc nL ret own) {index : Nat} {x y : Int32} (hlink : Cond.methodLink own index Lib.Math.max.name ∈ TB) (hstat : Cond.static Lib.Math.max.name ∈ TB) (hini : Cond.initialized "java/lang/Math" ∈ TB) (hcode : Cond.code Lib.Math.max.name Lib.Math.max.code 2 (some .int) ∈ TB) (hsize : ls.size = nL) (hf : 1 ≤ R.frames) (hlo : (rest.map fun v => v.category).sum + 13 ≤ R.locals) (hc : cells ≤ R.cells) (hs : slots ≤ R.slots) (hdg : decode cc pc = .ok (.invokestatic index, 3))
    (kk : W p l e R s m args below meth c H locs cells slots Q (F0 m (pc + 3) ls (.int (if x < y then y else x) :: rest))) : W p l e R s m args below meth c H locs cells slots Q (F0 m pc ls (.int y :: .int x :: rest)) := by
  obtain ⟨hx, hb, hrt, hml, hown, hts, hlocks, hC, htab, hst⟩ := F
  exact va_mmax hx hb (hml.trans hsize.symm) hown (hts _ hlink) (hts _ hstat) (hts _ hini) (hts _ hcode) hf hlo hc hs hdg kk
theorem xmn (F : Fx p l s args m meth c G cc nL ret own) {index : Nat} {x y : Int32} (hlink : Cond.methodLink own index Lib.Math.min.name ∈ TB) (hstat : Cond.static Lib.Math.min.name ∈ TB) (hini : Cond.initialized "java/lang/Math" ∈ TB) (hcode : Cond.code Lib.Math.min.name Lib.Math.min.code 2 (some .int) ∈ TB) (hsize : ls.size = nL) (hf : 1 ≤ R.frames) (hlo : (rest.map fun v => v.category).sum + 13 ≤ R.locals) (hc : cells ≤ R.cells) (hs : slots ≤ R.slots) (hdg : decode cc pc = .ok (.invokestatic index, 3))
    (kk : W p l e R s m args below meth c H locs cells slots Q (F0 m (pc + 3) ls (.int (if y < x then y else x) :: rest))) : W p l e R s m args below meth c H locs cells slots Q (F0 m pc ls (.int y :: .int x :: rest)) := by
  obtain ⟨hx, hb, hrt, hml, hown, hts, hlocks, hC, htab, hst⟩ := F
  exact va_mmin hx hb (hml.trans hsize.symm) hown (hts _ hlink) (hts _ hstat) (hts _ hini) (hts _ hcode) hf hlo hc hs hdg kk
theorem xab (F : Fx p l s args m meth c G cc nL ret own) {index : Nat} {x : Int32} (hlink : Cond.methodLink own index Lib.Math.abs.name ∈ TB) (hstat : Cond.static Lib.Math.abs.name ∈ TB) (hini : Cond.initialized "java/lang/Math" ∈ TB) (hcode : Cond.code Lib.Math.abs.name Lib.Math.abs.code 1 (some .int) ∈ TB) (hsize : ls.size = nL) (hf : 1 ≤ R.frames) (hlo : (rest.map fun v => v.category).sum + 13 ≤ R.locals) (hc : cells ≤ R.cells) (hs : slots ≤ R.slots) (hdg : decode cc pc = .ok (.invokestatic index, 3))
    (kk : W p l e R s m args below meth c H locs cells slots Q (F0 m (pc + 3) ls (.int (if 0 ≤ x then x else 0 - x) :: rest))) : W p l e R s m args below meth c H locs cells slots Q (F0 m pc ls (.int x :: rest)) := by
  obtain ⟨hx, hb, hrt, hml, hown, hts, hlocks, hC, htab, hst⟩ := F
  exact va_mabs hx hb (hml.trans hsize.symm) hown (hts _ hlink) (hts _ hstat) (hts _ hini) (hts _ hcode) hf hlo hc hs hdg kk
/-! calls -/
theorem xpre {vs : List (Int32 ⊕ Nat)} (hC : Cx G s) (hP : va_P (gD G) vwCl (wld G lo σ) H) (hS : va_S (gF G) s.heap H locs) : FrameBlind (PWr G lo vs σ) ∧ ∀ U : State, U.heap = H → s.WarmedH U.vm → PWr G lo vs σ (vs.map (cv G)).toArray U :=
  ⟨fun a U g mk q => ⟨q.1, q.2.1, q.2.2.blind g mk a⟩, fun U hU hW => ⟨rfl, by rw [hU]; exact hP, hC.to hW hS hU⟩⟩
theorem xkN {a : Array Value} {v : Option (Int32 ⊕ Nat)} (hr : va_Run p l e R s m args below meth c H locs cells slots mc ms (F0 m pc ls st0) rest (QCr G lo r a) (gF G)) (hS : va_S (gF G) s.heap H locs) (hv : r.1 = .inl v)
    (kk : ∀ (H1 : Heap) (locs1 : List Loc), va_P (gD G) vwCl (wld G lo r.2) H1 → va_S (gF G) s.heap H1 locs1 → W p l e R s m args below meth c H1 locs1 (cells + mc) (slots + ms) Q (F0 m (pc + 3) ls ((v.map (cv G)).toList ++ rest))) : W p l e R s m args below meth c H locs cells slots Q (F0 m pc ls st0) := by
  intro T hT X
  obtain ⟨v', st₀, t, T', L, h0, X', hL, e1, e2, ⟨w, hw, ho, hP1, hF⟩, st⟩ := hr T hT X
  rw [hv] at hw
  cases hw
  cases ho
  obtain ⟨k1, k2, k3⟩ := vx_keep h0 e1 hS (fun _ _ h => h) (fun _ h => h) hL hF
  obtain ⟨t2, a1, b1⟩ := kk T'.heap (locs ++ L) (by rw [e1]; exact hP1) k3 T' rfl X'
  exact ⟨t2, st t2 a1, b1⟩
theorem xkX {a : Array Value} (hr : vx_Run p l e R s m args below meth c H locs cells slots mc ms (F0 m pc ls st0) rest (QCr G lo r a) (XCr G lo r) (gF G)) (hS : va_S (gF G) s.heap H locs)
    (kk : ∀ v : Option (Int32 ⊕ Nat), r.1 = .inl v → ∀ (H1 : Heap) (locs1 : List Loc), va_P (gD G) vwCl (wld G lo r.2) H1 → va_S (gF G) s.heap H1 locs1 → W p l e R s m args below meth c H1 locs1 (cells + mc) (slots + ms) Q (F0 m (pc + 3) ls ((v.map (cv G)).toList ++ rest)))
    (kx : ∀ E : String, r.1 = .inr E → ∀ (H1 : Heap) (locs1 : List Loc) (q9 : Addr) (ce : Cell), va_P (gD G) vwCl (wld G lo r.2) H1 → va_S (gF G) s.heap H1 locs1 → H1[q9]? = some ce → ce.vm = .none → s.vm.findClass E = some ce.cls → vx_W p l e R s m args below meth c H1 locs1 (cells + mc) (slots + ms) Q (F0 m pc ls rest) q9) : W p l e R s m args below meth c H locs cells slots Q (F0 m pc ls st0) := by
  intro T hT X
  rcases hr T hT X with ⟨v', st₀, t, T', L, h0, X', hL, e1, e2, ⟨w, hw, ho, hP1, hF⟩, st⟩ | ⟨q, st₀, t, T', L, E, ce, h0, X', hL, e1, e2, ⟨hw, hP1, hF⟩, hce, hcv, hcl, st⟩
  · cases ho
    obtain ⟨k1, k2, k3⟩ := vx_keep h0 e1 hS (fun _ _ h => h) (fun _ h => h) hL hF
    obtain ⟨t2, a1, b1⟩ := kk w hw T'.heap (locs ++ L) (by rw [e1]; exact hP1) k3 T' rfl X'
    exact ⟨t2, st t2 a1, b1⟩
  · obtain ⟨k1, k2, k3⟩ := vx_keep h0 e1 hS (fun _ _ h => h) (fun _ h => h) hL hF
    obtain ⟨t2, a1, b1⟩ := kx E hw T'.heap (locs ++ L) q ce (by rw [e1]; exact hP1) k3 (by rw [e1]; exact hce) hcv hcl T' rfl X'
    exact ⟨t2, st.trans a1, b1⟩
/-- an instance method of the same class (or a public one), by invokevirtual -/
theorem xV (F : Fx p l s args m meth c G cc nL ret own) {y : MethodName} {bytes : ByteArray} {maxL fr wl index ci q : Nat} {ret' : Option FieldType} {C : String} {vs : List (Int32 ⊕ Nat)} {fs : List Value} {T : u_T} {N : Nat} (hM : MC l G y bytes maxL ret' fr wl mc ms (.inr q :: vs) σ r) (hcode : Cond.code y bytes maxL ret' ∈ TB) (hlink : Cond.methodLink own index y ∈ TB) (hinst : Cond.instanceMethod y ∈ TB) (hsel : Cond.selects C y y ∈ TB) (hini : Cond.initialized C ∈ TB) (hyc : y.cls = C)
    (n : Nat) (hd : y.cls ≠ "java/lang/invoke/MethodHandle" ∧ y.cls ≠ "java/lang/invoke/VarHandle" ∧ (parseMethodDescriptor y.desc).map (fun d => d.parameters.length) = some n) (hn : vs.length = n) (hR : fr + 1 ≤ R.frames ∧ 8 + (maxL + 11) + wl ≤ R.locals) (hP : va_P (gD G) vwCl (wld G lo σ) H) (hS : va_S (gF G) s.heap H locs) (hq : q < 92) (he : wcell G lo σ q = .inr (ci, fs)) (hcl : vwCl[ci]? = some (C, T, N)) (hsize : ls.size = nL) (hst0 : st0 = (vs.map (cv G)).reverse ++ .ref (gA G q) :: rest) (hW : (rest.map fun v => v.category).sum ≤ 8) (hdg : decode cc pc = .ok (.invokevirtual index, 3)) (hf : cells + mc ≤ R.cells ∧ slots + ms ≤ R.slots)
    (kk : ∀ v : Option (Int32 ⊕ Nat), r.1 = .inl v → ∀ (H1 : Heap) (locs1 : List Loc), va_P (gD G) vwCl (wld G lo r.2) H1 → va_S (gF G) s.heap H1 locs1 → W p l e R s m args below meth c H1 locs1 (cells + mc) (slots + ms) Q (F0 m (pc + 3) ls ((v.map (cv G)).toList ++ rest)))
    (kx : ∀ E : String, r.1 = .inr E → ∀ (H1 : Heap) (locs1 : List Loc) (q9 : Addr) (ce : Cell), va_P (gD G) vwCl (wld G lo r.2) H1 → va_S (gF G) s.heap H1 locs1 → H1[q9]? = some ce → ce.vm = .none → s.vm.findClass E = some ce.cls → vx_W p l e R s m args below meth c H1 locs1 (cells + mc) (slots + ms) Q (F0 m pc ls rest) q9) : W p l e R s m args below meth c H locs cells slots Q (F0 m pc ls st0) := by
  subst hn
  obtain ⟨hx, hb, hrt, hml, hown, hts, hlocks, hC, htab, hst⟩ := F
  obtain ⟨hp1, hp2⟩ := xpre (vs := .inr q :: vs) hC hP hS
  exact xkX (vx_runV (C := C) (b := gA G q) (As := vs.map (cv G)) (rest := rest) ⟨hx, hb, hml, hown, hts⟩ (hM hst lo) ⟨callB_of vs.length hts (gTB hcode) rfl rfl rfl (by rw [hyc]; exact hts _ hini) (hts _ hlink) hd hR, hts _ hinst, hts _ hsel⟩ ⟨hp1, va_recv hC.2.1 hP hcl (by rw [wld_at hq, he]), hp2⟩ rfl (by simp) hsize hst0 (lv_room hW) hdg hf) hS kk kx
/-- a private method of a nest mate, by invokevirtual; it does not throw -/
theorem xVN (F : Fx p l s args m meth c G cc nL ret own) {y : MethodName} {bytes : ByteArray} {maxL fr wl index ci q : Nat} {ret' : Option FieldType} {C host : String} {vs : List (Int32 ⊕ Nat)} {fs : List Value} {T : u_T} {N : Nat} {v : Option (Int32 ⊕ Nat)} (hM : MC l G y bytes maxL ret' fr wl mc ms (.inr q :: vs) σ r) (hv : r.1 = .inl v) (hcode : Cond.code y bytes maxL ret' ∈ TB) (hlink : Cond.methodLinkNest own index y host ∈ nst) (hinst : Cond.instanceMethod y ∈ TB) (hsel : Cond.selects C y y ∈ TB) (hini : Cond.initialized C ∈ TB) (hyc : y.cls = C)
    (n : Nat) (hd : y.cls ≠ "java/lang/invoke/MethodHandle" ∧ y.cls ≠ "java/lang/invoke/VarHandle" ∧ (parseMethodDescriptor y.desc).map (fun d => d.parameters.length) = some n) (hn : vs.length = n) (hR : fr + 1 ≤ R.frames ∧ 8 + (maxL + 11) + wl ≤ R.locals) (hP : va_P (gD G) vwCl (wld G lo σ) H) (hS : va_S (gF G) s.heap H locs) (hq : q < 92) (he : wcell G lo σ q = .inr (ci, fs)) (hcl : vwCl[ci]? = some (C, T, N)) (hsize : ls.size = nL) (hst0 : st0 = (vs.map (cv G)).reverse ++ .ref (gA G q) :: rest) (hW : (rest.map fun v => v.category).sum ≤ 8) (hdg : decode cc pc = .ok (.invokevirtual index, 3)) (hf : cells + mc ≤ R.cells ∧ slots + ms ≤ R.slots)
    (kk : ∀ (H1 : Heap) (locs1 : List Loc), va_P (gD G) vwCl (wld G lo r.2) H1 → va_S (gF G) s.heap H1 locs1 → W p l e R s m args below meth c H1 locs1 (cells + mc) (slots + ms) Q (F0 m (pc + 3) ls ((v.map (cv G)).toList ++ rest))) : W p l e R s m args below meth c H locs cells slots Q (F0 m pc ls st0) := by
  subst hn
  obtain ⟨hx, hb, hrt, hml, hown, hts, hlocks, hC, htab, hst⟩ := F
  obtain ⟨hp1, hp2⟩ := xpre (vs := .inr q :: vs) hC hP hS
  exact xkN (va_runVN (C := C) (b := gA G q) (As := vs.map (cv G)) (rest := rest) ⟨hx, hb, hml, hown, hts⟩ (xmet (hM hst lo) hv) ⟨va_cnB vs.length hts (gTB hcode) rfl rfl rfl (hC.2.2.1 _ hlink) (by rw [hyc]; exact hts _ hini) hd hR, hts _ hinst, hts _ hsel⟩ ⟨hp1, va_recv hC.2.1 hP hcl (by rw [wld_at hq, he]), hp2⟩ rfl (by simp) hsize hst0 (lv_room hW) hdg hf) hS hv kk
/-- a static method -/
theorem xSt (F : Fx p l s args m meth c G cc nL ret own) {y : MethodName} {bytes : ByteArray} {maxL fr wl index : Nat} {ret' : Option FieldType} {C : String} {vs : List (Int32 ⊕ Nat)} (hM : MC l G y bytes maxL ret' fr wl mc ms vs σ r) (hcode : Cond.code y bytes maxL ret' ∈ TB) (hlink : Cond.methodLink own index y ∈ TB) (hstat : Cond.static y ∈ TB) (hini : Cond.initialized C ∈ TB) (hyc : y.cls = C)
    (n : Nat) (hd : y.cls ≠ "java/lang/invoke/MethodHandle" ∧ y.cls ≠ "java/lang/invoke/VarHandle" ∧ (parseMethodDescriptor y.desc).map (fun d => d.parameters.length) = some n) (hn : vs.length = n) (hR : fr + 1 ≤ R.frames ∧ 8 + (maxL + 11) + wl ≤ R.locals) (hP : va_P (gD G) vwCl (wld G lo σ) H) (hS : va_S (gF G) s.heap H locs) (hsize : ls.size = nL) (hst0 : st0 = (vs.map (cv G)).reverse ++ rest) (hW : (rest.map fun v => v.category).sum ≤ 8) (hdg : decode cc pc = .ok (.invokestatic index, 3)) (hf : cells + mc ≤ R.cells ∧ slots + ms ≤ R.slots)
    (kk : ∀ v : Option (Int32 ⊕ Nat), r.1 = .inl v → ∀ (H1 : Heap) (locs1 : List Loc), va_P (gD G) vwCl (wld G lo r.2) H1 → va_S (gF G) s.heap H1 locs1 → W p l e R s m args below meth c H1 locs1 (cells + mc) (slots + ms) Q (F0 m (pc + 3) ls ((v.map (cv G)).toList ++ rest)))
    (kx : ∀ E : String, r.1 = .inr E → ∀ (H1 : Heap) (locs1 : List Loc) (q9 : Addr) (ce : Cell), va_P (gD G) vwCl (wld G lo r.2) H1 → va_S (gF G) s.heap H1 locs1 → H1[q9]? = some ce → ce.vm = .none → s.vm.findClass E = some ce.cls → vx_W p l e R s m args below meth c H1 locs1 (cells + mc) (slots + ms) Q (F0 m pc ls rest) q9) : W p l e R s m args below meth c H locs cells slots Q (F0 m pc ls st0) := by
  subst hn
  obtain ⟨hx, hb, hrt, hml, hown, hts, hlocks, hC, htab, hst⟩ := F
  exact xkX (vx_runS (As := vs.map (cv G)) (rest := rest) ⟨hx, hb, hml, hown, hts⟩ (hM hst lo) ⟨callB_of vs.length hts (gTB hcode) rfl rfl rfl (by rw [hyc]; exact hts _ hini) (hts _ hlink) hd hR, hts _ hstat⟩ (xpre (vs := vs) hC hP hS) rfl (by simp) hsize hst0 (lv_room hW) hdg hf) hS kk kx
end
