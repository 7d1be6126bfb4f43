/-! ===== what class and reference must answer alike, call by call; the law's loop out of that ===== -/
/-- the class's outcome rv, the number k that the law's small method makes of it, the reference's answer v -/
def AgI (ns : List String) (rv : RV) (k v : Int32) : Prop := (rv = .inl (some (.inl v)) ∧ k = 0) ∨ ∃ E, rv = .inr E ∧ cdx ns 1 E = some k ∧ k ≠ 0
def AgV (ns : List String) (rv : RV) (k : Int32) : Prop := (rv = .inl none ∧ k = 0) ∨ ∃ E, rv = .inr E ∧ cdx ns 1 E = some k
theorem AgI.o {ns : List String} {rv : RV} {k v : Int32} (h : AgI ns rv k v) (lo : Nat → Int64) : ∃ lo1, oI ns lo rv = some (k, lo1) ∧ (k = 0 → lo1 0 = v.toInt64) := by
  rcases h with ⟨rfl, rfl⟩ | ⟨E, rfl, h, hn⟩
  · exact ⟨_, rfl, fun _ => pk_uLs⟩
  · exact ⟨lo, by simp [oI, h], fun e => absurd e hn⟩
theorem AgI.z {ns : List String} {rv : RV} {k v : Int32} (h : AgI ns rv k v) (lo : Nat → Int64) : ∃ lo1, oZ ns lo rv = some (k, lo1) ∧ (k = 0 → lo1 0 = if v = 0 then 0 else 1) := by
  rcases h with ⟨rfl, rfl⟩ | ⟨E, rfl, h, hn⟩
  · exact ⟨_, rfl, fun _ => pk_uLs⟩
  · exact ⟨lo, by simp [oZ, h], fun e => absurd e hn⟩
theorem AgV.o {ns : List String} {rv : RV} {k : Int32} (h : AgV ns rv k) (lo : Nat → Int64) : oV ns lo rv = some (k, lo) := by
  rcases h with ⟨rfl, rfl⟩ | ⟨E, rfl, h⟩
  · rfl
  · simp [oV, h]

def PS_order (Inv : Nat → St → Prop) : Prop := ∀ n, n + 4 ≤ 2049 → ∀ σ, Inv n σ → ∀ (a1 a2 a3 : Int32), ∃ rv σ1 k v σ2, f_X3_order σ a1 a2 a3 = some (rv, σ1) ∧ f_X4_order σ1 a1 a2 a3 = some (.inl (some (.inl v)), σ2) ∧ AgI ["java/lang/IllegalArgumentException", "java/lang/UnsupportedOperationException"] rv k v ∧ σ2 8 0 = k ∧ Inv (n + 4) σ2
def PS_line (Inv : Nat → St → Prop) : Prop := ∀ n, n + 4 ≤ 2049 → ∀ σ, Inv n σ → ∀ (a1 a2 a3 : Int32), ∃ rv σ1 k v σ2, f_X3_line σ a1 a2 a3 = some (rv, σ1) ∧ f_X4_line σ1 a1 a2 a3 = some (.inl (some (.inl v)), σ2) ∧ AgI ["java/util/NoSuchElementException", "java/lang/IllegalArgumentException", "java/lang/IllegalStateException", "java/lang/UnsupportedOperationException"] rv k v ∧ σ2 8 0 = k ∧ Inv (n + 4) σ2
def PS_carrier (Inv : Nat → St → Prop) : Prop := ∀ n, n + 4 ≤ 2049 → ∀ σ, Inv n σ → ∀ (a1 a2 : Int32), ∃ rv σ1 k σ2, f_X3_carrier σ a1 a2 = some (rv, σ1) ∧ f_X4_carrier σ1 a1 a2 = some (.inl none, σ2) ∧ AgV ["java/util/NoSuchElementException", "java/lang/IllegalArgumentException", "java/lang/IllegalStateException"] rv k ∧ σ2 8 0 = k ∧ Inv (n + 4) σ2
def PS_hour (Inv : Nat → St → Prop) : Prop := ∀ n, n + 4 ≤ 2049 → ∀ σ, Inv n σ → ∀ (a1 a2 a3 : Int32), ∃ rv σ1 k v σ2, f_X3_hour σ a1 a2 a3 = some (rv, σ1) ∧ f_X4_hour σ1 a1 a2 a3 = some (.inl (some (.inl v)), σ2) ∧ AgI ["java/lang/IllegalArgumentException", "java/lang/UnsupportedOperationException"] rv k v ∧ σ2 8 0 = k ∧ Inv (n + 4) σ2
def PS_stock (Inv : Nat → St → Prop) : Prop := ∀ n, n + 4 ≤ 2049 → ∀ σ, Inv n σ → ∀ (a1 a2 : Int32), ∃ rv σ1 k σ2, f_X3_stock σ a1 a2 = some (rv, σ1) ∧ f_X4_stock σ1 a1 a2 = some (.inl none, σ2) ∧ AgV ["java/lang/IllegalArgumentException"] rv k ∧ σ2 8 0 = k ∧ Inv (n + 4) σ2
def PS_plan (Inv : Nat → St → Prop) : Prop := ∀ n, n + 4 ≤ 2049 → ∀ σ, Inv n σ → ∃ rv σ1 k v σ2, f_X3_plan σ  = some (rv, σ1) ∧ f_X4_plan σ1  = some (.inl (some (.inl v)), σ2) ∧ AgI ["java/lang/UnsupportedOperationException"] rv k v ∧ σ2 8 0 = k ∧ Inv (n + 4) σ2
def PS_wave (Inv : Nat → St → Prop) : Prop := ∀ n, n + 4 ≤ 2049 → ∀ σ, Inv n σ → ∀ (a1 : Int32), ∃ rv k v σ2, f_X3_wave σ a1 = some rv ∧ f_X4_wave σ a1 = some (.inl (some (.inl v)), σ2) ∧ AgI ["java/util/NoSuchElementException"] rv k v ∧ σ2 8 0 = k ∧ Inv (n + 4) σ2
def PS_told (Inv : Nat → St → Prop) : Prop := ∀ n, n + 4 ≤ 2049 → ∀ σ, Inv n σ → ∀ (a1 a2 : Int32), ∃ rv k v σ2, f_X3_told σ a1 a2 = some rv ∧ f_X4_told σ a1 a2 = some (.inl (some (.inl v)), σ2) ∧ AgI ["java/util/NoSuchElementException", "java/lang/IllegalArgumentException"] rv k v ∧ σ2 8 0 = k ∧ Inv (n + 4) σ2
def PS_member (Inv : Nat → St → Prop) : Prop := ∀ n, n + 4 ≤ 2049 → ∀ σ, Inv n σ → ∀ (a1 a2 : Int32), ∃ rv k v σ2, f_X3_member σ a1 a2 = some rv ∧ f_X4_member σ a1 a2 = some (.inl (some (.inl v)), σ2) ∧ AgI ["java/util/NoSuchElementException"] rv k v ∧ σ2 8 0 = k ∧ Inv (n + 4) σ2
def PS_replenish (Inv : Nat → St → Prop) : Prop := ∀ n, n + 4 ≤ 2049 → ∀ σ, Inv n σ → ∀ (a1 a2 : Int32), ∃ rv k v σ2, f_X3_replenish σ a1 a2 = some rv ∧ f_X4_replenish σ a1 a2 = some (.inl (some (.inl v)), σ2) ∧ AgI ["java/util/NoSuchElementException", "java/lang/IllegalArgumentException"] rv k v ∧ σ2 8 0 = k ∧ Inv (n + 4) σ2
def PS_lacks (Inv : Nat → St → Prop) : Prop := ∀ n, n + 4 ≤ 2049 → ∀ σ, Inv n σ → ∀ (a1 a2 : Int32), ∃ rv k v σ2, f_X3_lacks σ a1 a2 = some rv ∧ f_X4_lacks σ a1 a2 = some (.inl (some (.inl v)), σ2) ∧ AgI ["java/util/NoSuchElementException", "java/lang/IllegalArgumentException"] rv k v ∧ σ2 8 0 = k ∧ Inv (n + 4) σ2
def PS_release (Inv : Nat → St → Prop) : Prop := ∀ n, n + 4 ≤ 2049 → ∀ σ, Inv n σ → ∀ (a1 : Int32), ∃ rv σ1 k v σ2, f_X3_release σ a1 = some (rv, σ1) ∧ f_X4_release σ1 a1 = some (.inl (some (.inl v)), σ2) ∧ AgI ["java/util/NoSuchElementException", "java/lang/IllegalStateException"] rv k v ∧ σ2 8 0 = k ∧ Inv (n + 4) σ2
def PS_done (Inv : Nat → St → Prop) : Prop := ∀ n, n + 4 ≤ 2049 → ∀ σ, Inv n σ → ∀ (a1 : Int32), ∃ rv σ1 k v σ2, f_X3_done σ a1 = some (rv, σ1) ∧ f_X4_done σ1 a1 = some (.inl (some (.inl v)), σ2) ∧ AgI ["java/util/NoSuchElementException", "java/lang/IllegalStateException"] rv k v ∧ σ2 8 0 = k ∧ Inv (n + 4) σ2
def PS_change (Inv : Nat → St → Prop) : Prop := ∀ n, n + 4 ≤ 2049 → ∀ σ, Inv n σ → ∀ (a1 a2 : Int32), ∃ rv σ1 k v σ2, f_X3_change σ a1 a2 = some (rv, σ1) ∧ f_X4_change σ1 a1 a2 = some (.inl (some (.inl v)), σ2) ∧ AgI ["java/util/NoSuchElementException", "java/lang/IllegalArgumentException", "java/lang/IllegalStateException"] rv k v ∧ σ2 8 0 = k ∧ Inv (n + 4) σ2
def PS_join (Inv : Nat → St → Prop) : Prop := ∀ n, n + 4 ≤ 2049 → ∀ σ, Inv n σ → ∀ (a1 a2 : Int32), ∃ rv σ1 k v σ2, f_X3_join σ a1 a2 = some (rv, σ1) ∧ f_X4_join σ1 a1 a2 = some (.inl (some (.inl v)), σ2) ∧ AgI ["java/util/NoSuchElementException", "java/lang/IllegalStateException"] rv k v ∧ σ2 8 0 = k ∧ Inv (n + 4) σ2
def PS_cutoff (Inv : Nat → St → Prop) : Prop := ∀ n, n + 4 ≤ 2049 → ∀ σ, Inv n σ → ∀ (a1 a2 : Int32), ∃ rv σ1 k v σ2, f_X3_cutoff σ a1 a2 = some (rv, σ1) ∧ f_X4_cutoff σ1 a1 a2 = some (.inl (some (.inl v)), σ2) ∧ AgI ["java/lang/IllegalArgumentException"] rv k v ∧ σ2 8 0 = k ∧ Inv (n + 4) σ2
def PS_late (Inv : Nat → St → Prop) : Prop := ∀ n, n + 4 ≤ 2049 → ∀ σ, Inv n σ → ∀ (a1 : Int32), ∃ rv k v σ2, f_X3_late σ a1 = some rv ∧ f_X4_late σ a1 = some (.inl (some (.inl v)), σ2) ∧ AgI ["java/lang/IllegalArgumentException"] rv k v ∧ σ2 8 0 = k ∧ Inv (n + 4) σ2
def PS_count (Inv : Nat → St → Prop) : Prop := ∀ n, n + 4 ≤ 2049 → ∀ σ, Inv n σ → ∀ (a1 : Int32), ∃ v σ2, f_X3_count σ a1 = some (.inl (some (.inl v))) ∧ f_X4_count σ a1 = some (.inl (some (.inl v)), σ2) ∧ Inv (n + 4) σ2
def PSall (Inv : Nat → St → Prop) : Prop := PS_order Inv ∧ PS_line Inv ∧ PS_carrier Inv ∧ PS_hour Inv ∧ PS_stock Inv ∧ PS_plan Inv ∧ PS_wave Inv ∧ PS_told Inv ∧ PS_member Inv ∧ PS_replenish Inv ∧ PS_lacks Inv ∧ PS_release Inv ∧ PS_done Inv ∧ PS_change Inv ∧ PS_join Inv ∧ PS_cutoff Inv ∧ PS_late Inv ∧ PS_count Inv
theorem gTBw {y : MethodName} {cc : ByteArray} {maxL : Nat} {ret : Option FieldType} {hh : List (Nat × Nat × Nat × Nat)} (h : Cond.codeWith y cc maxL ret hh ∈ TB) : GoodIn TB (Cond.codeWith y cc maxL ret hh :: TB) := by
  intro w hw
  rcases List.mem_cons.mp hw with e | e
  · subst e; exact ⟨h, good_of_word (List.mem_filter.mp h).2⟩
  · exact ⟨e, good_of_word (List.mem_filter.mp e).2⟩
/-- what the law's body knows -/
def Fl (p : Program) (l : Launch) (s : State) (args : Array Value) (m : MethodId) (c : Code) (G : GT) : Prop :=
  p.tables.exec = Jvm.exec ∧ c.code = code ∧ c.maxLocals = 7 ∧ s.vm.findClass RL = some m.cls ∧ (∀ w ∈ TB, w.before args s = true) ∧ Cx G s ∧ (∀ q ∈ ncs, va_Nc q.1 q.2 s) ∧ l.stackTraces = false
section
variable {p : Program} {l : Launch} {e : Env} {R : Room} {s : State} {m : MethodId} {args : Array Value} {below : List Frame} {meth : Method} {c : Code} {H : Heap} {locs : List Loc} {cells slots : Nat} {Q : State → Prop}
variable {pc : Nat} {ls : Array Slot} {rest st0 : List Value} {G : GT} {lo lo1 : Nat → Int64} {σ σ1 : St} {r : RV × St} {mc ms : Nat} {k : Int32}
/-- a method of the class or the reference that does not throw -/
theorem xVl (F : Fl p l s args m c G) {y : MethodName} {bytes : ByteArray} {maxL fr wl index ci q : Nat} {ret' : Option FieldType} {C : String} {vs : List (Int32 ⊕ Nat)} {fs : List Value} {T : u_T} {N : Nat} {v : Option (Int32 ⊕ Nat)} (hM : MC l G y bytes maxL ret' fr wl mc ms (.inr q :: vs) σ r) (hv : r.1 = .inl v) (hcode : Cond.code y bytes maxL ret' ∈ TB) (hlink : Cond.methodLink RL index y ∈ TB) (hinst : Cond.instanceMethod y ∈ TB) (hsel : Cond.selects C y y ∈ TB) (hini : Cond.initialized C ∈ TB) (hyc : y.cls = C)
    (n : Nat) (hd : y.cls ≠ "java/lang/invoke/MethodHandle" ∧ y.cls ≠ "java/lang/invoke/VarHandle" ∧ (parseMethodDescriptor y.desc).map (fun d => d.parameters.length) = some n) (hn : vs.length = n) (hR : fr + 1 ≤ R.frames ∧ 8 + (maxL + 11) + wl ≤ R.locals) (hP : va_P (gD G) vwCl (wld G lo σ) H) (hS : va_S (gF G) s.heap H locs) (hq : q < 92) (he : wcell G lo σ q = .inr (ci, fs)) (hcl : vwCl[ci]? = some (C, T, N)) (hsize : ls.size = 7) (hst0 : st0 = (vs.map (cv G)).reverse ++ .ref (gA G q) :: rest) (hW : (rest.map fun v => v.category).sum ≤ 8) (hdg : decode code pc = .ok (.invokevirtual index, 3)) (hf : cells + mc ≤ R.cells ∧ slots + ms ≤ R.slots)
    (kk : ∀ (H1 : Heap) (locs1 : List Loc), va_P (gD G) vwCl (wld G lo r.2) H1 → va_S (gF G) s.heap H1 locs1 → W p l e R s m args below meth c H1 locs1 (cells + mc) (slots + ms) Q (F0 m (pc + 3) ls ((v.map (cv G)).toList ++ rest))) : W p l e R s m args below meth c H locs cells slots Q (F0 m pc ls st0) := by
  subst hn
  obtain ⟨hx, hb, hml, hown, hts, hC, hnc, hst⟩ := F
  obtain ⟨hp1, hp2⟩ := xpre (vs := .inr q :: vs) hC hP hS
  exact xkN (va_runV (C := C) (b := gA G q) (As := vs.map (cv G)) (rest := rest) ⟨hx, hb, hml, hown, hts⟩ (xmet (hM hst lo) hv) ⟨callB_of vs.length hts (gTB hcode) rfl rfl rfl (by rw [hyc]; exact hts _ hini) (hts _ hlink) hd hR, hts _ hinst, hts _ hsel⟩ ⟨hp1, va_recv hC.2.1 hP hcl (by rw [wld_at hq, he]), hp2⟩ rfl (by simp) hsize hst0 (lv_room hW) hdg hf) hS hv kk
/-- one of the law's own small methods -/
theorem xHl (F : Fl p l s args m c G) {y : MethodName} {bytes : ByteArray} {maxL fr wl index : Nat} {hh : List (Nat × Nat × Nat × Nat)} {vs : List (Int32 ⊕ Nat)} (hM : HC l G y bytes maxL hh fr wl mc ms vs lo σ lo1 k σ1) (hcode : Cond.codeWith y bytes maxL (some .int) hh ∈ TB) (hlink : Cond.methodLink RL index y ∈ TB) (hstat : Cond.static y ∈ TB) (hini : Cond.initialized RL ∈ TB) (hyc : y.cls = RL)
    (n : Nat) (hd : y.cls ≠ "java/lang/invoke/MethodHandle" ∧ y.cls ≠ "java/lang/invoke/VarHandle" ∧ (parseMethodDescriptor y.desc).map (fun d => d.parameters.length) = some n) (hn : vs.length = n) (hR : fr + 1 ≤ R.frames ∧ 8 + (maxL + 11) + wl ≤ R.locals) (hP : va_P (gD G) vwCl (wld G lo σ) H) (hS : va_S (gF G) s.heap H locs) (hsize : ls.size = 7) (hst0 : st0 = (vs.map (cv G)).reverse ++ rest) (hW : (rest.map fun v => v.category).sum ≤ 8) (hdg : decode code pc = .ok (.invokestatic index, 3)) (hf : cells + mc ≤ R.cells ∧ slots + ms ≤ R.slots)
    (kk : ∀ (H1 : Heap) (locs1 : List Loc), va_P (gD G) vwCl (wld G lo1 σ1) H1 → va_S (gF G) s.heap H1 locs1 → W p l e R s m args below meth c H1 locs1 (cells + mc) (slots + ms) Q (F0 m (pc + 3) ls (.int k :: rest))) : W p l e R s m args below meth c H locs cells slots Q (F0 m pc ls st0) := by
  subst hn
  obtain ⟨hx, hb, hml, hown, hts, hC, hnc, hst⟩ := F
  have hp : PreS s H (PWl G lo vs σ) (vs.map (cv G)) := ⟨fun a U g mk q => ⟨q.1, q.2.1, q.2.2.1.blind g mk a, fun z hz => va_Nc.moved (u := U) (U := U.calling g mk a) (Vm.Alike.refl U.vm) (q.2.2.2 z hz)⟩, fun U hU hW => ⟨rfl, by rw [hU]; exact hP, hC.to hW hS hU, fun z hz => va_Nc.moved hW.alike (hnc z hz)⟩⟩
  have hr := vx_runSW (e := e) (below := below) (meth := meth) (locs := locs) (cells := cells) (slots := slots) (g := F0 m pc ls st0) (As := vs.map (cv G)) (rest := rest) (n := vs.length) ⟨hx, hb, hml, hown, hts⟩ (hM hst) ⟨⟨rfl, rfl, hR.1, hR.2, pay_in hts (gTBw hcode), List.mem_cons_self⟩, hts _ hcode, by rw [hyc]; exact hts _ hini, ⟨hd.1, hd.2.1⟩, fun sig h => by
      have h2 := hd.2.2
      rw [h] at h2
      exact (Option.some.inj h2).symm, hts _ hlink, hts _ hstat⟩ hp rfl (by simp) hsize hst0 (lv_room hW) hdg hf
  intro T hT X
  obtain ⟨v', st₀, t, T', L, h0, X', hL, e1, e2, ⟨ho, hP1, hF⟩, st⟩ := hr T hT X
  cases ho
  obtain ⟨k1, k2, k3⟩ := vx_keep h0 e1 hS (fun _ _ h => h) (fun _ h => h) hL hF
  obtain ⟨t2, a1, b1⟩ := kk T'.heap (locs ++ L) (by rw [e1]; exact hP1) k3 T' rfl X'
  exact ⟨t2, st t2 a1, b1⟩
theorem xLl (F : Fl p l s args m c G) (hP : va_P (gD G) vwCl (wld G lo σ) H) (hdg : decode code pc = .ok (.laload, 1))
    (kk : W p l e R s m args below meth c H locs cells slots Q (F0 m (pc + 1) ls (.long (lo 0) :: rest))) : W p l e R s m args below meth c H locs cells slots Q (F0 m pc ls (.int 0 :: .ref (gA G 25) :: rest)) := by
  obtain ⟨hx, hb, hml, hown, hts, hC, hnc, hst⟩ := F
  exact va_lald hx hb hC.2.1 hP 25 4 (by rw [wld_at (by decide), wc9 kdc_25]) rfl (show ¬ ((0 : Int32) < 0 ∨ 1 ≤ (0 : Int32).toNatClampNeg) by decide) hdg kk
end
theorem law_in {i L : Nat} (hL : L ≤ 2049) (hi : i ≤ 3000) (h : ¬ (Int32.ofNat L - 4 < nI i)) : i + 4 ≤ L := by
  have h1 : (Int32.ofNat L - 4 : Int32).toInt = (L : Int) - 4 := pk_sub_toInt (a := L) (b := 4) (by omega) (by decide)
  rw [Int32.lt_iff_toInt_lt, h1, nI_toInt (by omega)] at h
  omega
theorem law_ix {i j L : Nat} (hL : L ≤ 2049) (h : i + j < L) : vp_in (nI i + nI j) L := by
  rw [nI_add]; exact vp_in_nI h (by omega)

set_option maxHeartbeats 4000000 in
set_option maxRecDepth 100000 in
theorem law_order {p : Program} {l : Launch} {e : Env} {s : State} {m : MethodId} {below : List Frame} {meth : Method} {c : Code} {b L : Nat} {xs : Nat → Int32} {G : GT} {Inv : Nat → St → Prop} (PS : PSall Inv) (F : Fl p l s #[Value.ref b] m c G) (hX : va_X b L xs s s.heap) (hbl : b < s.heap.size) (hbA : ¬ gF G b) (hL : L ≤ 2049) {i : Nat} (hi : i + 4 ≤ L) {lo : Nat → Int64} {σ : St} (hI : Inv i σ) {H : Heap} {locs : List Loc} (hP : va_P (gD G) vwCl (wld G lo σ) H) (hS : va_S (gF G) s.heap H locs) {ls : Array Slot} (hl : lv_has ls 7 [(0, .ref b), (1, .ref (gA G 0)), (2, .ref (gA G 8)), (3, .ref (gA G 25)), (4, .int (nI i))])
    (ih : ∀ (j : Nat) (lo : Nat → Int64) (σ : St), j = i + 4 → j ≤ L → Inv j σ → ∀ (H : Heap) (locs : List Loc), va_P (gD G) vwCl (wld G lo σ) H → va_S (gF G) s.heap H locs → ∀ ls : Array Slot, lv_has ls 7 [(0, .ref b), (1, .ref (gA G 0)), (2, .ref (gA G 8)), (3, .ref (gA G 25)), (4, .int (nI j))] → W p l e room_1 s m #[Value.ref b] below meth c H locs (1000 + 2 * j) (20000 + 8 * j) (lw_Z below #[Value.ref b] s) (F0 m 33 ls [])) :
    W p l e room_1 s m #[Value.ref b] below meth c H locs (1000 + 2 * i) (20000 + 8 * i) (lw_Z below #[Value.ref b] s) (F0 m 136 ls []) := by
  obtain ⟨hx, hb, hml, hown, hts, hC, hnc, hst⟩ := id F
  have e4 : nI i + 4 = nI (i + 4) := nI_add i 4
  have hi1 : vp_in (nI i + 1) L := law_ix (j := 1) hL (by omega)
  have hi2 : vp_in (nI i + 2) L := law_ix (j := 2) hL (by omega)
  have hi3 : vp_in (nI i + 3) L := law_ix (j := 3) hL (by omega)
  have hroom : ∀ mc : Nat, mc ≤ 5 → i + 4 ≤ L → (1000 + 2 * i) + mc ≤ room_1.cells := fun mc h1 h2 => by show _ ≤ 633173; omega
  have hroos : ∀ ms : Nat, ms ≤ 30 → i + 4 ≤ L → (20000 + 8 * i) + ms ≤ room_1.slots := fun ms h1 h2 => by show _ ≤ 7196550; omega
  obtain ⟨rv, σ1, k, v, σ2, hf1, hf2, hag, hth, hI2⟩ := PS.1 i (by omega) σ hI (xs (nI i + 1).toNatClampNeg) (xs (nI i + 2).toNatClampNeg) (xs (nI i + 3).toNatClampNeg)
  obtain ⟨lo1, hk, hlo⟩ := hag.o lo
  refine lv_aload_n hx hb dL_law_136 rfl (lv_at hl 1 rfl) ?_
  refine lv_aload_n hx hb dL_law_137 rfl (lv_at hl 0 rfl) ?_
  refine lv_iload hx hb dL_law_138 (lv_at hl 4 rfl) ?_
  refine lv_iconst (v := 1) hx hb dL_law_140 (by decide) ?_
  refine lv_iadd hx hb dL_law_141 ?_
  refine va_sld hx hb hX hbl hbA hS hi1 dL_law_142 ?_
  refine lv_aload_n hx hb dL_law_143 rfl (lv_at hl 0 rfl) ?_
  refine lv_iload hx hb dL_law_144 (lv_at hl 4 rfl) ?_
  refine lv_iconst (v := 2) hx hb dL_law_146 (by decide) ?_
  refine lv_iadd hx hb dL_law_147 ?_
  refine va_sld hx hb hX hbl hbA hS hi2 dL_law_148 ?_
  refine lv_aload_n hx hb dL_law_149 rfl (lv_at hl 0 rfl) ?_
  refine lv_iload hx hb dL_law_150 (lv_at hl 4 rfl) ?_
  refine lv_iconst (v := 3) hx hb dL_law_152 (by decide) ?_
  refine lv_iadd hx hb dL_law_153 ?_
  refine va_sld hx hb hX hbl hbA hS hi3 dL_law_154 ?_
  refine lv_aload_n hx hb dL_law_155 rfl (lv_at hl 3 rfl) ?_
  refine xHl F (h_order hf1 hk) tk_177 tk_175 tk_176 tk_0 rfl 5 (by decide +kernel) rfl ⟨Nat.le_of_ble_eq_true rfl, Nat.le_of_ble_eq_true rfl⟩ hP hS hl.1 rfl (Nat.le_of_ble_eq_true rfl) dL_law_156 ⟨hroom _ (by decide) hi, hroos _ (by decide) hi⟩ (fun H locs hP hS => ?_)
  replace hP : va_P (gD G) vwCl (wld G lo1 σ1) H := hP
  refine lv_istore (lv' := [(5, .int k), (0, .ref b), (1, .ref (gA G 0)), (2, .ref (gA G 8)), (3, .ref (gA G 25)), (4, .int (nI i))]) hx hb dL_law_159 hl (by decide) rfl (fun ls hl => ?_)
  refine lv_aload_n hx hb dL_law_161 rfl (lv_at hl 3 rfl) ?_
  refine lv_aload_n hx hb dL_law_162 rfl (lv_at hl 1 rfl) ?_
  refine lv_iload hx hb dL_law_163 (lv_at hl 5 rfl) ?_
  refine lv_iconst (v := 1) hx hb dL_law_165 (by decide) ?_
  refine lv_iadd hx hb dL_law_166 ?_
  refine va_sld hx hb hX hbl hbA hS hi1 dL_law_167 ?_
  refine lv_aload_n hx hb dL_law_168 rfl (lv_at hl 1 rfl) ?_
  refine lv_iload hx hb dL_law_169 (lv_at hl 5 rfl) ?_
  refine lv_iconst (v := 2) hx hb dL_law_171 (by decide) ?_
  refine lv_iadd hx hb dL_law_172 ?_
  refine va_sld hx hb hX hbl hbA hS hi2 dL_law_173 ?_
  refine lv_aload_n hx hb dL_law_174 rfl (lv_at hl 1 rfl) ?_
  refine lv_iload hx hb dL_law_175 (lv_at hl 5 rfl) ?_
  refine lv_iconst (v := 3) hx hb dL_law_177 (by decide) ?_
  refine lv_iadd hx hb dL_law_178 ?_
  refine va_sld hx hb hX hbl hbA hS hi3 dL_law_179 ?_
  refine xVl F (c_X4_order hf2) rfl tk_628 tk_625 tk_626 tk_627 tk_6 rfl 3 (by decide +kernel) rfl ⟨Nat.le_of_ble_eq_true rfl, Nat.le_of_ble_eq_true rfl⟩ hP hS (kd_k kdc_8 (by decide)) (wc4 kdc_8) rfl hl.1 rfl (Nat.le_of_ble_eq_true rfl) dL_law_180 ⟨by show (1000 + 2 * i + 4) + 0 ≤ 633173; omega, by show (20000 + 8 * i + 24) + 0 ≤ 7196550; omega⟩ (fun H locs hP hS => ?_)
  replace hP : va_P (gD G) vwCl (wld G lo1 σ2) H := hP
  refine W.eq (g2 := F0 m 183 ls [.int v]) rfl ?_
  refine lv_istore (lv' := [(6, .int v), (5, .int k), (0, .ref b), (1, .ref (gA G 0)), (2, .ref (gA G 8)), (3, .ref (gA G 25)), (4, .int (nI i))]) hx hb dL_law_183 hl (by decide) rfl (fun ls hl => ?_)
  refine lv_aload_n hx hb dL_law_185 rfl (lv_at hl 4 rfl) ?_
  refine xVl F (c_X4_thrown (rfl : f_X4_thrown σ2 = some (.inl (some (.inl (σ2 8 0)))))) rfl tk_624 tk_621 tk_622 tk_623 tk_6 rfl 0 (by decide +kernel) rfl ⟨Nat.le_of_ble_eq_true rfl, Nat.le_of_ble_eq_true rfl⟩ hP hS (kd_k kdc_8 (by decide)) (wc4 kdc_8) rfl hl.1 rfl (Nat.le_of_ble_eq_true rfl) dL_law_186 ⟨by show ((1000 + 2 * i + 4) + 0) + 0 ≤ 633173; omega, by show ((20000 + 8 * i + 24) + 0) + 0 ≤ 7196550; omega⟩ (fun H locs hP hS => ?_)
  replace hP : va_P (gD G) vwCl (wld G lo1 σ2) H := hP
  refine W.eq (g2 := F0 m 189 ls [.int (σ2 8 0)]) rfl ?_
  refine lv_iload hx hb dL_law_189 (lv_at hl 1 rfl) ?_
  refine lv_icmp_eq (tgt := 196) hx hb dL_law_191 (by decide) (fun b1 => ?_) (fun b1 => ?_)
  rotate_left
  · exact absurd hth b1
  refine lv_iload hx hb dL_law_196 (lv_at hl 1 rfl) ?_
  refine lv_if_ne (tgt := 213) hx hb dL_law_198 (by decide) (fun b2 => ?_) (fun b2 => ?_)
  · refine lv_goto (tgt := 1248) hx hb dL_law_213 (by decide) ?_
    refine lv_iinc (v := (nI i + 4)) (lv' := [(4, .int (nI i + 4)), (6, .int v), (5, .int k), (0, .ref b), (1, .ref (gA G 0)), (2, .ref (gA G 8)), (3, .ref (gA G 25))]) hx hb dL_law_1248 hl (k := 6) rfl rfl (by decide) rfl (fun ls hl => ?_)
    rw [e4] at hl
    refine lv_goto (tgt := 33) hx hb dL_law_1251 (by decide) ?_
    refine W.widen (k := 1000 + 2 * (i + 4)) (n := 20000 + 8 * (i + 4)) (by omega) (by omega) ?_
    exact ih (i + 4) lo1 σ2 (by omega) (by omega) hI2 _ _ hP hS _ (lv_sub hl [3, 4, 5, 6, 0] rfl)
  · refine lv_aload_n hx hb dL_law_201 rfl (lv_at hl 5 rfl) ?_
    refine lv_iconst (v := 0) hx hb dL_law_202 (by decide) ?_
    refine xLl F hP dL_law_203 ?_
    refine lv_iload hx hb dL_law_204 (lv_at hl 0 rfl) ?_
    refine lv_i2l (v := v.toInt64) hx hb dL_law_206 rfl ?_
    refine W.lcmp hx hb dL_law_207 ?_
    refine lv_if_eq (tgt := 213) hx hb dL_law_208 (by decide) (fun b3 => ?_) (fun b3 => absurd ((lg_cmp_eq _ _).mpr (hlo b2)) b3)
    refine lv_goto (tgt := 1248) hx hb dL_law_213 (by decide) ?_
    refine lv_iinc (v := (nI i + 4)) (lv' := [(4, .int (nI i + 4)), (6, .int v), (5, .int k), (0, .ref b), (1, .ref (gA G 0)), (2, .ref (gA G 8)), (3, .ref (gA G 25))]) hx hb dL_law_1248 hl (k := 6) rfl rfl (by decide) rfl (fun ls hl => ?_)
    rw [e4] at hl
    refine lv_goto (tgt := 33) hx hb dL_law_1251 (by decide) ?_
    refine W.widen (k := 1000 + 2 * (i + 4)) (n := 20000 + 8 * (i + 4)) (by omega) (by omega) ?_
    exact ih (i + 4) lo1 σ2 (by omega) (by omega) hI2 _ _ hP hS _ (lv_sub hl [3, 4, 5, 6, 0] rfl)
set_option maxHeartbeats 4000000 in
set_option maxRecDepth 100000 in
theorem law_line {p : Program} {l : Launch} {e : Env} {s : State} {m : MethodId} {below : List Frame} {meth : Method} {c : Code} {b L : Nat} {xs : Nat → Int32} {G : GT} {Inv : Nat → St → Prop} (PS : PSall Inv) (F : Fl p l s #[Value.ref b] m c G) (hX : va_X b L xs s s.heap) (hbl : b < s.heap.size) (hbA : ¬ gF G b) (hL : L ≤ 2049) {i : Nat} (hi : i + 4 ≤ L) {lo : Nat → Int64} {σ : St} (hI : Inv i σ) {H : Heap} {locs : List Loc} (hP : va_P (gD G) vwCl (wld G lo σ) H) (hS : va_S (gF G) s.heap H locs) {ls : Array Slot} (hl : lv_has ls 7 [(0, .ref b), (1, .ref (gA G 0)), (2, .ref (gA G 8)), (3, .ref (gA G 25)), (4, .int (nI i))])
    (ih : ∀ (j : Nat) (lo : Nat → Int64) (σ : St), j = i + 4 → j ≤ L → Inv j σ → ∀ (H : Heap) (locs : List Loc), va_P (gD G) vwCl (wld G lo σ) H → va_S (gF G) s.heap H locs → ∀ ls : Array Slot, lv_has ls 7 [(0, .ref b), (1, .ref (gA G 0)), (2, .ref (gA G 8)), (3, .ref (gA G 25)), (4, .int (nI j))] → W p l e room_1 s m #[Value.ref b] below meth c H locs (1000 + 2 * j) (20000 + 8 * j) (lw_Z below #[Value.ref b] s) (F0 m 33 ls [])) :
    W p l e room_1 s m #[Value.ref b] below meth c H locs (1000 + 2 * i) (20000 + 8 * i) (lw_Z below #[Value.ref b] s) (F0 m 216 ls []) := by
  obtain ⟨hx, hb, hml, hown, hts, hC, hnc, hst⟩ := id F
  have e4 : nI i + 4 = nI (i + 4) := nI_add i 4
  have hi1 : vp_in (nI i + 1) L := law_ix (j := 1) hL (by omega)
  have hi2 : vp_in (nI i + 2) L := law_ix (j := 2) hL (by omega)
  have hi3 : vp_in (nI i + 3) L := law_ix (j := 3) hL (by omega)
  have hroom : ∀ mc : Nat, mc ≤ 5 → i + 4 ≤ L → (1000 + 2 * i) + mc ≤ room_1.cells := fun mc h1 h2 => by show _ ≤ 633173; omega
  have hroos : ∀ ms : Nat, ms ≤ 30 → i + 4 ≤ L → (20000 + 8 * i) + ms ≤ room_1.slots := fun ms h1 h2 => by show _ ≤ 7196550; omega
  obtain ⟨rv, σ1, k, v, σ2, hf1, hf2, hag, hth, hI2⟩ := PS.2.1 i (by omega) σ hI (xs (nI i + 1).toNatClampNeg) (xs (nI i + 2).toNatClampNeg) (xs (nI i + 3).toNatClampNeg)
  obtain ⟨lo1, hk, hlo⟩ := hag.o lo
  refine lv_aload_n hx hb dL_law_216 rfl (lv_at hl 1 rfl) ?_
  refine lv_aload_n hx hb dL_law_217 rfl (lv_at hl 0 rfl) ?_
  refine lv_iload hx hb dL_law_218 (lv_at hl 4 rfl) ?_
  refine lv_iconst (v := 1) hx hb dL_law_220 (by decide) ?_
  refine lv_iadd hx hb dL_law_221 ?_
  refine va_sld hx hb hX hbl hbA hS hi1 dL_law_222 ?_
  refine lv_aload_n hx hb dL_law_223 rfl (lv_at hl 0 rfl) ?_
  refine lv_iload hx hb dL_law_224 (lv_at hl 4 rfl) ?_
  refine lv_iconst (v := 2) hx hb dL_law_226 (by decide) ?_
  refine lv_iadd hx hb dL_law_227 ?_
  refine va_sld hx hb hX hbl hbA hS hi2 dL_law_228 ?_
  refine lv_aload_n hx hb dL_law_229 rfl (lv_at hl 0 rfl) ?_
  refine lv_iload hx hb dL_law_230 (lv_at hl 4 rfl) ?_
  refine lv_iconst (v := 3) hx hb dL_law_232 (by decide) ?_
  refine lv_iadd hx hb dL_law_233 ?_
  refine va_sld hx hb hX hbl hbA hS hi3 dL_law_234 ?_
  refine lv_aload_n hx hb dL_law_235 rfl (lv_at hl 3 rfl) ?_
  refine xHl F (h_line hf1 hk) tk_275 tk_273 tk_274 tk_0 rfl 5 (by decide +kernel) rfl ⟨Nat.le_of_ble_eq_true rfl, Nat.le_of_ble_eq_true rfl⟩ hP hS hl.1 rfl (Nat.le_of_ble_eq_true rfl) dL_law_236 ⟨hroom _ (by decide) hi, hroos _ (by decide) hi⟩ (fun H locs hP hS => ?_)
  replace hP : va_P (gD G) vwCl (wld G lo1 σ1) H := hP
  refine lv_istore (lv' := [(5, .int k), (0, .ref b), (1, .ref (gA G 0)), (2, .ref (gA G 8)), (3, .ref (gA G 25)), (4, .int (nI i))]) hx hb dL_law_239 hl (by decide) rfl (fun ls hl => ?_)
  refine lv_aload_n hx hb dL_law_241 rfl (lv_at hl 3 rfl) ?_
  refine lv_aload_n hx hb dL_law_242 rfl (lv_at hl 1 rfl) ?_
  refine lv_iload hx hb dL_law_243 (lv_at hl 5 rfl) ?_
  refine lv_iconst (v := 1) hx hb dL_law_245 (by decide) ?_
  refine lv_iadd hx hb dL_law_246 ?_
  refine va_sld hx hb hX hbl hbA hS hi1 dL_law_247 ?_
  refine lv_aload_n hx hb dL_law_248 rfl (lv_at hl 1 rfl) ?_
  refine lv_iload hx hb dL_law_249 (lv_at hl 5 rfl) ?_
  refine lv_iconst (v := 2) hx hb dL_law_251 (by decide) ?_
  refine lv_iadd hx hb dL_law_252 ?_
  refine va_sld hx hb hX hbl hbA hS hi2 dL_law_253 ?_
  refine lv_aload_n hx hb dL_law_254 rfl (lv_at hl 1 rfl) ?_
  refine lv_iload hx hb dL_law_255 (lv_at hl 5 rfl) ?_
  refine lv_iconst (v := 3) hx hb dL_law_257 (by decide) ?_
  refine lv_iadd hx hb dL_law_258 ?_
  refine va_sld hx hb hX hbl hbA hS hi3 dL_law_259 ?_
  refine xVl F (c_X4_line hf2) rfl tk_639 tk_636 tk_637 tk_638 tk_6 rfl 3 (by decide +kernel) rfl ⟨Nat.le_of_ble_eq_true rfl, Nat.le_of_ble_eq_true rfl⟩ hP hS (kd_k kdc_8 (by decide)) (wc4 kdc_8) rfl hl.1 rfl (Nat.le_of_ble_eq_true rfl) dL_law_260 ⟨by show (1000 + 2 * i + 5) + 0 ≤ 633173; omega, by show (20000 + 8 * i + 30) + 0 ≤ 7196550; omega⟩ (fun H locs hP hS => ?_)
  replace hP : va_P (gD G) vwCl (wld G lo1 σ2) H := hP
  refine W.eq (g2 := F0 m 263 ls [.int v]) rfl ?_
  refine lv_istore (lv' := [(6, .int v), (5, .int k), (0, .ref b), (1, .ref (gA G 0)), (2, .ref (gA G 8)), (3, .ref (gA G 25)), (4, .int (nI i))]) hx hb dL_law_263 hl (by decide) rfl (fun ls hl => ?_)
  refine lv_aload_n hx hb dL_law_265 rfl (lv_at hl 4 rfl) ?_
  refine xVl F (c_X4_thrown (rfl : f_X4_thrown σ2 = some (.inl (some (.inl (σ2 8 0)))))) rfl tk_624 tk_621 tk_622 tk_623 tk_6 rfl 0 (by decide +kernel) rfl ⟨Nat.le_of_ble_eq_true rfl, Nat.le_of_ble_eq_true rfl⟩ hP hS (kd_k kdc_8 (by decide)) (wc4 kdc_8) rfl hl.1 rfl (Nat.le_of_ble_eq_true rfl) dL_law_266 ⟨by show ((1000 + 2 * i + 5) + 0) + 0 ≤ 633173; omega, by show ((20000 + 8 * i + 30) + 0) + 0 ≤ 7196550; omega⟩ (fun H locs hP hS => ?_)
  replace hP : va_P (gD G) vwCl (wld G lo1 σ2) H := hP
  refine W.eq (g2 := F0 m 269 ls [.int (σ2 8 0)]) rfl ?_
  refine lv_iload hx hb dL_law_269 (lv_at hl 1 rfl) ?_
  refine lv_icmp_eq (tgt := 276) hx hb dL_law_271 (by decide) (fun b1 => ?_) (fun b1 => ?_)
  rotate_left
  · exact absurd hth b1
  refine lv_iload hx hb dL_law_276 (lv_at hl 1 rfl) ?_
  refine lv_if_ne (tgt := 293) hx hb dL_law_278 (by decide) (fun b2 => ?_) (fun b2 => ?_)
  · refine lv_goto (tgt := 1248) hx hb dL_law_293 (by decide) ?_
    refine lv_iinc (v := (nI i + 4)) (lv' := [(4, .int (nI i + 4)), (6, .int v), (5, .int k), (0, .ref b), (1, .ref (gA G 0)), (2, .ref (gA G 8)), (3, .ref (gA G 25))]) hx hb dL_law_1248 hl (k := 6) rfl rfl (by decide) rfl (fun ls hl => ?_)
    rw [e4] at hl
    refine lv_goto (tgt := 33) hx hb dL_law_1251 (by decide) ?_
    refine W.widen (k := 1000 + 2 * (i + 4)) (n := 20000 + 8 * (i + 4)) (by omega) (by omega) ?_
    exact ih (i + 4) lo1 σ2 (by omega) (by omega) hI2 _ _ hP hS _ (lv_sub hl [3, 4, 5, 6, 0] rfl)
  · refine lv_aload_n hx hb dL_law_281 rfl (lv_at hl 5 rfl) ?_
    refine lv_iconst (v := 0) hx hb dL_law_282 (by decide) ?_
    refine xLl F hP dL_law_283 ?_
    refine lv_iload hx hb dL_law_284 (lv_at hl 0 rfl) ?_
    refine lv_i2l (v := v.toInt64) hx hb dL_law_286 rfl ?_
    refine W.lcmp hx hb dL_law_287 ?_
    refine lv_if_eq (tgt := 293) hx hb dL_law_288 (by decide) (fun b3 => ?_) (fun b3 => absurd ((lg_cmp_eq _ _).mpr (hlo b2)) b3)
    refine lv_goto (tgt := 1248) hx hb dL_law_293 (by decide) ?_
    refine lv_iinc (v := (nI i + 4)) (lv' := [(4, .int (nI i + 4)), (6, .int v), (5, .int k), (0, .ref b), (1, .ref (gA G 0)), (2, .ref (gA G 8)), (3, .ref (gA G 25))]) hx hb dL_law_1248 hl (k := 6) rfl rfl (by decide) rfl (fun ls hl => ?_)
    rw [e4] at hl
    refine lv_goto (tgt := 33) hx hb dL_law_1251 (by decide) ?_
    refine W.widen (k := 1000 + 2 * (i + 4)) (n := 20000 + 8 * (i + 4)) (by omega) (by omega) ?_
    exact ih (i + 4) lo1 σ2 (by omega) (by omega) hI2 _ _ hP hS _ (lv_sub hl [3, 4, 5, 6, 0] rfl)
set_option maxHeartbeats 4000000 in
set_option maxRecDepth 100000 in
theorem law_carrier {p : Program} {l : Launch} {e : Env} {s : State} {m : MethodId} {below : List Frame} {meth : Method} {c : Code} {b L : Nat} {xs : Nat → Int32} {G : GT} {Inv : Nat → St → Prop} (PS : PSall Inv) (F : Fl p l s #[Value.ref b] m c G) (hX : va_X b L xs s s.heap) (hbl : b < s.heap.size) (hbA : ¬ gF G b) (hL : L ≤ 2049) {i : Nat} (hi : i + 4 ≤ L) {lo : Nat → Int64} {σ : St} (hI : Inv i σ) {H : Heap} {locs : List Loc} (hP : va_P (gD G) vwCl (wld G lo σ) H) (hS : va_S (gF G) s.heap H locs) {ls : Array Slot} (hl : lv_has ls 7 [(0, .ref b), (1, .ref (gA G 0)), (2, .ref (gA G 8)), (3, .ref (gA G 25)), (4, .int (nI i))])
    (ih : ∀ (j : Nat) (lo : Nat → Int64) (σ : St), j = i + 4 → j ≤ L → Inv j σ → ∀ (H : Heap) (locs : List Loc), va_P (gD G) vwCl (wld G lo σ) H → va_S (gF G) s.heap H locs → ∀ ls : Array Slot, lv_has ls 7 [(0, .ref b), (1, .ref (gA G 0)), (2, .ref (gA G 8)), (3, .ref (gA G 25)), (4, .int (nI j))] → W p l e room_1 s m #[Value.ref b] below meth c H locs (1000 + 2 * j) (20000 + 8 * j) (lw_Z below #[Value.ref b] s) (F0 m 33 ls [])) :
    W p l e room_1 s m #[Value.ref b] below meth c H locs (1000 + 2 * i) (20000 + 8 * i) (lw_Z below #[Value.ref b] s) (F0 m 296 ls []) := by
  obtain ⟨hx, hb, hml, hown, hts, hC, hnc, hst⟩ := id F
  have e4 : nI i + 4 = nI (i + 4) := nI_add i 4
  have hi1 : vp_in (nI i + 1) L := law_ix (j := 1) hL (by omega)
  have hi2 : vp_in (nI i + 2) L := law_ix (j := 2) hL (by omega)
  have hroom : ∀ mc : Nat, mc ≤ 5 → i + 4 ≤ L → (1000 + 2 * i) + mc ≤ room_1.cells := fun mc h1 h2 => by show _ ≤ 633173; omega
  have hroos : ∀ ms : Nat, ms ≤ 30 → i + 4 ≤ L → (20000 + 8 * i) + ms ≤ room_1.slots := fun ms h1 h2 => by show _ ≤ 7196550; omega
  obtain ⟨rv, σ1, k, σ2, hf1, hf2, hag, hth, hI2⟩ := PS.2.2.1 i (by omega) σ hI (xs (nI i + 1).toNatClampNeg) (xs (nI i + 2).toNatClampNeg)
  have hk := hag.o lo
  refine lv_aload_n hx hb dL_law_296 rfl (lv_at hl 1 rfl) ?_
  refine lv_aload_n hx hb dL_law_297 rfl (lv_at hl 0 rfl) ?_
  refine lv_iload hx hb dL_law_298 (lv_at hl 4 rfl) ?_
  refine lv_iconst (v := 1) hx hb dL_law_300 (by decide) ?_
  refine lv_iadd hx hb dL_law_301 ?_
  refine va_sld hx hb hX hbl hbA hS hi1 dL_law_302 ?_
  refine lv_aload_n hx hb dL_law_303 rfl (lv_at hl 0 rfl) ?_
  refine lv_iload hx hb dL_law_304 (lv_at hl 4 rfl) ?_
  refine lv_iconst (v := 2) hx hb dL_law_306 (by decide) ?_
  refine lv_iadd hx hb dL_law_307 ?_
  refine va_sld hx hb hX hbl hbA hS hi2 dL_law_308 ?_
  refine xHl F (h_carrier hf1 hk) tk_325 tk_323 tk_324 tk_0 rfl 3 (by decide +kernel) rfl ⟨Nat.le_of_ble_eq_true rfl, Nat.le_of_ble_eq_true rfl⟩ hP hS hl.1 rfl (Nat.le_of_ble_eq_true rfl) dL_law_309 ⟨hroom _ (by decide) hi, hroos _ (by decide) hi⟩ (fun H locs hP hS => ?_)
  replace hP : va_P (gD G) vwCl (wld G lo σ1) H := hP
  refine lv_istore (lv' := [(5, .int k), (0, .ref b), (1, .ref (gA G 0)), (2, .ref (gA G 8)), (3, .ref (gA G 25)), (4, .int (nI i))]) hx hb dL_law_312 hl (by decide) rfl (fun ls hl => ?_)
  refine lv_aload_n hx hb dL_law_314 rfl (lv_at hl 3 rfl) ?_
  refine lv_aload_n hx hb dL_law_315 rfl (lv_at hl 1 rfl) ?_
  refine lv_iload hx hb dL_law_316 (lv_at hl 5 rfl) ?_
  refine lv_iconst (v := 1) hx hb dL_law_318 (by decide) ?_
  refine lv_iadd hx hb dL_law_319 ?_
  refine va_sld hx hb hX hbl hbA hS hi1 dL_law_320 ?_
  refine lv_aload_n hx hb dL_law_321 rfl (lv_at hl 1 rfl) ?_
  refine lv_iload hx hb dL_law_322 (lv_at hl 5 rfl) ?_
  refine lv_iconst (v := 2) hx hb dL_law_324 (by decide) ?_
  refine lv_iadd hx hb dL_law_325 ?_
  refine va_sld hx hb hX hbl hbA hS hi2 dL_law_326 ?_
  refine xVl F (c_X4_carrier hf2) rfl tk_651 tk_648 tk_649 tk_650 tk_6 rfl 2 (by decide +kernel) rfl ⟨Nat.le_of_ble_eq_true rfl, Nat.le_of_ble_eq_true rfl⟩ hP hS (kd_k kdc_8 (by decide)) (wc4 kdc_8) rfl hl.1 rfl (Nat.le_of_ble_eq_true rfl) dL_law_327 ⟨by show (1000 + 2 * i + 3) + 0 ≤ 633173; omega, by show (20000 + 8 * i + 18) + 0 ≤ 7196550; omega⟩ (fun H locs hP hS => ?_)
  replace hP : va_P (gD G) vwCl (wld G lo σ2) H := hP
  refine W.eq (g2 := F0 m 330 ls []) rfl ?_
  refine lv_aload_n hx hb dL_law_330 rfl (lv_at hl 3 rfl) ?_
  refine xVl F (c_X4_thrown (rfl : f_X4_thrown σ2 = some (.inl (some (.inl (σ2 8 0)))))) rfl tk_624 tk_621 tk_622 tk_623 tk_6 rfl 0 (by decide +kernel) rfl ⟨Nat.le_of_ble_eq_true rfl, Nat.le_of_ble_eq_true rfl⟩ hP hS (kd_k kdc_8 (by decide)) (wc4 kdc_8) rfl hl.1 rfl (Nat.le_of_ble_eq_true rfl) dL_law_331 ⟨by show ((1000 + 2 * i + 3) + 0) + 0 ≤ 633173; omega, by show ((20000 + 8 * i + 18) + 0) + 0 ≤ 7196550; omega⟩ (fun H locs hP hS => ?_)
  replace hP : va_P (gD G) vwCl (wld G lo σ2) H := hP
  refine W.eq (g2 := F0 m 334 ls [.int (σ2 8 0)]) rfl ?_
  refine lv_iload hx hb dL_law_334 (lv_at hl 0 rfl) ?_
  refine lv_icmp_eq (tgt := 341) hx hb dL_law_336 (by decide) (fun b1 => ?_) (fun b1 => ?_)
  rotate_left
  · exact absurd hth b1
  refine lv_goto (tgt := 1248) hx hb dL_law_341 (by decide) ?_
  refine lv_iinc (v := (nI i + 4)) (lv' := [(4, .int (nI i + 4)), (5, .int k), (0, .ref b), (1, .ref (gA G 0)), (2, .ref (gA G 8)), (3, .ref (gA G 25))]) hx hb dL_law_1248 hl (k := 5) rfl rfl (by decide) rfl (fun ls hl => ?_)
  rw [e4] at hl
  refine lv_goto (tgt := 33) hx hb dL_law_1251 (by decide) ?_
  refine W.widen (k := 1000 + 2 * (i + 4)) (n := 20000 + 8 * (i + 4)) (by omega) (by omega) ?_
  exact ih (i + 4) lo σ2 (by omega) (by omega) hI2 _ _ hP hS _ (lv_sub hl [2, 3, 4, 5, 0] rfl)
set_option maxHeartbeats 4000000 in
set_option maxRecDepth 100000 in
theorem law_hour {p : Program} {l : Launch} {e : Env} {s : State} {m : MethodId} {below : List Frame} {meth : Method} {c : Code} {b L : Nat} {xs : Nat → Int32} {G : GT} {Inv : Nat → St → Prop} (PS : PSall Inv) (F : Fl p l s #[Value.ref b] m c G) (hX : va_X b L xs s s.heap) (hbl : b < s.heap.size) (hbA : ¬ gF G b) (hL : L ≤ 2049) {i : Nat} (hi : i + 4 ≤ L) {lo : Nat → Int64} {σ : St} (hI : Inv i σ) {H : Heap} {locs : List Loc} (hP : va_P (gD G) vwCl (wld G lo σ) H) (hS : va_S (gF G) s.heap H locs) {ls : Array Slot} (hl : lv_has ls 7 [(0, .ref b), (1, .ref (gA G 0)), (2, .ref (gA G 8)), (3, .ref (gA G 25)), (4, .int (nI i))])
    (ih : ∀ (j : Nat) (lo : Nat → Int64) (σ : St), j = i + 4 → j ≤ L → Inv j σ → ∀ (H : Heap) (locs : List Loc), va_P (gD G) vwCl (wld G lo σ) H → va_S (gF G) s.heap H locs → ∀ ls : Array Slot, lv_has ls 7 [(0, .ref b), (1, .ref (gA G 0)), (2, .ref (gA G 8)), (3, .ref (gA G 25)), (4, .int (nI j))] → W p l e room_1 s m #[Value.ref b] below meth c H locs (1000 + 2 * j) (20000 + 8 * j) (lw_Z below #[Value.ref b] s) (F0 m 33 ls [])) :
    W p l e room_1 s m #[Value.ref b] below meth c H locs (1000 + 2 * i) (20000 + 8 * i) (lw_Z below #[Value.ref b] s) (F0 m 344 ls []) := by
  obtain ⟨hx, hb, hml, hown, hts, hC, hnc, hst⟩ := id F
  have e4 : nI i + 4 = nI (i + 4) := nI_add i 4
  have hi1 : vp_in (nI i + 1) L := law_ix (j := 1) hL (by omega)
  have hi2 : vp_in (nI i + 2) L := law_ix (j := 2) hL (by omega)
  have hi3 : vp_in (nI i + 3) L := law_ix (j := 3) hL (by omega)
  have hroom : ∀ mc : Nat, mc ≤ 5 → i + 4 ≤ L → (1000 + 2 * i) + mc ≤ room_1.cells := fun mc h1 h2 => by show _ ≤ 633173; omega
  have hroos : ∀ ms : Nat, ms ≤ 30 → i + 4 ≤ L → (20000 + 8 * i) + ms ≤ room_1.slots := fun ms h1 h2 => by show _ ≤ 7196550; omega
  obtain ⟨rv, σ1, k, v, σ2, hf1, hf2, hag, hth, hI2⟩ := PS.2.2.2.1 i (by omega) σ hI (xs (nI i + 1).toNatClampNeg) (xs (nI i + 2).toNatClampNeg) (xs (nI i + 3).toNatClampNeg)
  obtain ⟨lo1, hk, hlo⟩ := hag.o lo
  refine lv_aload_n hx hb dL_law_344 rfl (lv_at hl 1 rfl) ?_
  refine lv_aload_n hx hb dL_law_345 rfl (lv_at hl 0 rfl) ?_
  refine lv_iload hx hb dL_law_346 (lv_at hl 4 rfl) ?_
  refine lv_iconst (v := 1) hx hb dL_law_348 (by decide) ?_
  refine lv_iadd hx hb dL_law_349 ?_
  refine va_sld hx hb hX hbl hbA hS hi1 dL_law_350 ?_
  refine lv_aload_n hx hb dL_law_351 rfl (lv_at hl 0 rfl) ?_
  refine lv_iload hx hb dL_law_352 (lv_at hl 4 rfl) ?_
  refine lv_iconst (v := 2) hx hb dL_law_354 (by decide) ?_
  refine lv_iadd hx hb dL_law_355 ?_
  refine va_sld hx hb hX hbl hbA hS hi2 dL_law_356 ?_
  refine lv_aload_n hx hb dL_law_357 rfl (lv_at hl 0 rfl) ?_
  refine lv_iload hx hb dL_law_358 (lv_at hl 4 rfl) ?_
  refine lv_iconst (v := 3) hx hb dL_law_360 (by decide) ?_
  refine lv_iadd hx hb dL_law_361 ?_
  refine va_sld hx hb hX hbl hbA hS hi3 dL_law_362 ?_
  refine lv_aload_n hx hb dL_law_363 rfl (lv_at hl 3 rfl) ?_
  refine xHl F (h_hour hf1 hk) tk_332 tk_330 tk_331 tk_0 rfl 5 (by decide +kernel) rfl ⟨Nat.le_of_ble_eq_true rfl, Nat.le_of_ble_eq_true rfl⟩ hP hS hl.1 rfl (Nat.le_of_ble_eq_true rfl) dL_law_364 ⟨hroom _ (by decide) hi, hroos _ (by decide) hi⟩ (fun H locs hP hS => ?_)
  replace hP : va_P (gD G) vwCl (wld G lo1 σ1) H := hP
  refine lv_istore (lv' := [(5, .int k), (0, .ref b), (1, .ref (gA G 0)), (2, .ref (gA G 8)), (3, .ref (gA G 25)), (4, .int (nI i))]) hx hb dL_law_367 hl (by decide) rfl (fun ls hl => ?_)
  refine lv_aload_n hx hb dL_law_369 rfl (lv_at hl 3 rfl) ?_
  refine lv_aload_n hx hb dL_law_370 rfl (lv_at hl 1 rfl) ?_
  refine lv_iload hx hb dL_law_371 (lv_at hl 5 rfl) ?_
  refine lv_iconst (v := 1) hx hb dL_law_373 (by decide) ?_
  refine lv_iadd hx hb dL_law_374 ?_
  refine va_sld hx hb hX hbl hbA hS hi1 dL_law_375 ?_
  refine lv_aload_n hx hb dL_law_376 rfl (lv_at hl 1 rfl) ?_
  refine lv_iload hx hb dL_law_377 (lv_at hl 5 rfl) ?_
  refine lv_iconst (v := 2) hx hb dL_law_379 (by decide) ?_
  refine lv_iadd hx hb dL_law_380 ?_
  refine va_sld hx hb hX hbl hbA hS hi2 dL_law_381 ?_
  refine lv_aload_n hx hb dL_law_382 rfl (lv_at hl 1 rfl) ?_
  refine lv_iload hx hb dL_law_383 (lv_at hl 5 rfl) ?_
  refine lv_iconst (v := 3) hx hb dL_law_385 (by decide) ?_
  refine lv_iadd hx hb dL_law_386 ?_
  refine va_sld hx hb hX hbl hbA hS hi3 dL_law_387 ?_
  refine xVl F (c_X4_hour hf2) rfl tk_655 tk_652 tk_653 tk_654 tk_6 rfl 3 (by decide +kernel) rfl ⟨Nat.le_of_ble_eq_true rfl, Nat.le_of_ble_eq_true rfl⟩ hP hS (kd_k kdc_8 (by decide)) (wc4 kdc_8) rfl hl.1 rfl (Nat.le_of_ble_eq_true rfl) dL_law_388 ⟨by show (1000 + 2 * i + 4) + 0 ≤ 633173; omega, by show (20000 + 8 * i + 24) + 0 ≤ 7196550; omega⟩ (fun H locs hP hS => ?_)
  replace hP : va_P (gD G) vwCl (wld G lo1 σ2) H := hP
  refine W.eq (g2 := F0 m 391 ls [.int v]) rfl ?_
  refine lv_istore (lv' := [(6, .int v), (5, .int k), (0, .ref b), (1, .ref (gA G 0)), (2, .ref (gA G 8)), (3, .ref (gA G 25)), (4, .int (nI i))]) hx hb dL_law_391 hl (by decide) rfl (fun ls hl => ?_)
  refine lv_aload_n hx hb dL_law_393 rfl (lv_at hl 4 rfl) ?_
  refine xVl F (c_X4_thrown (rfl : f_X4_thrown σ2 = some (.inl (some (.inl (σ2 8 0)))))) rfl tk_624 tk_621 tk_622 tk_623 tk_6 rfl 0 (by decide +kernel) rfl ⟨Nat.le_of_ble_eq_true rfl, Nat.le_of_ble_eq_true rfl⟩ hP hS (kd_k kdc_8 (by decide)) (wc4 kdc_8) rfl hl.1 rfl (Nat.le_of_ble_eq_true rfl) dL_law_394 ⟨by show ((1000 + 2 * i + 4) + 0) + 0 ≤ 633173; omega, by show ((20000 + 8 * i + 24) + 0) + 0 ≤ 7196550; omega⟩ (fun H locs hP hS => ?_)
  replace hP : va_P (gD G) vwCl (wld G lo1 σ2) H := hP
  refine W.eq (g2 := F0 m 397 ls [.int (σ2 8 0)]) rfl ?_
  refine lv_iload hx hb dL_law_397 (lv_at hl 1 rfl) ?_
  refine lv_icmp_eq (tgt := 404) hx hb dL_law_399 (by decide) (fun b1 => ?_) (fun b1 => ?_)
  rotate_left
  · exact absurd hth b1
  refine lv_iload hx hb dL_law_404 (lv_at hl 1 rfl) ?_
  refine lv_if_ne (tgt := 421) hx hb dL_law_406 (by decide) (fun b2 => ?_) (fun b2 => ?_)
  · refine lv_goto (tgt := 1248) hx hb dL_law_421 (by decide) ?_
    refine lv_iinc (v := (nI i + 4)) (lv' := [(4, .int (nI i + 4)), (6, .int v), (5, .int k), (0, .ref b), (1, .ref (gA G 0)), (2, .ref (gA G 8)), (3, .ref (gA G 25))]) hx hb dL_law_1248 hl (k := 6) rfl rfl (by decide) rfl (fun ls hl => ?_)
    rw [e4] at hl
    refine lv_goto (tgt := 33) hx hb dL_law_1251 (by decide) ?_
    refine W.widen (k := 1000 + 2 * (i + 4)) (n := 20000 + 8 * (i + 4)) (by omega) (by omega) ?_
    exact ih (i + 4) lo1 σ2 (by omega) (by omega) hI2 _ _ hP hS _ (lv_sub hl [3, 4, 5, 6, 0] rfl)
  · refine lv_aload_n hx hb dL_law_409 rfl (lv_at hl 5 rfl) ?_
    refine lv_iconst (v := 0) hx hb dL_law_410 (by decide) ?_
    refine xLl F hP dL_law_411 ?_
    refine lv_iload hx hb dL_law_412 (lv_at hl 0 rfl) ?_
    refine lv_i2l (v := v.toInt64) hx hb dL_law_414 rfl ?_
    refine W.lcmp hx hb dL_law_415 ?_
    refine lv_if_eq (tgt := 421) hx hb dL_law_416 (by decide) (fun b3 => ?_) (fun b3 => absurd ((lg_cmp_eq _ _).mpr (hlo b2)) b3)
    refine lv_goto (tgt := 1248) hx hb dL_law_421 (by decide) ?_
    refine lv_iinc (v := (nI i + 4)) (lv' := [(4, .int (nI i + 4)), (6, .int v), (5, .int k), (0, .ref b), (1, .ref (gA G 0)), (2, .ref (gA G 8)), (3, .ref (gA G 25))]) hx hb dL_law_1248 hl (k := 6) rfl rfl (by decide) rfl (fun ls hl => ?_)
    rw [e4] at hl
    refine lv_goto (tgt := 33) hx hb dL_law_1251 (by decide) ?_
    refine W.widen (k := 1000 + 2 * (i + 4)) (n := 20000 + 8 * (i + 4)) (by omega) (by omega) ?_
    exact ih (i + 4) lo1 σ2 (by omega) (by omega) hI2 _ _ hP hS _ (lv_sub hl [3, 4, 5, 6, 0] rfl)
set_option maxHeartbeats 4000000 in
set_option maxRecDepth 100000 in
theorem law_stock {p : Program} {l : Launch} {e : Env} {s : State} {m : MethodId} {below : List Frame} {meth : Method} {c : Code} {b L : Nat} {xs : Nat → Int32} {G : GT} {Inv : Nat → St → Prop} (PS : PSall Inv) (F : Fl p l s #[Value.ref b] m c G) (hX : va_X b L xs s s.heap) (hbl : b < s.heap.size) (hbA : ¬ gF G b) (hL : L ≤ 2049) {i : Nat} (hi : i + 4 ≤ L) {lo : Nat → Int64} {σ : St} (hI : Inv i σ) {H : Heap} {locs : List Loc} (hP : va_P (gD G) vwCl (wld G lo σ) H) (hS : va_S (gF G) s.heap H locs) {ls : Array Slot} (hl : lv_has ls 7 [(0, .ref b), (1, .ref (gA G 0)), (2, .ref (gA G 8)), (3, .ref (gA G 25)), (4, .int (nI i))])
    (ih : ∀ (j : Nat) (lo : Nat → Int64) (σ : St), j = i + 4 → j ≤ L → Inv j σ → ∀ (H : Heap) (locs : List Loc), va_P (gD G) vwCl (wld G lo σ) H → va_S (gF G) s.heap H locs → ∀ ls : Array Slot, lv_has ls 7 [(0, .ref b), (1, .ref (gA G 0)), (2, .ref (gA G 8)), (3, .ref (gA G 25)), (4, .int (nI j))] → W p l e room_1 s m #[Value.ref b] below meth c H locs (1000 + 2 * j) (20000 + 8 * j) (lw_Z below #[Value.ref b] s) (F0 m 33 ls [])) :
    W p l e room_1 s m #[Value.ref b] below meth c H locs (1000 + 2 * i) (20000 + 8 * i) (lw_Z below #[Value.ref b] s) (F0 m 424 ls []) := by
  obtain ⟨hx, hb, hml, hown, hts, hC, hnc, hst⟩ := id F
  have e4 : nI i + 4 = nI (i + 4) := nI_add i 4
  have hi1 : vp_in (nI i + 1) L := law_ix (j := 1) hL (by omega)
  have hi2 : vp_in (nI i + 2) L := law_ix (j := 2) hL (by omega)
  have hroom : ∀ mc : Nat, mc ≤ 5 → i + 4 ≤ L → (1000 + 2 * i) + mc ≤ room_1.cells := fun mc h1 h2 => by show _ ≤ 633173; omega
  have hroos : ∀ ms : Nat, ms ≤ 30 → i + 4 ≤ L → (20000 + 8 * i) + ms ≤ room_1.slots := fun ms h1 h2 => by show _ ≤ 7196550; omega
  obtain ⟨rv, σ1, k, σ2, hf1, hf2, hag, hth, hI2⟩ := PS.2.2.2.2.1 i (by omega) σ hI (xs (nI i + 1).toNatClampNeg) (xs (nI i + 2).toNatClampNeg)
  have hk := hag.o lo
  refine lv_aload_n hx hb dL_law_424 rfl (lv_at hl 1 rfl) ?_
  refine lv_aload_n hx hb dL_law_425 rfl (lv_at hl 0 rfl) ?_
  refine lv_iload hx hb dL_law_426 (lv_at hl 4 rfl) ?_
  refine lv_iconst (v := 1) hx hb dL_law_428 (by decide) ?_
  refine lv_iadd hx hb dL_law_429 ?_
  refine va_sld hx hb hX hbl hbA hS hi1 dL_law_430 ?_
  refine lv_aload_n hx hb dL_law_431 rfl (lv_at hl 0 rfl) ?_
  refine lv_iload hx hb dL_law_432 (lv_at hl 4 rfl) ?_
  refine lv_iconst (v := 2) hx hb dL_law_434 (by decide) ?_
  refine lv_iadd hx hb dL_law_435 ?_
  refine va_sld hx hb hX hbl hbA hS hi2 dL_law_436 ?_
  refine xHl F (h_stock hf1 hk) tk_348 tk_346 tk_347 tk_0 rfl 3 (by decide +kernel) rfl ⟨Nat.le_of_ble_eq_true rfl, Nat.le_of_ble_eq_true rfl⟩ hP hS hl.1 rfl (Nat.le_of_ble_eq_true rfl) dL_law_437 ⟨hroom _ (by decide) hi, hroos _ (by decide) hi⟩ (fun H locs hP hS => ?_)
  replace hP : va_P (gD G) vwCl (wld G lo σ1) H := hP
  refine lv_istore (lv' := [(5, .int k), (0, .ref b), (1, .ref (gA G 0)), (2, .ref (gA G 8)), (3, .ref (gA G 25)), (4, .int (nI i))]) hx hb dL_law_440 hl (by decide) rfl (fun ls hl => ?_)
  refine lv_aload_n hx hb dL_law_442 rfl (lv_at hl 3 rfl) ?_
  refine lv_aload_n hx hb dL_law_443 rfl (lv_at hl 1 rfl) ?_
  refine lv_iload hx hb dL_law_444 (lv_at hl 5 rfl) ?_
  refine lv_iconst (v := 1) hx hb dL_law_446 (by decide) ?_
  refine lv_iadd hx hb dL_law_447 ?_
  refine va_sld hx hb hX hbl hbA hS hi1 dL_law_448 ?_
  refine lv_aload_n hx hb dL_law_449 rfl (lv_at hl 1 rfl) ?_
  refine lv_iload hx hb dL_law_450 (lv_at hl 5 rfl) ?_
  refine lv_iconst (v := 2) hx hb dL_law_452 (by decide) ?_
  refine lv_iadd hx hb dL_law_453 ?_
  refine va_sld hx hb hX hbl hbA hS hi2 dL_law_454 ?_
  refine xVl F (c_X4_stock hf2) rfl tk_659 tk_656 tk_657 tk_658 tk_6 rfl 2 (by decide +kernel) rfl ⟨Nat.le_of_ble_eq_true rfl, Nat.le_of_ble_eq_true rfl⟩ hP hS (kd_k kdc_8 (by decide)) (wc4 kdc_8) rfl hl.1 rfl (Nat.le_of_ble_eq_true rfl) dL_law_455 ⟨by show (1000 + 2 * i + 2) + 0 ≤ 633173; omega, by show (20000 + 8 * i + 12) + 0 ≤ 7196550; omega⟩ (fun H locs hP hS => ?_)
  replace hP : va_P (gD G) vwCl (wld G lo σ2) H := hP
  refine W.eq (g2 := F0 m 458 ls []) rfl ?_
  refine lv_aload_n hx hb dL_law_458 rfl (lv_at hl 3 rfl) ?_
  refine xVl F (c_X4_thrown (rfl : f_X4_thrown σ2 = some (.inl (some (.inl (σ2 8 0)))))) rfl tk_624 tk_621 tk_622 tk_623 tk_6 rfl 0 (by decide +kernel) rfl ⟨Nat.le_of_ble_eq_true rfl, Nat.le_of_ble_eq_true rfl⟩ hP hS (kd_k kdc_8 (by decide)) (wc4 kdc_8) rfl hl.1 rfl (Nat.le_of_ble_eq_true rfl) dL_law_459 ⟨by show ((1000 + 2 * i + 2) + 0) + 0 ≤ 633173; omega, by show ((20000 + 8 * i + 12) + 0) + 0 ≤ 7196550; omega⟩ (fun H locs hP hS => ?_)
  replace hP : va_P (gD G) vwCl (wld G lo σ2) H := hP
  refine W.eq (g2 := F0 m 462 ls [.int (σ2 8 0)]) rfl ?_
  refine lv_iload hx hb dL_law_462 (lv_at hl 0 rfl) ?_
  refine lv_icmp_eq (tgt := 469) hx hb dL_law_464 (by decide) (fun b1 => ?_) (fun b1 => ?_)
  rotate_left
  · exact absurd hth b1
  refine lv_goto (tgt := 1248) hx hb dL_law_469 (by decide) ?_
  refine lv_iinc (v := (nI i + 4)) (lv' := [(4, .int (nI i + 4)), (5, .int k), (0, .ref b), (1, .ref (gA G 0)), (2, .ref (gA G 8)), (3, .ref (gA G 25))]) hx hb dL_law_1248 hl (k := 5) rfl rfl (by decide) rfl (fun ls hl => ?_)
  rw [e4] at hl
  refine lv_goto (tgt := 33) hx hb dL_law_1251 (by decide) ?_
  refine W.widen (k := 1000 + 2 * (i + 4)) (n := 20000 + 8 * (i + 4)) (by omega) (by omega) ?_
  exact ih (i + 4) lo σ2 (by omega) (by omega) hI2 _ _ hP hS _ (lv_sub hl [2, 3, 4, 5, 0] rfl)
set_option maxHeartbeats 4000000 in
set_option maxRecDepth 100000 in
theorem law_plan {p : Program} {l : Launch} {e : Env} {s : State} {m : MethodId} {below : List Frame} {meth : Method} {c : Code} {b L : Nat} {xs : Nat → Int32} {G : GT} {Inv : Nat → St → Prop} (PS : PSall Inv) (F : Fl p l s #[Value.ref b] m c G) (hX : va_X b L xs s s.heap) (hbl : b < s.heap.size) (hbA : ¬ gF G b) (hL : L ≤ 2049) {i : Nat} (hi : i + 4 ≤ L) {lo : Nat → Int64} {σ : St} (hI : Inv i σ) {H : Heap} {locs : List Loc} (hP : va_P (gD G) vwCl (wld G lo σ) H) (hS : va_S (gF G) s.heap H locs) {ls : Array Slot} (hl : lv_has ls 7 [(0, .ref b), (1, .ref (gA G 0)), (2, .ref (gA G 8)), (3, .ref (gA G 25)), (4, .int (nI i))])
    (ih : ∀ (j : Nat) (lo : Nat → Int64) (σ : St), j = i + 4 → j ≤ L → Inv j σ → ∀ (H : Heap) (locs : List Loc), va_P (gD G) vwCl (wld G lo σ) H → va_S (gF G) s.heap H locs → ∀ ls : Array Slot, lv_has ls 7 [(0, .ref b), (1, .ref (gA G 0)), (2, .ref (gA G 8)), (3, .ref (gA G 25)), (4, .int (nI j))] → W p l e room_1 s m #[Value.ref b] below meth c H locs (1000 + 2 * j) (20000 + 8 * j) (lw_Z below #[Value.ref b] s) (F0 m 33 ls [])) :
    W p l e room_1 s m #[Value.ref b] below meth c H locs (1000 + 2 * i) (20000 + 8 * i) (lw_Z below #[Value.ref b] s) (F0 m 472 ls []) := by
  obtain ⟨hx, hb, hml, hown, hts, hC, hnc, hst⟩ := id F
  have e4 : nI i + 4 = nI (i + 4) := nI_add i 4
  have hroom : ∀ mc : Nat, mc ≤ 5 → i + 4 ≤ L → (1000 + 2 * i) + mc ≤ room_1.cells := fun mc h1 h2 => by show _ ≤ 633173; omega
  have hroos : ∀ ms : Nat, ms ≤ 30 → i + 4 ≤ L → (20000 + 8 * i) + ms ≤ room_1.slots := fun ms h1 h2 => by show _ ≤ 7196550; omega
  obtain ⟨rv, σ1, k, v, σ2, hf1, hf2, hag, hth, hI2⟩ := PS.2.2.2.2.2.1 i (by omega) σ hI 
  obtain ⟨lo1, hk, hlo⟩ := hag.o lo
  refine lv_aload_n hx hb dL_law_472 rfl (lv_at hl 1 rfl) ?_
  refine lv_aload_n hx hb dL_law_473 rfl (lv_at hl 3 rfl) ?_
  refine xHl F (h_plan hf1 hk) tk_355 tk_353 tk_354 tk_0 rfl 2 (by decide +kernel) rfl ⟨Nat.le_of_ble_eq_true rfl, Nat.le_of_ble_eq_true rfl⟩ hP hS hl.1 rfl (Nat.le_of_ble_eq_true rfl) dL_law_474 ⟨hroom _ (by decide) hi, hroos _ (by decide) hi⟩ (fun H locs hP hS => ?_)
  replace hP : va_P (gD G) vwCl (wld G lo1 σ1) H := hP
  refine lv_istore (lv' := [(5, .int k), (0, .ref b), (1, .ref (gA G 0)), (2, .ref (gA G 8)), (3, .ref (gA G 25)), (4, .int (nI i))]) hx hb dL_law_477 hl (by decide) rfl (fun ls hl => ?_)
  refine lv_aload_n hx hb dL_law_479 rfl (lv_at hl 3 rfl) ?_
  refine xVl F (c_X4_plan hf2) rfl tk_663 tk_660 tk_661 tk_662 tk_6 rfl 0 (by decide +kernel) rfl ⟨Nat.le_of_ble_eq_true rfl, Nat.le_of_ble_eq_true rfl⟩ hP hS (kd_k kdc_8 (by decide)) (wc4 kdc_8) rfl hl.1 rfl (Nat.le_of_ble_eq_true rfl) dL_law_480 ⟨by show (1000 + 2 * i + 1) + 0 ≤ 633173; omega, by show (20000 + 8 * i + 6) + 0 ≤ 7196550; omega⟩ (fun H locs hP hS => ?_)
  replace hP : va_P (gD G) vwCl (wld G lo1 σ2) H := hP
  refine W.eq (g2 := F0 m 483 ls [.int v]) rfl ?_
  refine lv_istore (lv' := [(6, .int v), (5, .int k), (0, .ref b), (1, .ref (gA G 0)), (2, .ref (gA G 8)), (3, .ref (gA G 25)), (4, .int (nI i))]) hx hb dL_law_483 hl (by decide) rfl (fun ls hl => ?_)
  refine lv_aload_n hx hb dL_law_485 rfl (lv_at hl 4 rfl) ?_
  refine xVl F (c_X4_thrown (rfl : f_X4_thrown σ2 = some (.inl (some (.inl (σ2 8 0)))))) rfl tk_624 tk_621 tk_622 tk_623 tk_6 rfl 0 (by decide +kernel) rfl ⟨Nat.le_of_ble_eq_true rfl, Nat.le_of_ble_eq_true rfl⟩ hP hS (kd_k kdc_8 (by decide)) (wc4 kdc_8) rfl hl.1 rfl (Nat.le_of_ble_eq_true rfl) dL_law_486 ⟨by show ((1000 + 2 * i + 1) + 0) + 0 ≤ 633173; omega, by show ((20000 + 8 * i + 6) + 0) + 0 ≤ 7196550; omega⟩ (fun H locs hP hS => ?_)
  replace hP : va_P (gD G) vwCl (wld G lo1 σ2) H := hP
  refine W.eq (g2 := F0 m 489 ls [.int (σ2 8 0)]) rfl ?_
  refine lv_iload hx hb dL_law_489 (lv_at hl 1 rfl) ?_
  refine lv_icmp_eq (tgt := 496) hx hb dL_law_491 (by decide) (fun b1 => ?_) (fun b1 => ?_)
  rotate_left
  · exact absurd hth b1
  refine lv_iload hx hb dL_law_496 (lv_at hl 1 rfl) ?_
  refine lv_if_ne (tgt := 513) hx hb dL_law_498 (by decide) (fun b2 => ?_) (fun b2 => ?_)
  · refine lv_goto (tgt := 1248) hx hb dL_law_513 (by decide) ?_
    refine lv_iinc (v := (nI i + 4)) (lv' := [(4, .int (nI i + 4)), (6, .int v), (5, .int k), (0, .ref b), (1, .ref (gA G 0)), (2, .ref (gA G 8)), (3, .ref (gA G 25))]) hx hb dL_law_1248 hl (k := 6) rfl rfl (by decide) rfl (fun ls hl => ?_)
    rw [e4] at hl
    refine lv_goto (tgt := 33) hx hb dL_law_1251 (by decide) ?_
    refine W.widen (k := 1000 + 2 * (i + 4)) (n := 20000 + 8 * (i + 4)) (by omega) (by omega) ?_
    exact ih (i + 4) lo1 σ2 (by omega) (by omega) hI2 _ _ hP hS _ (lv_sub hl [3, 4, 5, 6, 0] rfl)
  · refine lv_aload_n hx hb dL_law_501 rfl (lv_at hl 5 rfl) ?_
    refine lv_iconst (v := 0) hx hb dL_law_502 (by decide) ?_
    refine xLl F hP dL_law_503 ?_
    refine lv_iload hx hb dL_law_504 (lv_at hl 0 rfl) ?_
    refine lv_i2l (v := v.toInt64) hx hb dL_law_506 rfl ?_
    refine W.lcmp hx hb dL_law_507 ?_
    refine lv_if_eq (tgt := 513) hx hb dL_law_508 (by decide) (fun b3 => ?_) (fun b3 => absurd ((lg_cmp_eq _ _).mpr (hlo b2)) b3)
    refine lv_goto (tgt := 1248) hx hb dL_law_513 (by decide) ?_
    refine lv_iinc (v := (nI i + 4)) (lv' := [(4, .int (nI i + 4)), (6, .int v), (5, .int k), (0, .ref b), (1, .ref (gA G 0)), (2, .ref (gA G 8)), (3, .ref (gA G 25))]) hx hb dL_law_1248 hl (k := 6) rfl rfl (by decide) rfl (fun ls hl => ?_)
    rw [e4] at hl
    refine lv_goto (tgt := 33) hx hb dL_law_1251 (by decide) ?_
    refine W.widen (k := 1000 + 2 * (i + 4)) (n := 20000 + 8 * (i + 4)) (by omega) (by omega) ?_
    exact ih (i + 4) lo1 σ2 (by omega) (by omega) hI2 _ _ hP hS _ (lv_sub hl [3, 4, 5, 6, 0] rfl)
set_option maxHeartbeats 4000000 in
set_option maxRecDepth 100000 in
theorem law_wave {p : Program} {l : Launch} {e : Env} {s : State} {m : MethodId} {below : List Frame} {meth : Method} {c : Code} {b L : Nat} {xs : Nat → Int32} {G : GT} {Inv : Nat → St → Prop} (PS : PSall Inv) (F : Fl p l s #[Value.ref b] m c G) (hX : va_X b L xs s s.heap) (hbl : b < s.heap.size) (hbA : ¬ gF G b) (hL : L ≤ 2049) {i : Nat} (hi : i + 4 ≤ L) {lo : Nat → Int64} {σ : St} (hI : Inv i σ) {H : Heap} {locs : List Loc} (hP : va_P (gD G) vwCl (wld G lo σ) H) (hS : va_S (gF G) s.heap H locs) {ls : Array Slot} (hl : lv_has ls 7 [(0, .ref b), (1, .ref (gA G 0)), (2, .ref (gA G 8)), (3, .ref (gA G 25)), (4, .int (nI i))])
    (ih : ∀ (j : Nat) (lo : Nat → Int64) (σ : St), j = i + 4 → j ≤ L → Inv j σ → ∀ (H : Heap) (locs : List Loc), va_P (gD G) vwCl (wld G lo σ) H → va_S (gF G) s.heap H locs → ∀ ls : Array Slot, lv_has ls 7 [(0, .ref b), (1, .ref (gA G 0)), (2, .ref (gA G 8)), (3, .ref (gA G 25)), (4, .int (nI j))] → W p l e room_1 s m #[Value.ref b] below meth c H locs (1000 + 2 * j) (20000 + 8 * j) (lw_Z below #[Value.ref b] s) (F0 m 33 ls [])) :
    W p l e room_1 s m #[Value.ref b] below meth c H locs (1000 + 2 * i) (20000 + 8 * i) (lw_Z below #[Value.ref b] s) (F0 m 516 ls []) := by
  obtain ⟨hx, hb, hml, hown, hts, hC, hnc, hst⟩ := id F
  have e4 : nI i + 4 = nI (i + 4) := nI_add i 4
  have hi1 : vp_in (nI i + 1) L := law_ix (j := 1) hL (by omega)
  have hroom : ∀ mc : Nat, mc ≤ 5 → i + 4 ≤ L → (1000 + 2 * i) + mc ≤ room_1.cells := fun mc h1 h2 => by show _ ≤ 633173; omega
  have hroos : ∀ ms : Nat, ms ≤ 30 → i + 4 ≤ L → (20000 + 8 * i) + ms ≤ room_1.slots := fun ms h1 h2 => by show _ ≤ 7196550; omega
  obtain ⟨rv, k, v, σ2, hf1, hf2, hag, hth, hI2⟩ := PS.2.2.2.2.2.2.1 i (by omega) σ hI (xs (nI i + 1).toNatClampNeg)
  obtain ⟨lo1, hk, hlo⟩ := hag.o lo
  refine lv_aload_n hx hb dL_law_516 rfl (lv_at hl 1 rfl) ?_
  refine lv_aload_n hx hb dL_law_517 rfl (lv_at hl 0 rfl) ?_
  refine lv_iload hx hb dL_law_518 (lv_at hl 4 rfl) ?_
  refine lv_iconst (v := 1) hx hb dL_law_520 (by decide) ?_
  refine lv_iadd hx hb dL_law_521 ?_
  refine va_sld hx hb hX hbl hbA hS hi1 dL_law_522 ?_
  refine lv_aload_n hx hb dL_law_523 rfl (lv_at hl 3 rfl) ?_
  refine xHl F (h_wave hf1 hk) tk_403 tk_401 tk_402 tk_0 rfl 3 (by decide +kernel) rfl ⟨Nat.le_of_ble_eq_true rfl, Nat.le_of_ble_eq_true rfl⟩ hP hS hl.1 rfl (Nat.le_of_ble_eq_true rfl) dL_law_524 ⟨hroom _ (by decide) hi, hroos _ (by decide) hi⟩ (fun H locs hP hS => ?_)
  replace hP : va_P (gD G) vwCl (wld G lo1 σ) H := hP
  refine lv_istore (lv' := [(5, .int k), (0, .ref b), (1, .ref (gA G 0)), (2, .ref (gA G 8)), (3, .ref (gA G 25)), (4, .int (nI i))]) hx hb dL_law_527 hl (by decide) rfl (fun ls hl => ?_)
  refine lv_aload_n hx hb dL_law_529 rfl (lv_at hl 3 rfl) ?_
  refine lv_aload_n hx hb dL_law_530 rfl (lv_at hl 1 rfl) ?_
  refine lv_iload hx hb dL_law_531 (lv_at hl 5 rfl) ?_
  refine lv_iconst (v := 1) hx hb dL_law_533 (by decide) ?_
  refine lv_iadd hx hb dL_law_534 ?_
  refine va_sld hx hb hX hbl hbA hS hi1 dL_law_535 ?_
  refine xVl F (c_X4_wave hf2) rfl tk_703 tk_700 tk_701 tk_702 tk_6 rfl 1 (by decide +kernel) rfl ⟨Nat.le_of_ble_eq_true rfl, Nat.le_of_ble_eq_true rfl⟩ hP hS (kd_k kdc_8 (by decide)) (wc4 kdc_8) rfl hl.1 rfl (Nat.le_of_ble_eq_true rfl) dL_law_536 ⟨by show (1000 + 2 * i + 1) + 0 ≤ 633173; omega, by show (20000 + 8 * i + 6) + 0 ≤ 7196550; omega⟩ (fun H locs hP hS => ?_)
  replace hP : va_P (gD G) vwCl (wld G lo1 σ2) H := hP
  refine W.eq (g2 := F0 m 539 ls [.int v]) rfl ?_
  refine lv_istore (lv' := [(6, .int v), (5, .int k), (0, .ref b), (1, .ref (gA G 0)), (2, .ref (gA G 8)), (3, .ref (gA G 25)), (4, .int (nI i))]) hx hb dL_law_539 hl (by decide) rfl (fun ls hl => ?_)
  refine lv_aload_n hx hb dL_law_541 rfl (lv_at hl 4 rfl) ?_
  refine xVl F (c_X4_thrown (rfl : f_X4_thrown σ2 = some (.inl (some (.inl (σ2 8 0)))))) rfl tk_624 tk_621 tk_622 tk_623 tk_6 rfl 0 (by decide +kernel) rfl ⟨Nat.le_of_ble_eq_true rfl, Nat.le_of_ble_eq_true rfl⟩ hP hS (kd_k kdc_8 (by decide)) (wc4 kdc_8) rfl hl.1 rfl (Nat.le_of_ble_eq_true rfl) dL_law_542 ⟨by show ((1000 + 2 * i + 1) + 0) + 0 ≤ 633173; omega, by show ((20000 + 8 * i + 6) + 0) + 0 ≤ 7196550; omega⟩ (fun H locs hP hS => ?_)
  replace hP : va_P (gD G) vwCl (wld G lo1 σ2) H := hP
  refine W.eq (g2 := F0 m 545 ls [.int (σ2 8 0)]) rfl ?_
  refine lv_iload hx hb dL_law_545 (lv_at hl 1 rfl) ?_
  refine lv_icmp_eq (tgt := 552) hx hb dL_law_547 (by decide) (fun b1 => ?_) (fun b1 => ?_)
  rotate_left
  · exact absurd hth b1
  refine lv_iload hx hb dL_law_552 (lv_at hl 1 rfl) ?_
  refine lv_if_ne (tgt := 569) hx hb dL_law_554 (by decide) (fun b2 => ?_) (fun b2 => ?_)
  · refine lv_goto (tgt := 1248) hx hb dL_law_569 (by decide) ?_
    refine lv_iinc (v := (nI i + 4)) (lv' := [(4, .int (nI i + 4)), (6, .int v), (5, .int k), (0, .ref b), (1, .ref (gA G 0)), (2, .ref (gA G 8)), (3, .ref (gA G 25))]) hx hb dL_law_1248 hl (k := 6) rfl rfl (by decide) rfl (fun ls hl => ?_)
    rw [e4] at hl
    refine lv_goto (tgt := 33) hx hb dL_law_1251 (by decide) ?_
    refine W.widen (k := 1000 + 2 * (i + 4)) (n := 20000 + 8 * (i + 4)) (by omega) (by omega) ?_
    exact ih (i + 4) lo1 σ2 (by omega) (by omega) hI2 _ _ hP hS _ (lv_sub hl [3, 4, 5, 6, 0] rfl)
  · refine lv_aload_n hx hb dL_law_557 rfl (lv_at hl 5 rfl) ?_
    refine lv_iconst (v := 0) hx hb dL_law_558 (by decide) ?_
    refine xLl F hP dL_law_559 ?_
    refine lv_iload hx hb dL_law_560 (lv_at hl 0 rfl) ?_
    refine lv_i2l (v := v.toInt64) hx hb dL_law_562 rfl ?_
    refine W.lcmp hx hb dL_law_563 ?_
    refine lv_if_eq (tgt := 569) hx hb dL_law_564 (by decide) (fun b3 => ?_) (fun b3 => absurd ((lg_cmp_eq _ _).mpr (hlo b2)) b3)
    refine lv_goto (tgt := 1248) hx hb dL_law_569 (by decide) ?_
    refine lv_iinc (v := (nI i + 4)) (lv' := [(4, .int (nI i + 4)), (6, .int v), (5, .int k), (0, .ref b), (1, .ref (gA G 0)), (2, .ref (gA G 8)), (3, .ref (gA G 25))]) hx hb dL_law_1248 hl (k := 6) rfl rfl (by decide) rfl (fun ls hl => ?_)
    rw [e4] at hl
    refine lv_goto (tgt := 33) hx hb dL_law_1251 (by decide) ?_
    refine W.widen (k := 1000 + 2 * (i + 4)) (n := 20000 + 8 * (i + 4)) (by omega) (by omega) ?_
    exact ih (i + 4) lo1 σ2 (by omega) (by omega) hI2 _ _ hP hS _ (lv_sub hl [3, 4, 5, 6, 0] rfl)
set_option maxHeartbeats 4000000 in
set_option maxRecDepth 100000 in
theorem law_told {p : Program} {l : Launch} {e : Env} {s : State} {m : MethodId} {below : List Frame} {meth : Method} {c : Code} {b L : Nat} {xs : Nat → Int32} {G : GT} {Inv : Nat → St → Prop} (PS : PSall Inv) (F : Fl p l s #[Value.ref b] m c G) (hX : va_X b L xs s s.heap) (hbl : b < s.heap.size) (hbA : ¬ gF G b) (hL : L ≤ 2049) {i : Nat} (hi : i + 4 ≤ L) {lo : Nat → Int64} {σ : St} (hI : Inv i σ) {H : Heap} {locs : List Loc} (hP : va_P (gD G) vwCl (wld G lo σ) H) (hS : va_S (gF G) s.heap H locs) {ls : Array Slot} (hl : lv_has ls 7 [(0, .ref b), (1, .ref (gA G 0)), (2, .ref (gA G 8)), (3, .ref (gA G 25)), (4, .int (nI i))])
    (ih : ∀ (j : Nat) (lo : Nat → Int64) (σ : St), j = i + 4 → j ≤ L → Inv j σ → ∀ (H : Heap) (locs : List Loc), va_P (gD G) vwCl (wld G lo σ) H → va_S (gF G) s.heap H locs → ∀ ls : Array Slot, lv_has ls 7 [(0, .ref b), (1, .ref (gA G 0)), (2, .ref (gA G 8)), (3, .ref (gA G 25)), (4, .int (nI j))] → W p l e room_1 s m #[Value.ref b] below meth c H locs (1000 + 2 * j) (20000 + 8 * j) (lw_Z below #[Value.ref b] s) (F0 m 33 ls [])) :
    W p l e room_1 s m #[Value.ref b] below meth c H locs (1000 + 2 * i) (20000 + 8 * i) (lw_Z below #[Value.ref b] s) (F0 m 572 ls []) := by
  obtain ⟨hx, hb, hml, hown, hts, hC, hnc, hst⟩ := id F
  have e4 : nI i + 4 = nI (i + 4) := nI_add i 4
  have hi1 : vp_in (nI i + 1) L := law_ix (j := 1) hL (by omega)
  have hi2 : vp_in (nI i + 2) L := law_ix (j := 2) hL (by omega)
  have hroom : ∀ mc : Nat, mc ≤ 5 → i + 4 ≤ L → (1000 + 2 * i) + mc ≤ room_1.cells := fun mc h1 h2 => by show _ ≤ 633173; omega
  have hroos : ∀ ms : Nat, ms ≤ 30 → i + 4 ≤ L → (20000 + 8 * i) + ms ≤ room_1.slots := fun ms h1 h2 => by show _ ≤ 7196550; omega
  obtain ⟨rv, k, v, σ2, hf1, hf2, hag, hth, hI2⟩ := PS.2.2.2.2.2.2.2.1 i (by omega) σ hI (xs (nI i + 1).toNatClampNeg) (xs (nI i + 2).toNatClampNeg)
  obtain ⟨lo1, hk, hlo⟩ := hag.o lo
  refine lv_aload_n hx hb dL_law_572 rfl (lv_at hl 1 rfl) ?_
  refine lv_aload_n hx hb dL_law_573 rfl (lv_at hl 0 rfl) ?_
  refine lv_iload hx hb dL_law_574 (lv_at hl 4 rfl) ?_
  refine lv_iconst (v := 1) hx hb dL_law_576 (by decide) ?_
  refine lv_iadd hx hb dL_law_577 ?_
  refine va_sld hx hb hX hbl hbA hS hi1 dL_law_578 ?_
  refine lv_aload_n hx hb dL_law_579 rfl (lv_at hl 0 rfl) ?_
  refine lv_iload hx hb dL_law_580 (lv_at hl 4 rfl) ?_
  refine lv_iconst (v := 2) hx hb dL_law_582 (by decide) ?_
  refine lv_iadd hx hb dL_law_583 ?_
  refine va_sld hx hb hX hbl hbA hS hi2 dL_law_584 ?_
  refine lv_aload_n hx hb dL_law_585 rfl (lv_at hl 3 rfl) ?_
  refine xHl F (h_told hf1 hk) tk_410 tk_408 tk_409 tk_0 rfl 4 (by decide +kernel) rfl ⟨Nat.le_of_ble_eq_true rfl, Nat.le_of_ble_eq_true rfl⟩ hP hS hl.1 rfl (Nat.le_of_ble_eq_true rfl) dL_law_586 ⟨hroom _ (by decide) hi, hroos _ (by decide) hi⟩ (fun H locs hP hS => ?_)
  replace hP : va_P (gD G) vwCl (wld G lo1 σ) H := hP
  refine lv_istore (lv' := [(5, .int k), (0, .ref b), (1, .ref (gA G 0)), (2, .ref (gA G 8)), (3, .ref (gA G 25)), (4, .int (nI i))]) hx hb dL_law_589 hl (by decide) rfl (fun ls hl => ?_)
  refine lv_aload_n hx hb dL_law_591 rfl (lv_at hl 3 rfl) ?_
  refine lv_aload_n hx hb dL_law_592 rfl (lv_at hl 1 rfl) ?_
  refine lv_iload hx hb dL_law_593 (lv_at hl 5 rfl) ?_
  refine lv_iconst (v := 1) hx hb dL_law_595 (by decide) ?_
  refine lv_iadd hx hb dL_law_596 ?_
  refine va_sld hx hb hX hbl hbA hS hi1 dL_law_597 ?_
  refine lv_aload_n hx hb dL_law_598 rfl (lv_at hl 1 rfl) ?_
  refine lv_iload hx hb dL_law_599 (lv_at hl 5 rfl) ?_
  refine lv_iconst (v := 2) hx hb dL_law_601 (by decide) ?_
  refine lv_iadd hx hb dL_law_602 ?_
  refine va_sld hx hb hX hbl hbA hS hi2 dL_law_603 ?_
  refine xVl F (c_X4_told hf2) rfl tk_707 tk_704 tk_705 tk_706 tk_6 rfl 2 (by decide +kernel) rfl ⟨Nat.le_of_ble_eq_true rfl, Nat.le_of_ble_eq_true rfl⟩ hP hS (kd_k kdc_8 (by decide)) (wc4 kdc_8) rfl hl.1 rfl (Nat.le_of_ble_eq_true rfl) dL_law_604 ⟨by show (1000 + 2 * i + 2) + 0 ≤ 633173; omega, by show (20000 + 8 * i + 12) + 0 ≤ 7196550; omega⟩ (fun H locs hP hS => ?_)
  replace hP : va_P (gD G) vwCl (wld G lo1 σ2) H := hP
  refine W.eq (g2 := F0 m 607 ls [.int v]) rfl ?_
  refine lv_istore (lv' := [(6, .int v), (5, .int k), (0, .ref b), (1, .ref (gA G 0)), (2, .ref (gA G 8)), (3, .ref (gA G 25)), (4, .int (nI i))]) hx hb dL_law_607 hl (by decide) rfl (fun ls hl => ?_)
  refine lv_aload_n hx hb dL_law_609 rfl (lv_at hl 4 rfl) ?_
  refine xVl F (c_X4_thrown (rfl : f_X4_thrown σ2 = some (.inl (some (.inl (σ2 8 0)))))) rfl tk_624 tk_621 tk_622 tk_623 tk_6 rfl 0 (by decide +kernel) rfl ⟨Nat.le_of_ble_eq_true rfl, Nat.le_of_ble_eq_true rfl⟩ hP hS (kd_k kdc_8 (by decide)) (wc4 kdc_8) rfl hl.1 rfl (Nat.le_of_ble_eq_true rfl) dL_law_610 ⟨by show ((1000 + 2 * i + 2) + 0) + 0 ≤ 633173; omega, by show ((20000 + 8 * i + 12) + 0) + 0 ≤ 7196550; omega⟩ (fun H locs hP hS => ?_)
  replace hP : va_P (gD G) vwCl (wld G lo1 σ2) H := hP
  refine W.eq (g2 := F0 m 613 ls [.int (σ2 8 0)]) rfl ?_
  refine lv_iload hx hb dL_law_613 (lv_at hl 1 rfl) ?_
  refine lv_icmp_eq (tgt := 620) hx hb dL_law_615 (by decide) (fun b1 => ?_) (fun b1 => ?_)
  rotate_left
  · exact absurd hth b1
  refine lv_iload hx hb dL_law_620 (lv_at hl 1 rfl) ?_
  refine lv_if_ne (tgt := 637) hx hb dL_law_622 (by decide) (fun b2 => ?_) (fun b2 => ?_)
  · refine lv_goto (tgt := 1248) hx hb dL_law_637 (by decide) ?_
    refine lv_iinc (v := (nI i + 4)) (lv' := [(4, .int (nI i + 4)), (6, .int v), (5, .int k), (0, .ref b), (1, .ref (gA G 0)), (2, .ref (gA G 8)), (3, .ref (gA G 25))]) hx hb dL_law_1248 hl (k := 6) rfl rfl (by decide) rfl (fun ls hl => ?_)
    rw [e4] at hl
    refine lv_goto (tgt := 33) hx hb dL_law_1251 (by decide) ?_
    refine W.widen (k := 1000 + 2 * (i + 4)) (n := 20000 + 8 * (i + 4)) (by omega) (by omega) ?_
    exact ih (i + 4) lo1 σ2 (by omega) (by omega) hI2 _ _ hP hS _ (lv_sub hl [3, 4, 5, 6, 0] rfl)
  · refine lv_aload_n hx hb dL_law_625 rfl (lv_at hl 5 rfl) ?_
    refine lv_iconst (v := 0) hx hb dL_law_626 (by decide) ?_
    refine xLl F hP dL_law_627 ?_
    refine lv_iload hx hb dL_law_628 (lv_at hl 0 rfl) ?_
    refine lv_i2l (v := v.toInt64) hx hb dL_law_630 rfl ?_
    refine W.lcmp hx hb dL_law_631 ?_
    refine lv_if_eq (tgt := 637) hx hb dL_law_632 (by decide) (fun b3 => ?_) (fun b3 => absurd ((lg_cmp_eq _ _).mpr (hlo b2)) b3)
    refine lv_goto (tgt := 1248) hx hb dL_law_637 (by decide) ?_
    refine lv_iinc (v := (nI i + 4)) (lv' := [(4, .int (nI i + 4)), (6, .int v), (5, .int k), (0, .ref b), (1, .ref (gA G 0)), (2, .ref (gA G 8)), (3, .ref (gA G 25))]) hx hb dL_law_1248 hl (k := 6) rfl rfl (by decide) rfl (fun ls hl => ?_)
    rw [e4] at hl
    refine lv_goto (tgt := 33) hx hb dL_law_1251 (by decide) ?_
    refine W.widen (k := 1000 + 2 * (i + 4)) (n := 20000 + 8 * (i + 4)) (by omega) (by omega) ?_
    exact ih (i + 4) lo1 σ2 (by omega) (by omega) hI2 _ _ hP hS _ (lv_sub hl [3, 4, 5, 6, 0] rfl)
set_option maxHeartbeats 4000000 in
set_option maxRecDepth 100000 in
theorem law_member {p : Program} {l : Launch} {e : Env} {s : State} {m : MethodId} {below : List Frame} {meth : Method} {c : Code} {b L : Nat} {xs : Nat → Int32} {G : GT} {Inv : Nat → St → Prop} (PS : PSall Inv) (F : Fl p l s #[Value.ref b] m c G) (hX : va_X b L xs s s.heap) (hbl : b < s.heap.size) (hbA : ¬ gF G b) (hL : L ≤ 2049) {i : Nat} (hi : i + 4 ≤ L) {lo : Nat → Int64} {σ : St} (hI : Inv i σ) {H : Heap} {locs : List Loc} (hP : va_P (gD G) vwCl (wld G lo σ) H) (hS : va_S (gF G) s.heap H locs) {ls : Array Slot} (hl : lv_has ls 7 [(0, .ref b), (1, .ref (gA G 0)), (2, .ref (gA G 8)), (3, .ref (gA G 25)), (4, .int (nI i))])
    (ih : ∀ (j : Nat) (lo : Nat → Int64) (σ : St), j = i + 4 → j ≤ L → Inv j σ → ∀ (H : Heap) (locs : List Loc), va_P (gD G) vwCl (wld G lo σ) H → va_S (gF G) s.heap H locs → ∀ ls : Array Slot, lv_has ls 7 [(0, .ref b), (1, .ref (gA G 0)), (2, .ref (gA G 8)), (3, .ref (gA G 25)), (4, .int (nI j))] → W p l e room_1 s m #[Value.ref b] below meth c H locs (1000 + 2 * j) (20000 + 8 * j) (lw_Z below #[Value.ref b] s) (F0 m 33 ls [])) :
    W p l e room_1 s m #[Value.ref b] below meth c H locs (1000 + 2 * i) (20000 + 8 * i) (lw_Z below #[Value.ref b] s) (F0 m 640 ls []) := by
  obtain ⟨hx, hb, hml, hown, hts, hC, hnc, hst⟩ := id F
  have e4 : nI i + 4 = nI (i + 4) := nI_add i 4
  have hi1 : vp_in (nI i + 1) L := law_ix (j := 1) hL (by omega)
  have hi2 : vp_in (nI i + 2) L := law_ix (j := 2) hL (by omega)
  have hroom : ∀ mc : Nat, mc ≤ 5 → i + 4 ≤ L → (1000 + 2 * i) + mc ≤ room_1.cells := fun mc h1 h2 => by show _ ≤ 633173; omega
  have hroos : ∀ ms : Nat, ms ≤ 30 → i + 4 ≤ L → (20000 + 8 * i) + ms ≤ room_1.slots := fun ms h1 h2 => by show _ ≤ 7196550; omega
  obtain ⟨rv, k, v, σ2, hf1, hf2, hag, hth, hI2⟩ := PS.2.2.2.2.2.2.2.2.1 i (by omega) σ hI (xs (nI i + 1).toNatClampNeg) (xs (nI i + 2).toNatClampNeg)
  obtain ⟨lo1, hk, hlo⟩ := hag.o lo
  refine lv_aload_n hx hb dL_law_640 rfl (lv_at hl 1 rfl) ?_
  refine lv_aload_n hx hb dL_law_641 rfl (lv_at hl 0 rfl) ?_
  refine lv_iload hx hb dL_law_642 (lv_at hl 4 rfl) ?_
  refine lv_iconst (v := 1) hx hb dL_law_644 (by decide) ?_
  refine lv_iadd hx hb dL_law_645 ?_
  refine va_sld hx hb hX hbl hbA hS hi1 dL_law_646 ?_
  refine lv_aload_n hx hb dL_law_647 rfl (lv_at hl 0 rfl) ?_
  refine lv_iload hx hb dL_law_648 (lv_at hl 4 rfl) ?_
  refine lv_iconst (v := 2) hx hb dL_law_650 (by decide) ?_
  refine lv_iadd hx hb dL_law_651 ?_
  refine va_sld hx hb hX hbl hbA hS hi2 dL_law_652 ?_
  refine lv_aload_n hx hb dL_law_653 rfl (lv_at hl 3 rfl) ?_
  refine xHl F (h_member hf1 hk) tk_435 tk_433 tk_434 tk_0 rfl 4 (by decide +kernel) rfl ⟨Nat.le_of_ble_eq_true rfl, Nat.le_of_ble_eq_true rfl⟩ hP hS hl.1 rfl (Nat.le_of_ble_eq_true rfl) dL_law_654 ⟨hroom _ (by decide) hi, hroos _ (by decide) hi⟩ (fun H locs hP hS => ?_)
  replace hP : va_P (gD G) vwCl (wld G lo1 σ) H := hP
  refine lv_istore (lv' := [(5, .int k), (0, .ref b), (1, .ref (gA G 0)), (2, .ref (gA G 8)), (3, .ref (gA G 25)), (4, .int (nI i))]) hx hb dL_law_657 hl (by decide) rfl (fun ls hl => ?_)
  refine lv_aload_n hx hb dL_law_659 rfl (lv_at hl 3 rfl) ?_
  refine lv_aload_n hx hb dL_law_660 rfl (lv_at hl 1 rfl) ?_
  refine lv_iload hx hb dL_law_661 (lv_at hl 5 rfl) ?_
  refine lv_iconst (v := 1) hx hb dL_law_663 (by decide) ?_
  refine lv_iadd hx hb dL_law_664 ?_
  refine va_sld hx hb hX hbl hbA hS hi1 dL_law_665 ?_
  refine lv_aload_n hx hb dL_law_666 rfl (lv_at hl 1 rfl) ?_
  refine lv_iload hx hb dL_law_667 (lv_at hl 5 rfl) ?_
  refine lv_iconst (v := 2) hx hb dL_law_669 (by decide) ?_
  refine lv_iadd hx hb dL_law_670 ?_
  refine va_sld hx hb hX hbl hbA hS hi2 dL_law_671 ?_
  refine xVl F (c_X4_member hf2) rfl tk_735 tk_732 tk_733 tk_734 tk_6 rfl 2 (by decide +kernel) rfl ⟨Nat.le_of_ble_eq_true rfl, Nat.le_of_ble_eq_true rfl⟩ hP hS (kd_k kdc_8 (by decide)) (wc4 kdc_8) rfl hl.1 rfl (Nat.le_of_ble_eq_true rfl) dL_law_672 ⟨by show (1000 + 2 * i + 2) + 0 ≤ 633173; omega, by show (20000 + 8 * i + 12) + 0 ≤ 7196550; omega⟩ (fun H locs hP hS => ?_)
  replace hP : va_P (gD G) vwCl (wld G lo1 σ2) H := hP
  refine W.eq (g2 := F0 m 675 ls [.int v]) rfl ?_
  refine lv_istore (lv' := [(6, .int v), (5, .int k), (0, .ref b), (1, .ref (gA G 0)), (2, .ref (gA G 8)), (3, .ref (gA G 25)), (4, .int (nI i))]) hx hb dL_law_675 hl (by decide) rfl (fun ls hl => ?_)
  refine lv_aload_n hx hb dL_law_677 rfl (lv_at hl 4 rfl) ?_
  refine xVl F (c_X4_thrown (rfl : f_X4_thrown σ2 = some (.inl (some (.inl (σ2 8 0)))))) rfl tk_624 tk_621 tk_622 tk_623 tk_6 rfl 0 (by decide +kernel) rfl ⟨Nat.le_of_ble_eq_true rfl, Nat.le_of_ble_eq_true rfl⟩ hP hS (kd_k kdc_8 (by decide)) (wc4 kdc_8) rfl hl.1 rfl (Nat.le_of_ble_eq_true rfl) dL_law_678 ⟨by show ((1000 + 2 * i + 2) + 0) + 0 ≤ 633173; omega, by show ((20000 + 8 * i + 12) + 0) + 0 ≤ 7196550; omega⟩ (fun H locs hP hS => ?_)
  replace hP : va_P (gD G) vwCl (wld G lo1 σ2) H := hP
  refine W.eq (g2 := F0 m 681 ls [.int (σ2 8 0)]) rfl ?_
  refine lv_iload hx hb dL_law_681 (lv_at hl 1 rfl) ?_
  refine lv_icmp_eq (tgt := 688) hx hb dL_law_683 (by decide) (fun b1 => ?_) (fun b1 => ?_)
  rotate_left
  · exact absurd hth b1
  refine lv_iload hx hb dL_law_688 (lv_at hl 1 rfl) ?_
  refine lv_if_ne (tgt := 705) hx hb dL_law_690 (by decide) (fun b2 => ?_) (fun b2 => ?_)
  · refine lv_goto (tgt := 1248) hx hb dL_law_705 (by decide) ?_
    refine lv_iinc (v := (nI i + 4)) (lv' := [(4, .int (nI i + 4)), (6, .int v), (5, .int k), (0, .ref b), (1, .ref (gA G 0)), (2, .ref (gA G 8)), (3, .ref (gA G 25))]) hx hb dL_law_1248 hl (k := 6) rfl rfl (by decide) rfl (fun ls hl => ?_)
    rw [e4] at hl
    refine lv_goto (tgt := 33) hx hb dL_law_1251 (by decide) ?_
    refine W.widen (k := 1000 + 2 * (i + 4)) (n := 20000 + 8 * (i + 4)) (by omega) (by omega) ?_
    exact ih (i + 4) lo1 σ2 (by omega) (by omega) hI2 _ _ hP hS _ (lv_sub hl [3, 4, 5, 6, 0] rfl)
  · refine lv_aload_n hx hb dL_law_693 rfl (lv_at hl 5 rfl) ?_
    refine lv_iconst (v := 0) hx hb dL_law_694 (by decide) ?_
    refine xLl F hP dL_law_695 ?_
    refine lv_iload hx hb dL_law_696 (lv_at hl 0 rfl) ?_
    refine lv_i2l (v := v.toInt64) hx hb dL_law_698 rfl ?_
    refine W.lcmp hx hb dL_law_699 ?_
    refine lv_if_eq (tgt := 705) hx hb dL_law_700 (by decide) (fun b3 => ?_) (fun b3 => absurd ((lg_cmp_eq _ _).mpr (hlo b2)) b3)
    refine lv_goto (tgt := 1248) hx hb dL_law_705 (by decide) ?_
    refine lv_iinc (v := (nI i + 4)) (lv' := [(4, .int (nI i + 4)), (6, .int v), (5, .int k), (0, .ref b), (1, .ref (gA G 0)), (2, .ref (gA G 8)), (3, .ref (gA G 25))]) hx hb dL_law_1248 hl (k := 6) rfl rfl (by decide) rfl (fun ls hl => ?_)
    rw [e4] at hl
    refine lv_goto (tgt := 33) hx hb dL_law_1251 (by decide) ?_
    refine W.widen (k := 1000 + 2 * (i + 4)) (n := 20000 + 8 * (i + 4)) (by omega) (by omega) ?_
    exact ih (i + 4) lo1 σ2 (by omega) (by omega) hI2 _ _ hP hS _ (lv_sub hl [3, 4, 5, 6, 0] rfl)
set_option maxHeartbeats 4000000 in
set_option maxRecDepth 100000 in
theorem law_replenish {p : Program} {l : Launch} {e : Env} {s : State} {m : MethodId} {below : List Frame} {meth : Method} {c : Code} {b L : Nat} {xs : Nat → Int32} {G : GT} {Inv : Nat → St → Prop} (PS : PSall Inv) (F : Fl p l s #[Value.ref b] m c G) (hX : va_X b L xs s s.heap) (hbl : b < s.heap.size) (hbA : ¬ gF G b) (hL : L ≤ 2049) {i : Nat} (hi : i + 4 ≤ L) {lo : Nat → Int64} {σ : St} (hI : Inv i σ) {H : Heap} {locs : List Loc} (hP : va_P (gD G) vwCl (wld G lo σ) H) (hS : va_S (gF G) s.heap H locs) {ls : Array Slot} (hl : lv_has ls 7 [(0, .ref b), (1, .ref (gA G 0)), (2, .ref (gA G 8)), (3, .ref (gA G 25)), (4, .int (nI i))])
    (ih : ∀ (j : Nat) (lo : Nat → Int64) (σ : St), j = i + 4 → j ≤ L → Inv j σ → ∀ (H : Heap) (locs : List Loc), va_P (gD G) vwCl (wld G lo σ) H → va_S (gF G) s.heap H locs → ∀ ls : Array Slot, lv_has ls 7 [(0, .ref b), (1, .ref (gA G 0)), (2, .ref (gA G 8)), (3, .ref (gA G 25)), (4, .int (nI j))] → W p l e room_1 s m #[Value.ref b] below meth c H locs (1000 + 2 * j) (20000 + 8 * j) (lw_Z below #[Value.ref b] s) (F0 m 33 ls [])) :
    W p l e room_1 s m #[Value.ref b] below meth c H locs (1000 + 2 * i) (20000 + 8 * i) (lw_Z below #[Value.ref b] s) (F0 m 708 ls []) := by
  obtain ⟨hx, hb, hml, hown, hts, hC, hnc, hst⟩ := id F
  have e4 : nI i + 4 = nI (i + 4) := nI_add i 4
  have hi1 : vp_in (nI i + 1) L := law_ix (j := 1) hL (by omega)
  have hi2 : vp_in (nI i + 2) L := law_ix (j := 2) hL (by omega)
  have hroom : ∀ mc : Nat, mc ≤ 5 → i + 4 ≤ L → (1000 + 2 * i) + mc ≤ room_1.cells := fun mc h1 h2 => by show _ ≤ 633173; omega
  have hroos : ∀ ms : Nat, ms ≤ 30 → i + 4 ≤ L → (20000 + 8 * i) + ms ≤ room_1.slots := fun ms h1 h2 => by show _ ≤ 7196550; omega
  obtain ⟨rv, k, v, σ2, hf1, hf2, hag, hth, hI2⟩ := PS.2.2.2.2.2.2.2.2.2.1 i (by omega) σ hI (xs (nI i + 1).toNatClampNeg) (xs (nI i + 2).toNatClampNeg)
  obtain ⟨lo1, hk, hlo⟩ := hag.o lo
  refine lv_aload_n hx hb dL_law_708 rfl (lv_at hl 1 rfl) ?_
  refine lv_aload_n hx hb dL_law_709 rfl (lv_at hl 0 rfl) ?_
  refine lv_iload hx hb dL_law_710 (lv_at hl 4 rfl) ?_
  refine lv_iconst (v := 1) hx hb dL_law_712 (by decide) ?_
  refine lv_iadd hx hb dL_law_713 ?_
  refine va_sld hx hb hX hbl hbA hS hi1 dL_law_714 ?_
  refine lv_aload_n hx hb dL_law_715 rfl (lv_at hl 0 rfl) ?_
  refine lv_iload hx hb dL_law_716 (lv_at hl 4 rfl) ?_
  refine lv_iconst (v := 2) hx hb dL_law_718 (by decide) ?_
  refine lv_iadd hx hb dL_law_719 ?_
  refine va_sld hx hb hX hbl hbA hS hi2 dL_law_720 ?_
  refine lv_aload_n hx hb dL_law_721 rfl (lv_at hl 3 rfl) ?_
  refine xHl F (h_replenish hf1 hk) tk_443 tk_441 tk_442 tk_0 rfl 4 (by decide +kernel) rfl ⟨Nat.le_of_ble_eq_true rfl, Nat.le_of_ble_eq_true rfl⟩ hP hS hl.1 rfl (Nat.le_of_ble_eq_true rfl) dL_law_722 ⟨hroom _ (by decide) hi, hroos _ (by decide) hi⟩ (fun H locs hP hS => ?_)
  replace hP : va_P (gD G) vwCl (wld G lo1 σ) H := hP
  refine lv_istore (lv' := [(5, .int k), (0, .ref b), (1, .ref (gA G 0)), (2, .ref (gA G 8)), (3, .ref (gA G 25)), (4, .int (nI i))]) hx hb dL_law_725 hl (by decide) rfl (fun ls hl => ?_)
  refine lv_aload_n hx hb dL_law_727 rfl (lv_at hl 3 rfl) ?_
  refine lv_aload_n hx hb dL_law_728 rfl (lv_at hl 1 rfl) ?_
  refine lv_iload hx hb dL_law_729 (lv_at hl 5 rfl) ?_
  refine lv_iconst (v := 1) hx hb dL_law_731 (by decide) ?_
  refine lv_iadd hx hb dL_law_732 ?_
  refine va_sld hx hb hX hbl hbA hS hi1 dL_law_733 ?_
  refine lv_aload_n hx hb dL_law_734 rfl (lv_at hl 1 rfl) ?_
  refine lv_iload hx hb dL_law_735 (lv_at hl 5 rfl) ?_
  refine lv_iconst (v := 2) hx hb dL_law_737 (by decide) ?_
  refine lv_iadd hx hb dL_law_738 ?_
  refine va_sld hx hb hX hbl hbA hS hi2 dL_law_739 ?_
  refine xVl F (c_X4_replenish hf2) rfl tk_739 tk_736 tk_737 tk_738 tk_6 rfl 2 (by decide +kernel) rfl ⟨Nat.le_of_ble_eq_true rfl, Nat.le_of_ble_eq_true rfl⟩ hP hS (kd_k kdc_8 (by decide)) (wc4 kdc_8) rfl hl.1 rfl (Nat.le_of_ble_eq_true rfl) dL_law_740 ⟨by show (1000 + 2 * i + 2) + 0 ≤ 633173; omega, by show (20000 + 8 * i + 12) + 0 ≤ 7196550; omega⟩ (fun H locs hP hS => ?_)
  replace hP : va_P (gD G) vwCl (wld G lo1 σ2) H := hP
  refine W.eq (g2 := F0 m 743 ls [.int v]) rfl ?_
  refine lv_istore (lv' := [(6, .int v), (5, .int k), (0, .ref b), (1, .ref (gA G 0)), (2, .ref (gA G 8)), (3, .ref (gA G 25)), (4, .int (nI i))]) hx hb dL_law_743 hl (by decide) rfl (fun ls hl => ?_)
  refine lv_aload_n hx hb dL_law_745 rfl (lv_at hl 4 rfl) ?_
  refine xVl F (c_X4_thrown (rfl : f_X4_thrown σ2 = some (.inl (some (.inl (σ2 8 0)))))) rfl tk_624 tk_621 tk_622 tk_623 tk_6 rfl 0 (by decide +kernel) rfl ⟨Nat.le_of_ble_eq_true rfl, Nat.le_of_ble_eq_true rfl⟩ hP hS (kd_k kdc_8 (by decide)) (wc4 kdc_8) rfl hl.1 rfl (Nat.le_of_ble_eq_true rfl) dL_law_746 ⟨by show ((1000 + 2 * i + 2) + 0) + 0 ≤ 633173; omega, by show ((20000 + 8 * i + 12) + 0) + 0 ≤ 7196550; omega⟩ (fun H locs hP hS => ?_)
  replace hP : va_P (gD G) vwCl (wld G lo1 σ2) H := hP
  refine W.eq (g2 := F0 m 749 ls [.int (σ2 8 0)]) rfl ?_
  refine lv_iload hx hb dL_law_749 (lv_at hl 1 rfl) ?_
  refine lv_icmp_eq (tgt := 756) hx hb dL_law_751 (by decide) (fun b1 => ?_) (fun b1 => ?_)
  rotate_left
  · exact absurd hth b1
  refine lv_iload hx hb dL_law_756 (lv_at hl 1 rfl) ?_
  refine lv_if_ne (tgt := 773) hx hb dL_law_758 (by decide) (fun b2 => ?_) (fun b2 => ?_)
  · refine lv_goto (tgt := 1248) hx hb dL_law_773 (by decide) ?_
    refine lv_iinc (v := (nI i + 4)) (lv' := [(4, .int (nI i + 4)), (6, .int v), (5, .int k), (0, .ref b), (1, .ref (gA G 0)), (2, .ref (gA G 8)), (3, .ref (gA G 25))]) hx hb dL_law_1248 hl (k := 6) rfl rfl (by decide) rfl (fun ls hl => ?_)
    rw [e4] at hl
    refine lv_goto (tgt := 33) hx hb dL_law_1251 (by decide) ?_
    refine W.widen (k := 1000 + 2 * (i + 4)) (n := 20000 + 8 * (i + 4)) (by omega) (by omega) ?_
    exact ih (i + 4) lo1 σ2 (by omega) (by omega) hI2 _ _ hP hS _ (lv_sub hl [3, 4, 5, 6, 0] rfl)
  · refine lv_aload_n hx hb dL_law_761 rfl (lv_at hl 5 rfl) ?_
    refine lv_iconst (v := 0) hx hb dL_law_762 (by decide) ?_
    refine xLl F hP dL_law_763 ?_
    refine lv_iload hx hb dL_law_764 (lv_at hl 0 rfl) ?_
    refine lv_i2l (v := v.toInt64) hx hb dL_law_766 rfl ?_
    refine W.lcmp hx hb dL_law_767 ?_
    refine lv_if_eq (tgt := 773) hx hb dL_law_768 (by decide) (fun b3 => ?_) (fun b3 => absurd ((lg_cmp_eq _ _).mpr (hlo b2)) b3)
    refine lv_goto (tgt := 1248) hx hb dL_law_773 (by decide) ?_
    refine lv_iinc (v := (nI i + 4)) (lv' := [(4, .int (nI i + 4)), (6, .int v), (5, .int k), (0, .ref b), (1, .ref (gA G 0)), (2, .ref (gA G 8)), (3, .ref (gA G 25))]) hx hb dL_law_1248 hl (k := 6) rfl rfl (by decide) rfl (fun ls hl => ?_)
    rw [e4] at hl
    refine lv_goto (tgt := 33) hx hb dL_law_1251 (by decide) ?_
    refine W.widen (k := 1000 + 2 * (i + 4)) (n := 20000 + 8 * (i + 4)) (by omega) (by omega) ?_
    exact ih (i + 4) lo1 σ2 (by omega) (by omega) hI2 _ _ hP hS _ (lv_sub hl [3, 4, 5, 6, 0] rfl)
set_option maxHeartbeats 4000000 in
set_option maxRecDepth 100000 in
theorem law_lacks {p : Program} {l : Launch} {e : Env} {s : State} {m : MethodId} {below : List Frame} {meth : Method} {c : Code} {b L : Nat} {xs : Nat → Int32} {G : GT} {Inv : Nat → St → Prop} (PS : PSall Inv) (F : Fl p l s #[Value.ref b] m c G) (hX : va_X b L xs s s.heap) (hbl : b < s.heap.size) (hbA : ¬ gF G b) (hL : L ≤ 2049) {i : Nat} (hi : i + 4 ≤ L) {lo : Nat → Int64} {σ : St} (hI : Inv i σ) {H : Heap} {locs : List Loc} (hP : va_P (gD G) vwCl (wld G lo σ) H) (hS : va_S (gF G) s.heap H locs) {ls : Array Slot} (hl : lv_has ls 7 [(0, .ref b), (1, .ref (gA G 0)), (2, .ref (gA G 8)), (3, .ref (gA G 25)), (4, .int (nI i))])
    (ih : ∀ (j : Nat) (lo : Nat → Int64) (σ : St), j = i + 4 → j ≤ L → Inv j σ → ∀ (H : Heap) (locs : List Loc), va_P (gD G) vwCl (wld G lo σ) H → va_S (gF G) s.heap H locs → ∀ ls : Array Slot, lv_has ls 7 [(0, .ref b), (1, .ref (gA G 0)), (2, .ref (gA G 8)), (3, .ref (gA G 25)), (4, .int (nI j))] → W p l e room_1 s m #[Value.ref b] below meth c H locs (1000 + 2 * j) (20000 + 8 * j) (lw_Z below #[Value.ref b] s) (F0 m 33 ls [])) :
    W p l e room_1 s m #[Value.ref b] below meth c H locs (1000 + 2 * i) (20000 + 8 * i) (lw_Z below #[Value.ref b] s) (F0 m 776 ls []) := by
  obtain ⟨hx, hb, hml, hown, hts, hC, hnc, hst⟩ := id F
  have e4 : nI i + 4 = nI (i + 4) := nI_add i 4
  have hi1 : vp_in (nI i + 1) L := law_ix (j := 1) hL (by omega)
  have hi2 : vp_in (nI i + 2) L := law_ix (j := 2) hL (by omega)
  have hroom : ∀ mc : Nat, mc ≤ 5 → i + 4 ≤ L → (1000 + 2 * i) + mc ≤ room_1.cells := fun mc h1 h2 => by show _ ≤ 633173; omega
  have hroos : ∀ ms : Nat, ms ≤ 30 → i + 4 ≤ L → (20000 + 8 * i) + ms ≤ room_1.slots := fun ms h1 h2 => by show _ ≤ 7196550; omega
  obtain ⟨rv, k, v, σ2, hf1, hf2, hag, hth, hI2⟩ := PS.2.2.2.2.2.2.2.2.2.2.1 i (by omega) σ hI (xs (nI i + 1).toNatClampNeg) (xs (nI i + 2).toNatClampNeg)
  obtain ⟨lo1, hk, hlo⟩ := hag.o lo
  refine lv_aload_n hx hb dL_law_776 rfl (lv_at hl 1 rfl) ?_
  refine lv_aload_n hx hb dL_law_777 rfl (lv_at hl 0 rfl) ?_
  refine lv_iload hx hb dL_law_778 (lv_at hl 4 rfl) ?_
  refine lv_iconst (v := 1) hx hb dL_law_780 (by decide) ?_
  refine lv_iadd hx hb dL_law_781 ?_
  refine va_sld hx hb hX hbl hbA hS hi1 dL_law_782 ?_
  refine lv_aload_n hx hb dL_law_783 rfl (lv_at hl 0 rfl) ?_
  refine lv_iload hx hb dL_law_784 (lv_at hl 4 rfl) ?_
  refine lv_iconst (v := 2) hx hb dL_law_786 (by decide) ?_
  refine lv_iadd hx hb dL_law_787 ?_
  refine va_sld hx hb hX hbl hbA hS hi2 dL_law_788 ?_
  refine lv_aload_n hx hb dL_law_789 rfl (lv_at hl 3 rfl) ?_
  refine xHl F (h_lacks hf1 hk) tk_466 tk_464 tk_465 tk_0 rfl 4 (by decide +kernel) rfl ⟨Nat.le_of_ble_eq_true rfl, Nat.le_of_ble_eq_true rfl⟩ hP hS hl.1 rfl (Nat.le_of_ble_eq_true rfl) dL_law_790 ⟨hroom _ (by decide) hi, hroos _ (by decide) hi⟩ (fun H locs hP hS => ?_)
  replace hP : va_P (gD G) vwCl (wld G lo1 σ) H := hP
  refine lv_istore (lv' := [(5, .int k), (0, .ref b), (1, .ref (gA G 0)), (2, .ref (gA G 8)), (3, .ref (gA G 25)), (4, .int (nI i))]) hx hb dL_law_793 hl (by decide) rfl (fun ls hl => ?_)
  refine lv_aload_n hx hb dL_law_795 rfl (lv_at hl 3 rfl) ?_
  refine lv_aload_n hx hb dL_law_796 rfl (lv_at hl 1 rfl) ?_
  refine lv_iload hx hb dL_law_797 (lv_at hl 5 rfl) ?_
  refine lv_iconst (v := 1) hx hb dL_law_799 (by decide) ?_
  refine lv_iadd hx hb dL_law_800 ?_
  refine va_sld hx hb hX hbl hbA hS hi1 dL_law_801 ?_
  refine lv_aload_n hx hb dL_law_802 rfl (lv_at hl 1 rfl) ?_
  refine lv_iload hx hb dL_law_803 (lv_at hl 5 rfl) ?_
  refine lv_iconst (v := 2) hx hb dL_law_805 (by decide) ?_
  refine lv_iadd hx hb dL_law_806 ?_
  refine va_sld hx hb hX hbl hbA hS hi2 dL_law_807 ?_
  refine xVl F (c_X4_lacks hf2) rfl tk_751 tk_748 tk_749 tk_750 tk_6 rfl 2 (by decide +kernel) rfl ⟨Nat.le_of_ble_eq_true rfl, Nat.le_of_ble_eq_true rfl⟩ hP hS (kd_k kdc_8 (by decide)) (wc4 kdc_8) rfl hl.1 rfl (Nat.le_of_ble_eq_true rfl) dL_law_808 ⟨by show (1000 + 2 * i + 2) + 0 ≤ 633173; omega, by show (20000 + 8 * i + 12) + 0 ≤ 7196550; omega⟩ (fun H locs hP hS => ?_)
  replace hP : va_P (gD G) vwCl (wld G lo1 σ2) H := hP
  refine W.eq (g2 := F0 m 811 ls [.int v]) rfl ?_
  refine lv_istore (lv' := [(6, .int v), (5, .int k), (0, .ref b), (1, .ref (gA G 0)), (2, .ref (gA G 8)), (3, .ref (gA G 25)), (4, .int (nI i))]) hx hb dL_law_811 hl (by decide) rfl (fun ls hl => ?_)
  refine lv_aload_n hx hb dL_law_813 rfl (lv_at hl 4 rfl) ?_
  refine xVl F (c_X4_thrown (rfl : f_X4_thrown σ2 = some (.inl (some (.inl (σ2 8 0)))))) rfl tk_624 tk_621 tk_622 tk_623 tk_6 rfl 0 (by decide +kernel) rfl ⟨Nat.le_of_ble_eq_true rfl, Nat.le_of_ble_eq_true rfl⟩ hP hS (kd_k kdc_8 (by decide)) (wc4 kdc_8) rfl hl.1 rfl (Nat.le_of_ble_eq_true rfl) dL_law_814 ⟨by show ((1000 + 2 * i + 2) + 0) + 0 ≤ 633173; omega, by show ((20000 + 8 * i + 12) + 0) + 0 ≤ 7196550; omega⟩ (fun H locs hP hS => ?_)
  replace hP : va_P (gD G) vwCl (wld G lo1 σ2) H := hP
  refine W.eq (g2 := F0 m 817 ls [.int (σ2 8 0)]) rfl ?_
  refine lv_iload hx hb dL_law_817 (lv_at hl 1 rfl) ?_
  refine lv_icmp_eq (tgt := 824) hx hb dL_law_819 (by decide) (fun b1 => ?_) (fun b1 => ?_)
  rotate_left
  · exact absurd hth b1
  refine lv_iload hx hb dL_law_824 (lv_at hl 1 rfl) ?_
  refine lv_if_ne (tgt := 841) hx hb dL_law_826 (by decide) (fun b2 => ?_) (fun b2 => ?_)
  · refine lv_goto (tgt := 1248) hx hb dL_law_841 (by decide) ?_
    refine lv_iinc (v := (nI i + 4)) (lv' := [(4, .int (nI i + 4)), (6, .int v), (5, .int k), (0, .ref b), (1, .ref (gA G 0)), (2, .ref (gA G 8)), (3, .ref (gA G 25))]) hx hb dL_law_1248 hl (k := 6) rfl rfl (by decide) rfl (fun ls hl => ?_)
    rw [e4] at hl
    refine lv_goto (tgt := 33) hx hb dL_law_1251 (by decide) ?_
    refine W.widen (k := 1000 + 2 * (i + 4)) (n := 20000 + 8 * (i + 4)) (by omega) (by omega) ?_
    exact ih (i + 4) lo1 σ2 (by omega) (by omega) hI2 _ _ hP hS _ (lv_sub hl [3, 4, 5, 6, 0] rfl)
  · refine lv_aload_n hx hb dL_law_829 rfl (lv_at hl 5 rfl) ?_
    refine lv_iconst (v := 0) hx hb dL_law_830 (by decide) ?_
    refine xLl F hP dL_law_831 ?_
    refine lv_iload hx hb dL_law_832 (lv_at hl 0 rfl) ?_
    refine lv_i2l (v := v.toInt64) hx hb dL_law_834 rfl ?_
    refine W.lcmp hx hb dL_law_835 ?_
    refine lv_if_eq (tgt := 841) hx hb dL_law_836 (by decide) (fun b3 => ?_) (fun b3 => absurd ((lg_cmp_eq _ _).mpr (hlo b2)) b3)
    refine lv_goto (tgt := 1248) hx hb dL_law_841 (by decide) ?_
    refine lv_iinc (v := (nI i + 4)) (lv' := [(4, .int (nI i + 4)), (6, .int v), (5, .int k), (0, .ref b), (1, .ref (gA G 0)), (2, .ref (gA G 8)), (3, .ref (gA G 25))]) hx hb dL_law_1248 hl (k := 6) rfl rfl (by decide) rfl (fun ls hl => ?_)
    rw [e4] at hl
    refine lv_goto (tgt := 33) hx hb dL_law_1251 (by decide) ?_
    refine W.widen (k := 1000 + 2 * (i + 4)) (n := 20000 + 8 * (i + 4)) (by omega) (by omega) ?_
    exact ih (i + 4) lo1 σ2 (by omega) (by omega) hI2 _ _ hP hS _ (lv_sub hl [3, 4, 5, 6, 0] rfl)
set_option maxHeartbeats 4000000 in
set_option maxRecDepth 100000 in
theorem law_release {p : Program} {l : Launch} {e : Env} {s : State} {m : MethodId} {below : List Frame} {meth : Method} {c : Code} {b L : Nat} {xs : Nat → Int32} {G : GT} {Inv : Nat → St → Prop} (PS : PSall Inv) (F : Fl p l s #[Value.ref b] m c G) (hX : va_X b L xs s s.heap) (hbl : b < s.heap.size) (hbA : ¬ gF G b) (hL : L ≤ 2049) {i : Nat} (hi : i + 4 ≤ L) {lo : Nat → Int64} {σ : St} (hI : Inv i σ) {H : Heap} {locs : List Loc} (hP : va_P (gD G) vwCl (wld G lo σ) H) (hS : va_S (gF G) s.heap H locs) {ls : Array Slot} (hl : lv_has ls 7 [(0, .ref b), (1, .ref (gA G 0)), (2, .ref (gA G 8)), (3, .ref (gA G 25)), (4, .int (nI i))])
    (ih : ∀ (j : Nat) (lo : Nat → Int64) (σ : St), j = i + 4 → j ≤ L → Inv j σ → ∀ (H : Heap) (locs : List Loc), va_P (gD G) vwCl (wld G lo σ) H → va_S (gF G) s.heap H locs → ∀ ls : Array Slot, lv_has ls 7 [(0, .ref b), (1, .ref (gA G 0)), (2, .ref (gA G 8)), (3, .ref (gA G 25)), (4, .int (nI j))] → W p l e room_1 s m #[Value.ref b] below meth c H locs (1000 + 2 * j) (20000 + 8 * j) (lw_Z below #[Value.ref b] s) (F0 m 33 ls [])) :
    W p l e room_1 s m #[Value.ref b] below meth c H locs (1000 + 2 * i) (20000 + 8 * i) (lw_Z below #[Value.ref b] s) (F0 m 844 ls []) := by
  obtain ⟨hx, hb, hml, hown, hts, hC, hnc, hst⟩ := id F
  have e4 : nI i + 4 = nI (i + 4) := nI_add i 4
  have hi1 : vp_in (nI i + 1) L := law_ix (j := 1) hL (by omega)
  have hroom : ∀ mc : Nat, mc ≤ 5 → i + 4 ≤ L → (1000 + 2 * i) + mc ≤ room_1.cells := fun mc h1 h2 => by show _ ≤ 633173; omega
  have hroos : ∀ ms : Nat, ms ≤ 30 → i + 4 ≤ L → (20000 + 8 * i) + ms ≤ room_1.slots := fun ms h1 h2 => by show _ ≤ 7196550; omega
  obtain ⟨rv, σ1, k, v, σ2, hf1, hf2, hag, hth, hI2⟩ := PS.2.2.2.2.2.2.2.2.2.2.2.1 i (by omega) σ hI (xs (nI i + 1).toNatClampNeg)
  obtain ⟨lo1, hk, hlo⟩ := hag.o lo
  refine lv_aload_n hx hb dL_law_844 rfl (lv_at hl 1 rfl) ?_
  refine lv_aload_n hx hb dL_law_845 rfl (lv_at hl 0 rfl) ?_
  refine lv_iload hx hb dL_law_846 (lv_at hl 4 rfl) ?_
  refine lv_iconst (v := 1) hx hb dL_law_848 (by decide) ?_
  refine lv_iadd hx hb dL_law_849 ?_
  refine va_sld hx hb hX hbl hbA hS hi1 dL_law_850 ?_
  refine lv_aload_n hx hb dL_law_851 rfl (lv_at hl 3 rfl) ?_
  refine xHl F (h_release hf1 hk) tk_473 tk_471 tk_472 tk_0 rfl 3 (by decide +kernel) rfl ⟨Nat.le_of_ble_eq_true rfl, Nat.le_of_ble_eq_true rfl⟩ hP hS hl.1 rfl (Nat.le_of_ble_eq_true rfl) dL_law_852 ⟨hroom _ (by decide) hi, hroos _ (by decide) hi⟩ (fun H locs hP hS => ?_)
  replace hP : va_P (gD G) vwCl (wld G lo1 σ1) H := hP
  refine lv_istore (lv' := [(5, .int k), (0, .ref b), (1, .ref (gA G 0)), (2, .ref (gA G 8)), (3, .ref (gA G 25)), (4, .int (nI i))]) hx hb dL_law_855 hl (by decide) rfl (fun ls hl => ?_)
  refine lv_aload_n hx hb dL_law_857 rfl (lv_at hl 3 rfl) ?_
  refine lv_aload_n hx hb dL_law_858 rfl (lv_at hl 1 rfl) ?_
  refine lv_iload hx hb dL_law_859 (lv_at hl 5 rfl) ?_
  refine lv_iconst (v := 1) hx hb dL_law_861 (by decide) ?_
  refine lv_iadd hx hb dL_law_862 ?_
  refine va_sld hx hb hX hbl hbA hS hi1 dL_law_863 ?_
  refine xVl F (c_X4_release hf2) rfl tk_755 tk_752 tk_753 tk_754 tk_6 rfl 1 (by decide +kernel) rfl ⟨Nat.le_of_ble_eq_true rfl, Nat.le_of_ble_eq_true rfl⟩ hP hS (kd_k kdc_8 (by decide)) (wc4 kdc_8) rfl hl.1 rfl (Nat.le_of_ble_eq_true rfl) dL_law_864 ⟨by show (1000 + 2 * i + 2) + 0 ≤ 633173; omega, by show (20000 + 8 * i + 12) + 0 ≤ 7196550; omega⟩ (fun H locs hP hS => ?_)
  replace hP : va_P (gD G) vwCl (wld G lo1 σ2) H := hP
  refine W.eq (g2 := F0 m 867 ls [.int v]) rfl ?_
  refine lv_istore (lv' := [(6, .int v), (5, .int k), (0, .ref b), (1, .ref (gA G 0)), (2, .ref (gA G 8)), (3, .ref (gA G 25)), (4, .int (nI i))]) hx hb dL_law_867 hl (by decide) rfl (fun ls hl => ?_)
  refine lv_aload_n hx hb dL_law_869 rfl (lv_at hl 4 rfl) ?_
  refine xVl F (c_X4_thrown (rfl : f_X4_thrown σ2 = some (.inl (some (.inl (σ2 8 0)))))) rfl tk_624 tk_621 tk_622 tk_623 tk_6 rfl 0 (by decide +kernel) rfl ⟨Nat.le_of_ble_eq_true rfl, Nat.le_of_ble_eq_true rfl⟩ hP hS (kd_k kdc_8 (by decide)) (wc4 kdc_8) rfl hl.1 rfl (Nat.le_of_ble_eq_true rfl) dL_law_870 ⟨by show ((1000 + 2 * i + 2) + 0) + 0 ≤ 633173; omega, by show ((20000 + 8 * i + 12) + 0) + 0 ≤ 7196550; omega⟩ (fun H locs hP hS => ?_)
  replace hP : va_P (gD G) vwCl (wld G lo1 σ2) H := hP
  refine W.eq (g2 := F0 m 873 ls [.int (σ2 8 0)]) rfl ?_
  refine lv_iload hx hb dL_law_873 (lv_at hl 1 rfl) ?_
  refine lv_icmp_eq (tgt := 880) hx hb dL_law_875 (by decide) (fun b1 => ?_) (fun b1 => ?_)
  rotate_left
  · exact absurd hth b1
  refine lv_iload hx hb dL_law_880 (lv_at hl 1 rfl) ?_
  refine lv_if_ne (tgt := 897) hx hb dL_law_882 (by decide) (fun b2 => ?_) (fun b2 => ?_)
  · refine lv_goto (tgt := 1248) hx hb dL_law_897 (by decide) ?_
    refine lv_iinc (v := (nI i + 4)) (lv' := [(4, .int (nI i + 4)), (6, .int v), (5, .int k), (0, .ref b), (1, .ref (gA G 0)), (2, .ref (gA G 8)), (3, .ref (gA G 25))]) hx hb dL_law_1248 hl (k := 6) rfl rfl (by decide) rfl (fun ls hl => ?_)
    rw [e4] at hl
    refine lv_goto (tgt := 33) hx hb dL_law_1251 (by decide) ?_
    refine W.widen (k := 1000 + 2 * (i + 4)) (n := 20000 + 8 * (i + 4)) (by omega) (by omega) ?_
    exact ih (i + 4) lo1 σ2 (by omega) (by omega) hI2 _ _ hP hS _ (lv_sub hl [3, 4, 5, 6, 0] rfl)
  · refine lv_aload_n hx hb dL_law_885 rfl (lv_at hl 5 rfl) ?_
    refine lv_iconst (v := 0) hx hb dL_law_886 (by decide) ?_
    refine xLl F hP dL_law_887 ?_
    refine lv_iload hx hb dL_law_888 (lv_at hl 0 rfl) ?_
    refine lv_i2l (v := v.toInt64) hx hb dL_law_890 rfl ?_
    refine W.lcmp hx hb dL_law_891 ?_
    refine lv_if_eq (tgt := 897) hx hb dL_law_892 (by decide) (fun b3 => ?_) (fun b3 => absurd ((lg_cmp_eq _ _).mpr (hlo b2)) b3)
    refine lv_goto (tgt := 1248) hx hb dL_law_897 (by decide) ?_
    refine lv_iinc (v := (nI i + 4)) (lv' := [(4, .int (nI i + 4)), (6, .int v), (5, .int k), (0, .ref b), (1, .ref (gA G 0)), (2, .ref (gA G 8)), (3, .ref (gA G 25))]) hx hb dL_law_1248 hl (k := 6) rfl rfl (by decide) rfl (fun ls hl => ?_)
    rw [e4] at hl
    refine lv_goto (tgt := 33) hx hb dL_law_1251 (by decide) ?_
    refine W.widen (k := 1000 + 2 * (i + 4)) (n := 20000 + 8 * (i + 4)) (by omega) (by omega) ?_
    exact ih (i + 4) lo1 σ2 (by omega) (by omega) hI2 _ _ hP hS _ (lv_sub hl [3, 4, 5, 6, 0] rfl)
set_option maxHeartbeats 4000000 in
set_option maxRecDepth 100000 in
theorem law_done {p : Program} {l : Launch} {e : Env} {s : State} {m : MethodId} {below : List Frame} {meth : Method} {c : Code} {b L : Nat} {xs : Nat → Int32} {G : GT} {Inv : Nat → St → Prop} (PS : PSall Inv) (F : Fl p l s #[Value.ref b] m c G) (hX : va_X b L xs s s.heap) (hbl : b < s.heap.size) (hbA : ¬ gF G b) (hL : L ≤ 2049) {i : Nat} (hi : i + 4 ≤ L) {lo : Nat → Int64} {σ : St} (hI : Inv i σ) {H : Heap} {locs : List Loc} (hP : va_P (gD G) vwCl (wld G lo σ) H) (hS : va_S (gF G) s.heap H locs) {ls : Array Slot} (hl : lv_has ls 7 [(0, .ref b), (1, .ref (gA G 0)), (2, .ref (gA G 8)), (3, .ref (gA G 25)), (4, .int (nI i))])
    (ih : ∀ (j : Nat) (lo : Nat → Int64) (σ : St), j = i + 4 → j ≤ L → Inv j σ → ∀ (H : Heap) (locs : List Loc), va_P (gD G) vwCl (wld G lo σ) H → va_S (gF G) s.heap H locs → ∀ ls : Array Slot, lv_has ls 7 [(0, .ref b), (1, .ref (gA G 0)), (2, .ref (gA G 8)), (3, .ref (gA G 25)), (4, .int (nI j))] → W p l e room_1 s m #[Value.ref b] below meth c H locs (1000 + 2 * j) (20000 + 8 * j) (lw_Z below #[Value.ref b] s) (F0 m 33 ls [])) :
    W p l e room_1 s m #[Value.ref b] below meth c H locs (1000 + 2 * i) (20000 + 8 * i) (lw_Z below #[Value.ref b] s) (F0 m 900 ls []) := by
  obtain ⟨hx, hb, hml, hown, hts, hC, hnc, hst⟩ := id F
  have e4 : nI i + 4 = nI (i + 4) := nI_add i 4
  have hi1 : vp_in (nI i + 1) L := law_ix (j := 1) hL (by omega)
  have hroom : ∀ mc : Nat, mc ≤ 5 → i + 4 ≤ L → (1000 + 2 * i) + mc ≤ room_1.cells := fun mc h1 h2 => by show _ ≤ 633173; omega
  have hroos : ∀ ms : Nat, ms ≤ 30 → i + 4 ≤ L → (20000 + 8 * i) + ms ≤ room_1.slots := fun ms h1 h2 => by show _ ≤ 7196550; omega
  obtain ⟨rv, σ1, k, v, σ2, hf1, hf2, hag, hth, hI2⟩ := PS.2.2.2.2.2.2.2.2.2.2.2.2.1 i (by omega) σ hI (xs (nI i + 1).toNatClampNeg)
  obtain ⟨lo1, hk, hlo⟩ := hag.o lo
  refine lv_aload_n hx hb dL_law_900 rfl (lv_at hl 1 rfl) ?_
  refine lv_aload_n hx hb dL_law_901 rfl (lv_at hl 0 rfl) ?_
  refine lv_iload hx hb dL_law_902 (lv_at hl 4 rfl) ?_
  refine lv_iconst (v := 1) hx hb dL_law_904 (by decide) ?_
  refine lv_iadd hx hb dL_law_905 ?_
  refine va_sld hx hb hX hbl hbA hS hi1 dL_law_906 ?_
  refine lv_aload_n hx hb dL_law_907 rfl (lv_at hl 3 rfl) ?_
  refine xHl F (h_done hf1 hk) tk_488 tk_486 tk_487 tk_0 rfl 3 (by decide +kernel) rfl ⟨Nat.le_of_ble_eq_true rfl, Nat.le_of_ble_eq_true rfl⟩ hP hS hl.1 rfl (Nat.le_of_ble_eq_true rfl) dL_law_908 ⟨hroom _ (by decide) hi, hroos _ (by decide) hi⟩ (fun H locs hP hS => ?_)
  replace hP : va_P (gD G) vwCl (wld G lo1 σ1) H := hP
  refine lv_istore (lv' := [(5, .int k), (0, .ref b), (1, .ref (gA G 0)), (2, .ref (gA G 8)), (3, .ref (gA G 25)), (4, .int (nI i))]) hx hb dL_law_911 hl (by decide) rfl (fun ls hl => ?_)
  refine lv_aload_n hx hb dL_law_913 rfl (lv_at hl 3 rfl) ?_
  refine lv_aload_n hx hb dL_law_914 rfl (lv_at hl 1 rfl) ?_
  refine lv_iload hx hb dL_law_915 (lv_at hl 5 rfl) ?_
  refine lv_iconst (v := 1) hx hb dL_law_917 (by decide) ?_
  refine lv_iadd hx hb dL_law_918 ?_
  refine va_sld hx hb hX hbl hbA hS hi1 dL_law_919 ?_
  refine xVl F (c_X4_done hf2) rfl tk_759 tk_756 tk_757 tk_758 tk_6 rfl 1 (by decide +kernel) rfl ⟨Nat.le_of_ble_eq_true rfl, Nat.le_of_ble_eq_true rfl⟩ hP hS (kd_k kdc_8 (by decide)) (wc4 kdc_8) rfl hl.1 rfl (Nat.le_of_ble_eq_true rfl) dL_law_920 ⟨by show (1000 + 2 * i + 2) + 0 ≤ 633173; omega, by show (20000 + 8 * i + 12) + 0 ≤ 7196550; omega⟩ (fun H locs hP hS => ?_)
  replace hP : va_P (gD G) vwCl (wld G lo1 σ2) H := hP
  refine W.eq (g2 := F0 m 923 ls [.int v]) rfl ?_
  refine lv_istore (lv' := [(6, .int v), (5, .int k), (0, .ref b), (1, .ref (gA G 0)), (2, .ref (gA G 8)), (3, .ref (gA G 25)), (4, .int (nI i))]) hx hb dL_law_923 hl (by decide) rfl (fun ls hl => ?_)
  refine lv_aload_n hx hb dL_law_925 rfl (lv_at hl 4 rfl) ?_
  refine xVl F (c_X4_thrown (rfl : f_X4_thrown σ2 = some (.inl (some (.inl (σ2 8 0)))))) rfl tk_624 tk_621 tk_622 tk_623 tk_6 rfl 0 (by decide +kernel) rfl ⟨Nat.le_of_ble_eq_true rfl, Nat.le_of_ble_eq_true rfl⟩ hP hS (kd_k kdc_8 (by decide)) (wc4 kdc_8) rfl hl.1 rfl (Nat.le_of_ble_eq_true rfl) dL_law_926 ⟨by show ((1000 + 2 * i + 2) + 0) + 0 ≤ 633173; omega, by show ((20000 + 8 * i + 12) + 0) + 0 ≤ 7196550; omega⟩ (fun H locs hP hS => ?_)
  replace hP : va_P (gD G) vwCl (wld G lo1 σ2) H := hP
  refine W.eq (g2 := F0 m 929 ls [.int (σ2 8 0)]) rfl ?_
  refine lv_iload hx hb dL_law_929 (lv_at hl 1 rfl) ?_
  refine lv_icmp_eq (tgt := 936) hx hb dL_law_931 (by decide) (fun b1 => ?_) (fun b1 => ?_)
  rotate_left
  · exact absurd hth b1
  refine lv_iload hx hb dL_law_936 (lv_at hl 1 rfl) ?_
  refine lv_if_ne (tgt := 953) hx hb dL_law_938 (by decide) (fun b2 => ?_) (fun b2 => ?_)
  · refine lv_goto (tgt := 1248) hx hb dL_law_953 (by decide) ?_
    refine lv_iinc (v := (nI i + 4)) (lv' := [(4, .int (nI i + 4)), (6, .int v), (5, .int k), (0, .ref b), (1, .ref (gA G 0)), (2, .ref (gA G 8)), (3, .ref (gA G 25))]) hx hb dL_law_1248 hl (k := 6) rfl rfl (by decide) rfl (fun ls hl => ?_)
    rw [e4] at hl
    refine lv_goto (tgt := 33) hx hb dL_law_1251 (by decide) ?_
    refine W.widen (k := 1000 + 2 * (i + 4)) (n := 20000 + 8 * (i + 4)) (by omega) (by omega) ?_
    exact ih (i + 4) lo1 σ2 (by omega) (by omega) hI2 _ _ hP hS _ (lv_sub hl [3, 4, 5, 6, 0] rfl)
  · refine lv_aload_n hx hb dL_law_941 rfl (lv_at hl 5 rfl) ?_
    refine lv_iconst (v := 0) hx hb dL_law_942 (by decide) ?_
    refine xLl F hP dL_law_943 ?_
    refine lv_iload hx hb dL_law_944 (lv_at hl 0 rfl) ?_
    refine lv_i2l (v := v.toInt64) hx hb dL_law_946 rfl ?_
    refine W.lcmp hx hb dL_law_947 ?_
    refine lv_if_eq (tgt := 953) hx hb dL_law_948 (by decide) (fun b3 => ?_) (fun b3 => absurd ((lg_cmp_eq _ _).mpr (hlo b2)) b3)
    refine lv_goto (tgt := 1248) hx hb dL_law_953 (by decide) ?_
    refine lv_iinc (v := (nI i + 4)) (lv' := [(4, .int (nI i + 4)), (6, .int v), (5, .int k), (0, .ref b), (1, .ref (gA G 0)), (2, .ref (gA G 8)), (3, .ref (gA G 25))]) hx hb dL_law_1248 hl (k := 6) rfl rfl (by decide) rfl (fun ls hl => ?_)
    rw [e4] at hl
    refine lv_goto (tgt := 33) hx hb dL_law_1251 (by decide) ?_
    refine W.widen (k := 1000 + 2 * (i + 4)) (n := 20000 + 8 * (i + 4)) (by omega) (by omega) ?_
    exact ih (i + 4) lo1 σ2 (by omega) (by omega) hI2 _ _ hP hS _ (lv_sub hl [3, 4, 5, 6, 0] rfl)
set_option maxHeartbeats 4000000 in
set_option maxRecDepth 100000 in
theorem law_change {p : Program} {l : Launch} {e : Env} {s : State} {m : MethodId} {below : List Frame} {meth : Method} {c : Code} {b L : Nat} {xs : Nat → Int32} {G : GT} {Inv : Nat → St → Prop} (PS : PSall Inv) (F : Fl p l s #[Value.ref b] m c G) (hX : va_X b L xs s s.heap) (hbl : b < s.heap.size) (hbA : ¬ gF G b) (hL : L ≤ 2049) {i : Nat} (hi : i + 4 ≤ L) {lo : Nat → Int64} {σ : St} (hI : Inv i σ) {H : Heap} {locs : List Loc} (hP : va_P (gD G) vwCl (wld G lo σ) H) (hS : va_S (gF G) s.heap H locs) {ls : Array Slot} (hl : lv_has ls 7 [(0, .ref b), (1, .ref (gA G 0)), (2, .ref (gA G 8)), (3, .ref (gA G 25)), (4, .int (nI i))])
    (ih : ∀ (j : Nat) (lo : Nat → Int64) (σ : St), j = i + 4 → j ≤ L → Inv j σ → ∀ (H : Heap) (locs : List Loc), va_P (gD G) vwCl (wld G lo σ) H → va_S (gF G) s.heap H locs → ∀ ls : Array Slot, lv_has ls 7 [(0, .ref b), (1, .ref (gA G 0)), (2, .ref (gA G 8)), (3, .ref (gA G 25)), (4, .int (nI j))] → W p l e room_1 s m #[Value.ref b] below meth c H locs (1000 + 2 * j) (20000 + 8 * j) (lw_Z below #[Value.ref b] s) (F0 m 33 ls [])) :
    W p l e room_1 s m #[Value.ref b] below meth c H locs (1000 + 2 * i) (20000 + 8 * i) (lw_Z below #[Value.ref b] s) (F0 m 956 ls []) := by
  obtain ⟨hx, hb, hml, hown, hts, hC, hnc, hst⟩ := id F
  have e4 : nI i + 4 = nI (i + 4) := nI_add i 4
  have hi1 : vp_in (nI i + 1) L := law_ix (j := 1) hL (by omega)
  have hi2 : vp_in (nI i + 2) L := law_ix (j := 2) hL (by omega)
  have hroom : ∀ mc : Nat, mc ≤ 5 → i + 4 ≤ L → (1000 + 2 * i) + mc ≤ room_1.cells := fun mc h1 h2 => by show _ ≤ 633173; omega
  have hroos : ∀ ms : Nat, ms ≤ 30 → i + 4 ≤ L → (20000 + 8 * i) + ms ≤ room_1.slots := fun ms h1 h2 => by show _ ≤ 7196550; omega
  obtain ⟨rv, σ1, k, v, σ2, hf1, hf2, hag, hth, hI2⟩ := PS.2.2.2.2.2.2.2.2.2.2.2.2.2.1 i (by omega) σ hI (xs (nI i + 1).toNatClampNeg) (xs (nI i + 2).toNatClampNeg)
  obtain ⟨lo1, hk, hlo⟩ := hag.z lo
  refine lv_aload_n hx hb dL_law_956 rfl (lv_at hl 1 rfl) ?_
  refine lv_aload_n hx hb dL_law_957 rfl (lv_at hl 0 rfl) ?_
  refine lv_iload hx hb dL_law_958 (lv_at hl 4 rfl) ?_
  refine lv_iconst (v := 1) hx hb dL_law_960 (by decide) ?_
  refine lv_iadd hx hb dL_law_961 ?_
  refine va_sld hx hb hX hbl hbA hS hi1 dL_law_962 ?_
  refine lv_aload_n hx hb dL_law_963 rfl (lv_at hl 0 rfl) ?_
  refine lv_iload hx hb dL_law_964 (lv_at hl 4 rfl) ?_
  refine lv_iconst (v := 2) hx hb dL_law_966 (by decide) ?_
  refine lv_iadd hx hb dL_law_967 ?_
  refine va_sld hx hb hX hbl hbA hS hi2 dL_law_968 ?_
  refine lv_aload_n hx hb dL_law_969 rfl (lv_at hl 3 rfl) ?_
  refine xHl F (h_change hf1 hk) tk_504 tk_502 tk_503 tk_0 rfl 4 (by decide +kernel) rfl ⟨Nat.le_of_ble_eq_true rfl, Nat.le_of_ble_eq_true rfl⟩ hP hS hl.1 rfl (Nat.le_of_ble_eq_true rfl) dL_law_970 ⟨hroom _ (by decide) hi, hroos _ (by decide) hi⟩ (fun H locs hP hS => ?_)
  replace hP : va_P (gD G) vwCl (wld G lo1 σ1) H := hP
  refine lv_istore (lv' := [(5, .int k), (0, .ref b), (1, .ref (gA G 0)), (2, .ref (gA G 8)), (3, .ref (gA G 25)), (4, .int (nI i))]) hx hb dL_law_973 hl (by decide) rfl (fun ls hl => ?_)
  refine lv_aload_n hx hb dL_law_975 rfl (lv_at hl 3 rfl) ?_
  refine lv_aload_n hx hb dL_law_976 rfl (lv_at hl 1 rfl) ?_
  refine lv_iload hx hb dL_law_977 (lv_at hl 5 rfl) ?_
  refine lv_iconst (v := 1) hx hb dL_law_979 (by decide) ?_
  refine lv_iadd hx hb dL_law_980 ?_
  refine va_sld hx hb hX hbl hbA hS hi1 dL_law_981 ?_
  refine lv_aload_n hx hb dL_law_982 rfl (lv_at hl 1 rfl) ?_
  refine lv_iload hx hb dL_law_983 (lv_at hl 5 rfl) ?_
  refine lv_iconst (v := 2) hx hb dL_law_985 (by decide) ?_
  refine lv_iadd hx hb dL_law_986 ?_
  refine va_sld hx hb hX hbl hbA hS hi2 dL_law_987 ?_
  refine xVl F (c_X4_change hf2) rfl tk_763 tk_760 tk_761 tk_762 tk_6 rfl 2 (by decide +kernel) rfl ⟨Nat.le_of_ble_eq_true rfl, Nat.le_of_ble_eq_true rfl⟩ hP hS (kd_k kdc_8 (by decide)) (wc4 kdc_8) rfl hl.1 rfl (Nat.le_of_ble_eq_true rfl) dL_law_988 ⟨by show (1000 + 2 * i + 3) + 0 ≤ 633173; omega, by show (20000 + 8 * i + 18) + 0 ≤ 7196550; omega⟩ (fun H locs hP hS => ?_)
  replace hP : va_P (gD G) vwCl (wld G lo1 σ2) H := hP
  refine W.eq (g2 := F0 m 991 ls [.int v]) rfl ?_
  refine lv_istore (lv' := [(6, .int v), (5, .int k), (0, .ref b), (1, .ref (gA G 0)), (2, .ref (gA G 8)), (3, .ref (gA G 25)), (4, .int (nI i))]) hx hb dL_law_991 hl (by decide) rfl (fun ls hl => ?_)
  refine lv_aload_n hx hb dL_law_993 rfl (lv_at hl 4 rfl) ?_
  refine xVl F (c_X4_thrown (rfl : f_X4_thrown σ2 = some (.inl (some (.inl (σ2 8 0)))))) rfl tk_624 tk_621 tk_622 tk_623 tk_6 rfl 0 (by decide +kernel) rfl ⟨Nat.le_of_ble_eq_true rfl, Nat.le_of_ble_eq_true rfl⟩ hP hS (kd_k kdc_8 (by decide)) (wc4 kdc_8) rfl hl.1 rfl (Nat.le_of_ble_eq_true rfl) dL_law_994 ⟨by show ((1000 + 2 * i + 3) + 0) + 0 ≤ 633173; omega, by show ((20000 + 8 * i + 18) + 0) + 0 ≤ 7196550; omega⟩ (fun H locs hP hS => ?_)
  replace hP : va_P (gD G) vwCl (wld G lo1 σ2) H := hP
  refine W.eq (g2 := F0 m 997 ls [.int (σ2 8 0)]) rfl ?_
  refine lv_iload hx hb dL_law_997 (lv_at hl 1 rfl) ?_
  refine lv_icmp_eq (tgt := 1004) hx hb dL_law_999 (by decide) (fun b1 => ?_) (fun b1 => ?_)
  rotate_left
  · exact absurd hth b1
  refine lv_iload hx hb dL_law_1004 (lv_at hl 1 rfl) ?_
  refine lv_if_ne (tgt := 1028) hx hb dL_law_1006 (by decide) (fun b2 => ?_) (fun b2 => ?_)
  · refine lv_goto (tgt := 1248) hx hb dL_law_1028 (by decide) ?_
    refine lv_iinc (v := (nI i + 4)) (lv' := [(4, .int (nI i + 4)), (6, .int v), (5, .int k), (0, .ref b), (1, .ref (gA G 0)), (2, .ref (gA G 8)), (3, .ref (gA G 25))]) hx hb dL_law_1248 hl (k := 6) rfl rfl (by decide) rfl (fun ls hl => ?_)
    rw [e4] at hl
    refine lv_goto (tgt := 33) hx hb dL_law_1251 (by decide) ?_
    refine W.widen (k := 1000 + 2 * (i + 4)) (n := 20000 + 8 * (i + 4)) (by omega) (by omega) ?_
    exact ih (i + 4) lo1 σ2 (by omega) (by omega) hI2 _ _ hP hS _ (lv_sub hl [3, 4, 5, 6, 0] rfl)
  · refine lv_aload_n hx hb dL_law_1009 rfl (lv_at hl 5 rfl) ?_
    refine lv_iconst (v := 0) hx hb dL_law_1010 (by decide) ?_
    refine xLl F hP dL_law_1011 ?_
    refine lv_iload hx hb dL_law_1012 (lv_at hl 0 rfl) ?_
    refine lv_if_eq (tgt := 1021) hx hb dL_law_1014 (by decide) (fun b4 => ?_) (fun b4 => ?_)
    · refine lv_lconst (v := 0) hx hb dL_law_1021 (by decide) ?_
      refine W.lcmp hx hb dL_law_1022 ?_
      refine lv_if_eq (tgt := 1028) hx hb dL_law_1023 (by decide) (fun b3 => ?_) (fun b3 => absurd ((lg_cmp_eq _ _).mpr (by rw [hlo b2, if_pos b4])) b3)
      refine lv_goto (tgt := 1248) hx hb dL_law_1028 (by decide) ?_
      refine lv_iinc (v := (nI i + 4)) (lv' := [(4, .int (nI i + 4)), (6, .int v), (5, .int k), (0, .ref b), (1, .ref (gA G 0)), (2, .ref (gA G 8)), (3, .ref (gA G 25))]) hx hb dL_law_1248 hl (k := 6) rfl rfl (by decide) rfl (fun ls hl => ?_)
      rw [e4] at hl
      refine lv_goto (tgt := 33) hx hb dL_law_1251 (by decide) ?_
      refine W.widen (k := 1000 + 2 * (i + 4)) (n := 20000 + 8 * (i + 4)) (by omega) (by omega) ?_
      exact ih (i + 4) lo1 σ2 (by omega) (by omega) hI2 _ _ hP hS _ (lv_sub hl [3, 4, 5, 6, 0] rfl)
    · refine lv_lconst (v := 1) hx hb dL_law_1017 (by decide) ?_
      refine lv_goto (tgt := 1022) hx hb dL_law_1018 (by decide) ?_
      refine W.lcmp hx hb dL_law_1022 ?_
      refine lv_if_eq (tgt := 1028) hx hb dL_law_1023 (by decide) (fun b3 => ?_) (fun b3 => absurd ((lg_cmp_eq _ _).mpr (by rw [hlo b2, if_neg b4])) b3)
      refine lv_goto (tgt := 1248) hx hb dL_law_1028 (by decide) ?_
      refine lv_iinc (v := (nI i + 4)) (lv' := [(4, .int (nI i + 4)), (6, .int v), (5, .int k), (0, .ref b), (1, .ref (gA G 0)), (2, .ref (gA G 8)), (3, .ref (gA G 25))]) hx hb dL_law_1248 hl (k := 6) rfl rfl (by decide) rfl (fun ls hl => ?_)
      rw [e4] at hl
      refine lv_goto (tgt := 33) hx hb dL_law_1251 (by decide) ?_
      refine W.widen (k := 1000 + 2 * (i + 4)) (n := 20000 + 8 * (i + 4)) (by omega) (by omega) ?_
      exact ih (i + 4) lo1 σ2 (by omega) (by omega) hI2 _ _ hP hS _ (lv_sub hl [3, 4, 5, 6, 0] rfl)
set_option maxHeartbeats 4000000 in
set_option maxRecDepth 100000 in
theorem law_join {p : Program} {l : Launch} {e : Env} {s : State} {m : MethodId} {below : List Frame} {meth : Method} {c : Code} {b L : Nat} {xs : Nat → Int32} {G : GT} {Inv : Nat → St → Prop} (PS : PSall Inv) (F : Fl p l s #[Value.ref b] m c G) (hX : va_X b L xs s s.heap) (hbl : b < s.heap.size) (hbA : ¬ gF G b) (hL : L ≤ 2049) {i : Nat} (hi : i + 4 ≤ L) {lo : Nat → Int64} {σ : St} (hI : Inv i σ) {H : Heap} {locs : List Loc} (hP : va_P (gD G) vwCl (wld G lo σ) H) (hS : va_S (gF G) s.heap H locs) {ls : Array Slot} (hl : lv_has ls 7 [(0, .ref b), (1, .ref (gA G 0)), (2, .ref (gA G 8)), (3, .ref (gA G 25)), (4, .int (nI i))])
    (ih : ∀ (j : Nat) (lo : Nat → Int64) (σ : St), j = i + 4 → j ≤ L → Inv j σ → ∀ (H : Heap) (locs : List Loc), va_P (gD G) vwCl (wld G lo σ) H → va_S (gF G) s.heap H locs → ∀ ls : Array Slot, lv_has ls 7 [(0, .ref b), (1, .ref (gA G 0)), (2, .ref (gA G 8)), (3, .ref (gA G 25)), (4, .int (nI j))] → W p l e room_1 s m #[Value.ref b] below meth c H locs (1000 + 2 * j) (20000 + 8 * j) (lw_Z below #[Value.ref b] s) (F0 m 33 ls [])) :
    W p l e room_1 s m #[Value.ref b] below meth c H locs (1000 + 2 * i) (20000 + 8 * i) (lw_Z below #[Value.ref b] s) (F0 m 1031 ls []) := by
  obtain ⟨hx, hb, hml, hown, hts, hC, hnc, hst⟩ := id F
  have e4 : nI i + 4 = nI (i + 4) := nI_add i 4
  have hi1 : vp_in (nI i + 1) L := law_ix (j := 1) hL (by omega)
  have hi2 : vp_in (nI i + 2) L := law_ix (j := 2) hL (by omega)
  have hroom : ∀ mc : Nat, mc ≤ 5 → i + 4 ≤ L → (1000 + 2 * i) + mc ≤ room_1.cells := fun mc h1 h2 => by show _ ≤ 633173; omega
  have hroos : ∀ ms : Nat, ms ≤ 30 → i + 4 ≤ L → (20000 + 8 * i) + ms ≤ room_1.slots := fun ms h1 h2 => by show _ ≤ 7196550; omega
  obtain ⟨rv, σ1, k, v, σ2, hf1, hf2, hag, hth, hI2⟩ := PS.2.2.2.2.2.2.2.2.2.2.2.2.2.2.1 i (by omega) σ hI (xs (nI i + 1).toNatClampNeg) (xs (nI i + 2).toNatClampNeg)
  obtain ⟨lo1, hk, hlo⟩ := hag.o lo
  refine lv_aload_n hx hb dL_law_1031 rfl (lv_at hl 1 rfl) ?_
  refine lv_aload_n hx hb dL_law_1032 rfl (lv_at hl 0 rfl) ?_
  refine lv_iload hx hb dL_law_1033 (lv_at hl 4 rfl) ?_
  refine lv_iconst (v := 1) hx hb dL_law_1035 (by decide) ?_
  refine lv_iadd hx hb dL_law_1036 ?_
  refine va_sld hx hb hX hbl hbA hS hi1 dL_law_1037 ?_
  refine lv_aload_n hx hb dL_law_1038 rfl (lv_at hl 0 rfl) ?_
  refine lv_iload hx hb dL_law_1039 (lv_at hl 4 rfl) ?_
  refine lv_iconst (v := 2) hx hb dL_law_1041 (by decide) ?_
  refine lv_iadd hx hb dL_law_1042 ?_
  refine va_sld hx hb hX hbl hbA hS hi2 dL_law_1043 ?_
  refine lv_aload_n hx hb dL_law_1044 rfl (lv_at hl 3 rfl) ?_
  refine xHl F (h_join hf1 hk) tk_520 tk_518 tk_519 tk_0 rfl 4 (by decide +kernel) rfl ⟨Nat.le_of_ble_eq_true rfl, Nat.le_of_ble_eq_true rfl⟩ hP hS hl.1 rfl (Nat.le_of_ble_eq_true rfl) dL_law_1045 ⟨hroom _ (by decide) hi, hroos _ (by decide) hi⟩ (fun H locs hP hS => ?_)
  replace hP : va_P (gD G) vwCl (wld G lo1 σ1) H := hP
  refine lv_istore (lv' := [(5, .int k), (0, .ref b), (1, .ref (gA G 0)), (2, .ref (gA G 8)), (3, .ref (gA G 25)), (4, .int (nI i))]) hx hb dL_law_1048 hl (by decide) rfl (fun ls hl => ?_)
  refine lv_aload_n hx hb dL_law_1050 rfl (lv_at hl 3 rfl) ?_
  refine lv_aload_n hx hb dL_law_1051 rfl (lv_at hl 1 rfl) ?_
  refine lv_iload hx hb dL_law_1052 (lv_at hl 5 rfl) ?_
  refine lv_iconst (v := 1) hx hb dL_law_1054 (by decide) ?_
  refine lv_iadd hx hb dL_law_1055 ?_
  refine va_sld hx hb hX hbl hbA hS hi1 dL_law_1056 ?_
  refine lv_aload_n hx hb dL_law_1057 rfl (lv_at hl 1 rfl) ?_
  refine lv_iload hx hb dL_law_1058 (lv_at hl 5 rfl) ?_
  refine lv_iconst (v := 2) hx hb dL_law_1060 (by decide) ?_
  refine lv_iadd hx hb dL_law_1061 ?_
  refine va_sld hx hb hX hbl hbA hS hi2 dL_law_1062 ?_
  refine xVl F (c_X4_join hf2) rfl tk_767 tk_764 tk_765 tk_766 tk_6 rfl 2 (by decide +kernel) rfl ⟨Nat.le_of_ble_eq_true rfl, Nat.le_of_ble_eq_true rfl⟩ hP hS (kd_k kdc_8 (by decide)) (wc4 kdc_8) rfl hl.1 rfl (Nat.le_of_ble_eq_true rfl) dL_law_1063 ⟨by show (1000 + 2 * i + 5) + 0 ≤ 633173; omega, by show (20000 + 8 * i + 30) + 0 ≤ 7196550; omega⟩ (fun H locs hP hS => ?_)
  replace hP : va_P (gD G) vwCl (wld G lo1 σ2) H := hP
  refine W.eq (g2 := F0 m 1066 ls [.int v]) rfl ?_
  refine lv_istore (lv' := [(6, .int v), (5, .int k), (0, .ref b), (1, .ref (gA G 0)), (2, .ref (gA G 8)), (3, .ref (gA G 25)), (4, .int (nI i))]) hx hb dL_law_1066 hl (by decide) rfl (fun ls hl => ?_)
  refine lv_aload_n hx hb dL_law_1068 rfl (lv_at hl 4 rfl) ?_
  refine xVl F (c_X4_thrown (rfl : f_X4_thrown σ2 = some (.inl (some (.inl (σ2 8 0)))))) rfl tk_624 tk_621 tk_622 tk_623 tk_6 rfl 0 (by decide +kernel) rfl ⟨Nat.le_of_ble_eq_true rfl, Nat.le_of_ble_eq_true rfl⟩ hP hS (kd_k kdc_8 (by decide)) (wc4 kdc_8) rfl hl.1 rfl (Nat.le_of_ble_eq_true rfl) dL_law_1069 ⟨by show ((1000 + 2 * i + 5) + 0) + 0 ≤ 633173; omega, by show ((20000 + 8 * i + 30) + 0) + 0 ≤ 7196550; omega⟩ (fun H locs hP hS => ?_)
  replace hP : va_P (gD G) vwCl (wld G lo1 σ2) H := hP
  refine W.eq (g2 := F0 m 1072 ls [.int (σ2 8 0)]) rfl ?_
  refine lv_iload hx hb dL_law_1072 (lv_at hl 1 rfl) ?_
  refine lv_icmp_eq (tgt := 1079) hx hb dL_law_1074 (by decide) (fun b1 => ?_) (fun b1 => ?_)
  rotate_left
  · exact absurd hth b1
  refine lv_iload hx hb dL_law_1079 (lv_at hl 1 rfl) ?_
  refine lv_if_ne (tgt := 1096) hx hb dL_law_1081 (by decide) (fun b2 => ?_) (fun b2 => ?_)
  · refine lv_goto (tgt := 1248) hx hb dL_law_1096 (by decide) ?_
    refine lv_iinc (v := (nI i + 4)) (lv' := [(4, .int (nI i + 4)), (6, .int v), (5, .int k), (0, .ref b), (1, .ref (gA G 0)), (2, .ref (gA G 8)), (3, .ref (gA G 25))]) hx hb dL_law_1248 hl (k := 6) rfl rfl (by decide) rfl (fun ls hl => ?_)
    rw [e4] at hl
    refine lv_goto (tgt := 33) hx hb dL_law_1251 (by decide) ?_
    refine W.widen (k := 1000 + 2 * (i + 4)) (n := 20000 + 8 * (i + 4)) (by omega) (by omega) ?_
    exact ih (i + 4) lo1 σ2 (by omega) (by omega) hI2 _ _ hP hS _ (lv_sub hl [3, 4, 5, 6, 0] rfl)
  · refine lv_aload_n hx hb dL_law_1084 rfl (lv_at hl 5 rfl) ?_
    refine lv_iconst (v := 0) hx hb dL_law_1085 (by decide) ?_
    refine xLl F hP dL_law_1086 ?_
    refine lv_iload hx hb dL_law_1087 (lv_at hl 0 rfl) ?_
    refine lv_i2l (v := v.toInt64) hx hb dL_law_1089 rfl ?_
    refine W.lcmp hx hb dL_law_1090 ?_
    refine lv_if_eq (tgt := 1096) hx hb dL_law_1091 (by decide) (fun b3 => ?_) (fun b3 => absurd ((lg_cmp_eq _ _).mpr (hlo b2)) b3)
    refine lv_goto (tgt := 1248) hx hb dL_law_1096 (by decide) ?_
    refine lv_iinc (v := (nI i + 4)) (lv' := [(4, .int (nI i + 4)), (6, .int v), (5, .int k), (0, .ref b), (1, .ref (gA G 0)), (2, .ref (gA G 8)), (3, .ref (gA G 25))]) hx hb dL_law_1248 hl (k := 6) rfl rfl (by decide) rfl (fun ls hl => ?_)
    rw [e4] at hl
    refine lv_goto (tgt := 33) hx hb dL_law_1251 (by decide) ?_
    refine W.widen (k := 1000 + 2 * (i + 4)) (n := 20000 + 8 * (i + 4)) (by omega) (by omega) ?_
    exact ih (i + 4) lo1 σ2 (by omega) (by omega) hI2 _ _ hP hS _ (lv_sub hl [3, 4, 5, 6, 0] rfl)
set_option maxHeartbeats 4000000 in
set_option maxRecDepth 100000 in
theorem law_cutoff {p : Program} {l : Launch} {e : Env} {s : State} {m : MethodId} {below : List Frame} {meth : Method} {c : Code} {b L : Nat} {xs : Nat → Int32} {G : GT} {Inv : Nat → St → Prop} (PS : PSall Inv) (F : Fl p l s #[Value.ref b] m c G) (hX : va_X b L xs s s.heap) (hbl : b < s.heap.size) (hbA : ¬ gF G b) (hL : L ≤ 2049) {i : Nat} (hi : i + 4 ≤ L) {lo : Nat → Int64} {σ : St} (hI : Inv i σ) {H : Heap} {locs : List Loc} (hP : va_P (gD G) vwCl (wld G lo σ) H) (hS : va_S (gF G) s.heap H locs) {ls : Array Slot} (hl : lv_has ls 7 [(0, .ref b), (1, .ref (gA G 0)), (2, .ref (gA G 8)), (3, .ref (gA G 25)), (4, .int (nI i))])
    (ih : ∀ (j : Nat) (lo : Nat → Int64) (σ : St), j = i + 4 → j ≤ L → Inv j σ → ∀ (H : Heap) (locs : List Loc), va_P (gD G) vwCl (wld G lo σ) H → va_S (gF G) s.heap H locs → ∀ ls : Array Slot, lv_has ls 7 [(0, .ref b), (1, .ref (gA G 0)), (2, .ref (gA G 8)), (3, .ref (gA G 25)), (4, .int (nI j))] → W p l e room_1 s m #[Value.ref b] below meth c H locs (1000 + 2 * j) (20000 + 8 * j) (lw_Z below #[Value.ref b] s) (F0 m 33 ls [])) :
    W p l e room_1 s m #[Value.ref b] below meth c H locs (1000 + 2 * i) (20000 + 8 * i) (lw_Z below #[Value.ref b] s) (F0 m 1099 ls []) := by
  obtain ⟨hx, hb, hml, hown, hts, hC, hnc, hst⟩ := id F
  have e4 : nI i + 4 = nI (i + 4) := nI_add i 4
  have hi1 : vp_in (nI i + 1) L := law_ix (j := 1) hL (by omega)
  have hi2 : vp_in (nI i + 2) L := law_ix (j := 2) hL (by omega)
  have hroom : ∀ mc : Nat, mc ≤ 5 → i + 4 ≤ L → (1000 + 2 * i) + mc ≤ room_1.cells := fun mc h1 h2 => by show _ ≤ 633173; omega
  have hroos : ∀ ms : Nat, ms ≤ 30 → i + 4 ≤ L → (20000 + 8 * i) + ms ≤ room_1.slots := fun ms h1 h2 => by show _ ≤ 7196550; omega
  obtain ⟨rv, σ1, k, v, σ2, hf1, hf2, hag, hth, hI2⟩ := PS.2.2.2.2.2.2.2.2.2.2.2.2.2.2.2.1 i (by omega) σ hI (xs (nI i + 1).toNatClampNeg) (xs (nI i + 2).toNatClampNeg)
  obtain ⟨lo1, hk, hlo⟩ := hag.o lo
  refine lv_aload_n hx hb dL_law_1099 rfl (lv_at hl 1 rfl) ?_
  refine lv_aload_n hx hb dL_law_1100 rfl (lv_at hl 0 rfl) ?_
  refine lv_iload hx hb dL_law_1101 (lv_at hl 4 rfl) ?_
  refine lv_iconst (v := 1) hx hb dL_law_1103 (by decide) ?_
  refine lv_iadd hx hb dL_law_1104 ?_
  refine va_sld hx hb hX hbl hbA hS hi1 dL_law_1105 ?_
  refine lv_aload_n hx hb dL_law_1106 rfl (lv_at hl 0 rfl) ?_
  refine lv_iload hx hb dL_law_1107 (lv_at hl 4 rfl) ?_
  refine lv_iconst (v := 2) hx hb dL_law_1109 (by decide) ?_
  refine lv_iadd hx hb dL_law_1110 ?_
  refine va_sld hx hb hX hbl hbA hS hi2 dL_law_1111 ?_
  refine lv_aload_n hx hb dL_law_1112 rfl (lv_at hl 3 rfl) ?_
  refine xHl F (h_cutoff hf1 hk) tk_534 tk_532 tk_533 tk_0 rfl 4 (by decide +kernel) rfl ⟨Nat.le_of_ble_eq_true rfl, Nat.le_of_ble_eq_true rfl⟩ hP hS hl.1 rfl (Nat.le_of_ble_eq_true rfl) dL_law_1113 ⟨hroom _ (by decide) hi, hroos _ (by decide) hi⟩ (fun H locs hP hS => ?_)
  replace hP : va_P (gD G) vwCl (wld G lo1 σ1) H := hP
  refine lv_istore (lv' := [(5, .int k), (0, .ref b), (1, .ref (gA G 0)), (2, .ref (gA G 8)), (3, .ref (gA G 25)), (4, .int (nI i))]) hx hb dL_law_1116 hl (by decide) rfl (fun ls hl => ?_)
  refine lv_aload_n hx hb dL_law_1118 rfl (lv_at hl 3 rfl) ?_
  refine lv_aload_n hx hb dL_law_1119 rfl (lv_at hl 1 rfl) ?_
  refine lv_iload hx hb dL_law_1120 (lv_at hl 5 rfl) ?_
  refine lv_iconst (v := 1) hx hb dL_law_1122 (by decide) ?_
  refine lv_iadd hx hb dL_law_1123 ?_
  refine va_sld hx hb hX hbl hbA hS hi1 dL_law_1124 ?_
  refine lv_aload_n hx hb dL_law_1125 rfl (lv_at hl 1 rfl) ?_
  refine lv_iload hx hb dL_law_1126 (lv_at hl 5 rfl) ?_
  refine lv_iconst (v := 2) hx hb dL_law_1128 (by decide) ?_
  refine lv_iadd hx hb dL_law_1129 ?_
  refine va_sld hx hb hX hbl hbA hS hi2 dL_law_1130 ?_
  refine xVl F (c_X4_cutoff hf2) rfl tk_771 tk_768 tk_769 tk_770 tk_6 rfl 2 (by decide +kernel) rfl ⟨Nat.le_of_ble_eq_true rfl, Nat.le_of_ble_eq_true rfl⟩ hP hS (kd_k kdc_8 (by decide)) (wc4 kdc_8) rfl hl.1 rfl (Nat.le_of_ble_eq_true rfl) dL_law_1131 ⟨by show (1000 + 2 * i + 2) + 0 ≤ 633173; omega, by show (20000 + 8 * i + 12) + 0 ≤ 7196550; omega⟩ (fun H locs hP hS => ?_)
  replace hP : va_P (gD G) vwCl (wld G lo1 σ2) H := hP
  refine W.eq (g2 := F0 m 1134 ls [.int v]) rfl ?_
  refine lv_istore (lv' := [(6, .int v), (5, .int k), (0, .ref b), (1, .ref (gA G 0)), (2, .ref (gA G 8)), (3, .ref (gA G 25)), (4, .int (nI i))]) hx hb dL_law_1134 hl (by decide) rfl (fun ls hl => ?_)
  refine lv_aload_n hx hb dL_law_1136 rfl (lv_at hl 4 rfl) ?_
  refine xVl F (c_X4_thrown (rfl : f_X4_thrown σ2 = some (.inl (some (.inl (σ2 8 0)))))) rfl tk_624 tk_621 tk_622 tk_623 tk_6 rfl 0 (by decide +kernel) rfl ⟨Nat.le_of_ble_eq_true rfl, Nat.le_of_ble_eq_true rfl⟩ hP hS (kd_k kdc_8 (by decide)) (wc4 kdc_8) rfl hl.1 rfl (Nat.le_of_ble_eq_true rfl) dL_law_1137 ⟨by show ((1000 + 2 * i + 2) + 0) + 0 ≤ 633173; omega, by show ((20000 + 8 * i + 12) + 0) + 0 ≤ 7196550; omega⟩ (fun H locs hP hS => ?_)
  replace hP : va_P (gD G) vwCl (wld G lo1 σ2) H := hP
  refine W.eq (g2 := F0 m 1140 ls [.int (σ2 8 0)]) rfl ?_
  refine lv_iload hx hb dL_law_1140 (lv_at hl 1 rfl) ?_
  refine lv_icmp_eq (tgt := 1147) hx hb dL_law_1142 (by decide) (fun b1 => ?_) (fun b1 => ?_)
  rotate_left
  · exact absurd hth b1
  refine lv_iload hx hb dL_law_1147 (lv_at hl 1 rfl) ?_
  refine lv_if_ne (tgt := 1164) hx hb dL_law_1149 (by decide) (fun b2 => ?_) (fun b2 => ?_)
  · refine lv_goto (tgt := 1248) hx hb dL_law_1164 (by decide) ?_
    refine lv_iinc (v := (nI i + 4)) (lv' := [(4, .int (nI i + 4)), (6, .int v), (5, .int k), (0, .ref b), (1, .ref (gA G 0)), (2, .ref (gA G 8)), (3, .ref (gA G 25))]) hx hb dL_law_1248 hl (k := 6) rfl rfl (by decide) rfl (fun ls hl => ?_)
    rw [e4] at hl
    refine lv_goto (tgt := 33) hx hb dL_law_1251 (by decide) ?_
    refine W.widen (k := 1000 + 2 * (i + 4)) (n := 20000 + 8 * (i + 4)) (by omega) (by omega) ?_
    exact ih (i + 4) lo1 σ2 (by omega) (by omega) hI2 _ _ hP hS _ (lv_sub hl [3, 4, 5, 6, 0] rfl)
  · refine lv_aload_n hx hb dL_law_1152 rfl (lv_at hl 5 rfl) ?_
    refine lv_iconst (v := 0) hx hb dL_law_1153 (by decide) ?_
    refine xLl F hP dL_law_1154 ?_
    refine lv_iload hx hb dL_law_1155 (lv_at hl 0 rfl) ?_
    refine lv_i2l (v := v.toInt64) hx hb dL_law_1157 rfl ?_
    refine W.lcmp hx hb dL_law_1158 ?_
    refine lv_if_eq (tgt := 1164) hx hb dL_law_1159 (by decide) (fun b3 => ?_) (fun b3 => absurd ((lg_cmp_eq _ _).mpr (hlo b2)) b3)
    refine lv_goto (tgt := 1248) hx hb dL_law_1164 (by decide) ?_
    refine lv_iinc (v := (nI i + 4)) (lv' := [(4, .int (nI i + 4)), (6, .int v), (5, .int k), (0, .ref b), (1, .ref (gA G 0)), (2, .ref (gA G 8)), (3, .ref (gA G 25))]) hx hb dL_law_1248 hl (k := 6) rfl rfl (by decide) rfl (fun ls hl => ?_)
    rw [e4] at hl
    refine lv_goto (tgt := 33) hx hb dL_law_1251 (by decide) ?_
    refine W.widen (k := 1000 + 2 * (i + 4)) (n := 20000 + 8 * (i + 4)) (by omega) (by omega) ?_
    exact ih (i + 4) lo1 σ2 (by omega) (by omega) hI2 _ _ hP hS _ (lv_sub hl [3, 4, 5, 6, 0] rfl)
set_option maxHeartbeats 4000000 in
set_option maxRecDepth 100000 in
theorem law_late {p : Program} {l : Launch} {e : Env} {s : State} {m : MethodId} {below : List Frame} {meth : Method} {c : Code} {b L : Nat} {xs : Nat → Int32} {G : GT} {Inv : Nat → St → Prop} (PS : PSall Inv) (F : Fl p l s #[Value.ref b] m c G) (hX : va_X b L xs s s.heap) (hbl : b < s.heap.size) (hbA : ¬ gF G b) (hL : L ≤ 2049) {i : Nat} (hi : i + 4 ≤ L) {lo : Nat → Int64} {σ : St} (hI : Inv i σ) {H : Heap} {locs : List Loc} (hP : va_P (gD G) vwCl (wld G lo σ) H) (hS : va_S (gF G) s.heap H locs) {ls : Array Slot} (hl : lv_has ls 7 [(0, .ref b), (1, .ref (gA G 0)), (2, .ref (gA G 8)), (3, .ref (gA G 25)), (4, .int (nI i))])
    (ih : ∀ (j : Nat) (lo : Nat → Int64) (σ : St), j = i + 4 → j ≤ L → Inv j σ → ∀ (H : Heap) (locs : List Loc), va_P (gD G) vwCl (wld G lo σ) H → va_S (gF G) s.heap H locs → ∀ ls : Array Slot, lv_has ls 7 [(0, .ref b), (1, .ref (gA G 0)), (2, .ref (gA G 8)), (3, .ref (gA G 25)), (4, .int (nI j))] → W p l e room_1 s m #[Value.ref b] below meth c H locs (1000 + 2 * j) (20000 + 8 * j) (lw_Z below #[Value.ref b] s) (F0 m 33 ls [])) :
    W p l e room_1 s m #[Value.ref b] below meth c H locs (1000 + 2 * i) (20000 + 8 * i) (lw_Z below #[Value.ref b] s) (F0 m 1167 ls []) := by
  obtain ⟨hx, hb, hml, hown, hts, hC, hnc, hst⟩ := id F
  have e4 : nI i + 4 = nI (i + 4) := nI_add i 4
  have hi1 : vp_in (nI i + 1) L := law_ix (j := 1) hL (by omega)
  have hroom : ∀ mc : Nat, mc ≤ 5 → i + 4 ≤ L → (1000 + 2 * i) + mc ≤ room_1.cells := fun mc h1 h2 => by show _ ≤ 633173; omega
  have hroos : ∀ ms : Nat, ms ≤ 30 → i + 4 ≤ L → (20000 + 8 * i) + ms ≤ room_1.slots := fun ms h1 h2 => by show _ ≤ 7196550; omega
  obtain ⟨rv, k, v, σ2, hf1, hf2, hag, hth, hI2⟩ := PS.2.2.2.2.2.2.2.2.2.2.2.2.2.2.2.2.1 i (by omega) σ hI (xs (nI i + 1).toNatClampNeg)
  obtain ⟨lo1, hk, hlo⟩ := hag.o lo
  refine lv_aload_n hx hb dL_law_1167 rfl (lv_at hl 1 rfl) ?_
  refine lv_aload_n hx hb dL_law_1168 rfl (lv_at hl 0 rfl) ?_
  refine lv_iload hx hb dL_law_1169 (lv_at hl 4 rfl) ?_
  refine lv_iconst (v := 1) hx hb dL_law_1171 (by decide) ?_
  refine lv_iadd hx hb dL_law_1172 ?_
  refine va_sld hx hb hX hbl hbA hS hi1 dL_law_1173 ?_
  refine lv_aload_n hx hb dL_law_1174 rfl (lv_at hl 3 rfl) ?_
  refine xHl F (h_late hf1 hk) tk_541 tk_539 tk_540 tk_0 rfl 3 (by decide +kernel) rfl ⟨Nat.le_of_ble_eq_true rfl, Nat.le_of_ble_eq_true rfl⟩ hP hS hl.1 rfl (Nat.le_of_ble_eq_true rfl) dL_law_1175 ⟨hroom _ (by decide) hi, hroos _ (by decide) hi⟩ (fun H locs hP hS => ?_)
  replace hP : va_P (gD G) vwCl (wld G lo1 σ) H := hP
  refine lv_istore (lv' := [(5, .int k), (0, .ref b), (1, .ref (gA G 0)), (2, .ref (gA G 8)), (3, .ref (gA G 25)), (4, .int (nI i))]) hx hb dL_law_1178 hl (by decide) rfl (fun ls hl => ?_)
  refine lv_aload_n hx hb dL_law_1180 rfl (lv_at hl 3 rfl) ?_
  refine lv_aload_n hx hb dL_law_1181 rfl (lv_at hl 1 rfl) ?_
  refine lv_iload hx hb dL_law_1182 (lv_at hl 5 rfl) ?_
  refine lv_iconst (v := 1) hx hb dL_law_1184 (by decide) ?_
  refine lv_iadd hx hb dL_law_1185 ?_
  refine va_sld hx hb hX hbl hbA hS hi1 dL_law_1186 ?_
  refine xVl F (c_X4_late hf2) rfl tk_775 tk_772 tk_773 tk_774 tk_6 rfl 1 (by decide +kernel) rfl ⟨Nat.le_of_ble_eq_true rfl, Nat.le_of_ble_eq_true rfl⟩ hP hS (kd_k kdc_8 (by decide)) (wc4 kdc_8) rfl hl.1 rfl (Nat.le_of_ble_eq_true rfl) dL_law_1187 ⟨by show (1000 + 2 * i + 1) + 0 ≤ 633173; omega, by show (20000 + 8 * i + 6) + 0 ≤ 7196550; omega⟩ (fun H locs hP hS => ?_)
  replace hP : va_P (gD G) vwCl (wld G lo1 σ2) H := hP
  refine W.eq (g2 := F0 m 1190 ls [.int v]) rfl ?_
  refine lv_istore (lv' := [(6, .int v), (5, .int k), (0, .ref b), (1, .ref (gA G 0)), (2, .ref (gA G 8)), (3, .ref (gA G 25)), (4, .int (nI i))]) hx hb dL_law_1190 hl (by decide) rfl (fun ls hl => ?_)
  refine lv_aload_n hx hb dL_law_1192 rfl (lv_at hl 4 rfl) ?_
  refine xVl F (c_X4_thrown (rfl : f_X4_thrown σ2 = some (.inl (some (.inl (σ2 8 0)))))) rfl tk_624 tk_621 tk_622 tk_623 tk_6 rfl 0 (by decide +kernel) rfl ⟨Nat.le_of_ble_eq_true rfl, Nat.le_of_ble_eq_true rfl⟩ hP hS (kd_k kdc_8 (by decide)) (wc4 kdc_8) rfl hl.1 rfl (Nat.le_of_ble_eq_true rfl) dL_law_1193 ⟨by show ((1000 + 2 * i + 1) + 0) + 0 ≤ 633173; omega, by show ((20000 + 8 * i + 6) + 0) + 0 ≤ 7196550; omega⟩ (fun H locs hP hS => ?_)
  replace hP : va_P (gD G) vwCl (wld G lo1 σ2) H := hP
  refine W.eq (g2 := F0 m 1196 ls [.int (σ2 8 0)]) rfl ?_
  refine lv_iload hx hb dL_law_1196 (lv_at hl 1 rfl) ?_
  refine lv_icmp_eq (tgt := 1203) hx hb dL_law_1198 (by decide) (fun b1 => ?_) (fun b1 => ?_)
  rotate_left
  · exact absurd hth b1
  refine lv_iload hx hb dL_law_1203 (lv_at hl 1 rfl) ?_
  refine lv_if_ne (tgt := 1220) hx hb dL_law_1205 (by decide) (fun b2 => ?_) (fun b2 => ?_)
  · refine lv_goto (tgt := 1248) hx hb dL_law_1220 (by decide) ?_
    refine lv_iinc (v := (nI i + 4)) (lv' := [(4, .int (nI i + 4)), (6, .int v), (5, .int k), (0, .ref b), (1, .ref (gA G 0)), (2, .ref (gA G 8)), (3, .ref (gA G 25))]) hx hb dL_law_1248 hl (k := 6) rfl rfl (by decide) rfl (fun ls hl => ?_)
    rw [e4] at hl
    refine lv_goto (tgt := 33) hx hb dL_law_1251 (by decide) ?_
    refine W.widen (k := 1000 + 2 * (i + 4)) (n := 20000 + 8 * (i + 4)) (by omega) (by omega) ?_
    exact ih (i + 4) lo1 σ2 (by omega) (by omega) hI2 _ _ hP hS _ (lv_sub hl [3, 4, 5, 6, 0] rfl)
  · refine lv_aload_n hx hb dL_law_1208 rfl (lv_at hl 5 rfl) ?_
    refine lv_iconst (v := 0) hx hb dL_law_1209 (by decide) ?_
    refine xLl F hP dL_law_1210 ?_
    refine lv_iload hx hb dL_law_1211 (lv_at hl 0 rfl) ?_
    refine lv_i2l (v := v.toInt64) hx hb dL_law_1213 rfl ?_
    refine W.lcmp hx hb dL_law_1214 ?_
    refine lv_if_eq (tgt := 1220) hx hb dL_law_1215 (by decide) (fun b3 => ?_) (fun b3 => absurd ((lg_cmp_eq _ _).mpr (hlo b2)) b3)
    refine lv_goto (tgt := 1248) hx hb dL_law_1220 (by decide) ?_
    refine lv_iinc (v := (nI i + 4)) (lv' := [(4, .int (nI i + 4)), (6, .int v), (5, .int k), (0, .ref b), (1, .ref (gA G 0)), (2, .ref (gA G 8)), (3, .ref (gA G 25))]) hx hb dL_law_1248 hl (k := 6) rfl rfl (by decide) rfl (fun ls hl => ?_)
    rw [e4] at hl
    refine lv_goto (tgt := 33) hx hb dL_law_1251 (by decide) ?_
    refine W.widen (k := 1000 + 2 * (i + 4)) (n := 20000 + 8 * (i + 4)) (by omega) (by omega) ?_
    exact ih (i + 4) lo1 σ2 (by omega) (by omega) hI2 _ _ hP hS _ (lv_sub hl [3, 4, 5, 6, 0] rfl)
set_option maxHeartbeats 4000000 in
set_option maxRecDepth 100000 in
theorem law_count {p : Program} {l : Launch} {e : Env} {s : State} {m : MethodId} {below : List Frame} {meth : Method} {c : Code} {b L : Nat} {xs : Nat → Int32} {G : GT} {Inv : Nat → St → Prop} (PS : PSall Inv) (F : Fl p l s #[Value.ref b] m c G) (hX : va_X b L xs s s.heap) (hbl : b < s.heap.size) (hbA : ¬ gF G b) (hL : L ≤ 2049) {i : Nat} (hi : i + 4 ≤ L) {lo : Nat → Int64} {σ : St} (hI : Inv i σ) {H : Heap} {locs : List Loc} (hP : va_P (gD G) vwCl (wld G lo σ) H) (hS : va_S (gF G) s.heap H locs) {ls : Array Slot} (hl : lv_has ls 7 [(0, .ref b), (1, .ref (gA G 0)), (2, .ref (gA G 8)), (3, .ref (gA G 25)), (4, .int (nI i))])
    (ih : ∀ (j : Nat) (lo : Nat → Int64) (σ : St), j = i + 4 → j ≤ L → Inv j σ → ∀ (H : Heap) (locs : List Loc), va_P (gD G) vwCl (wld G lo σ) H → va_S (gF G) s.heap H locs → ∀ ls : Array Slot, lv_has ls 7 [(0, .ref b), (1, .ref (gA G 0)), (2, .ref (gA G 8)), (3, .ref (gA G 25)), (4, .int (nI j))] → W p l e room_1 s m #[Value.ref b] below meth c H locs (1000 + 2 * j) (20000 + 8 * j) (lw_Z below #[Value.ref b] s) (F0 m 33 ls [])) :
    W p l e room_1 s m #[Value.ref b] below meth c H locs (1000 + 2 * i) (20000 + 8 * i) (lw_Z below #[Value.ref b] s) (F0 m 1223 ls []) := by
  obtain ⟨hx, hb, hml, hown, hts, hC, hnc, hst⟩ := id F
  have e4 : nI i + 4 = nI (i + 4) := nI_add i 4
  have hi1 : vp_in (nI i + 1) L := law_ix (j := 1) hL (by omega)
  have hroom : ∀ mc : Nat, mc ≤ 5 → i + 4 ≤ L → (1000 + 2 * i) + mc ≤ room_1.cells := fun mc h1 h2 => by show _ ≤ 633173; omega
  have hroos : ∀ ms : Nat, ms ≤ 30 → i + 4 ≤ L → (20000 + 8 * i) + ms ≤ room_1.slots := fun ms h1 h2 => by show _ ≤ 7196550; omega
  obtain ⟨v, σ2, hf1, hf2, hI2⟩ := PS.2.2.2.2.2.2.2.2.2.2.2.2.2.2.2.2.2 i (by omega) σ hI (xs (nI i + 1).toNatClampNeg)
  refine lv_aload_n hx hb dL_law_1223 rfl (lv_at hl 1 rfl) ?_
  refine lv_aload_n hx hb dL_law_1224 rfl (lv_at hl 0 rfl) ?_
  refine lv_iload hx hb dL_law_1225 (lv_at hl 4 rfl) ?_
  refine lv_iconst (v := 1) hx hb dL_law_1227 (by decide) ?_
  refine lv_iadd hx hb dL_law_1228 ?_
  refine va_sld hx hb hX hbl hbA hS hi1 dL_law_1229 ?_
  refine xVl F (c_X3_count hf1) rfl tk_139 tk_136 tk_137 tk_138 tk_1 rfl 1 (by decide +kernel) rfl ⟨Nat.le_of_ble_eq_true rfl, Nat.le_of_ble_eq_true rfl⟩ hP hS (kd_k kdc_0 (by decide)) (wc3 kdc_0) rfl hl.1 rfl (Nat.le_of_ble_eq_true rfl) dL_law_1230 ⟨by show (1000 + 2 * i) + 0 ≤ 633173; omega, by show (20000 + 8 * i) + 0 ≤ 7196550; omega⟩ (fun H locs hP hS => ?_)
  replace hP : va_P (gD G) vwCl (wld G lo σ) H := hP
  refine W.eq (g2 := F0 m 1233 ls [.int v]) rfl ?_
  refine lv_aload_n hx hb dL_law_1233 rfl (lv_at hl 2 rfl) ?_
  refine lv_aload_n hx hb dL_law_1234 rfl (lv_at hl 0 rfl) ?_
  refine lv_iload hx hb dL_law_1235 (lv_at hl 4 rfl) ?_
  refine lv_iconst (v := 1) hx hb dL_law_1237 (by decide) ?_
  refine lv_iadd hx hb dL_law_1238 ?_
  refine va_sld hx hb hX hbl hbA hS hi1 dL_law_1239 ?_
  refine xVl F (c_X4_count hf2) rfl tk_779 tk_776 tk_777 tk_778 tk_6 rfl 1 (by decide +kernel) rfl ⟨Nat.le_of_ble_eq_true rfl, Nat.le_of_ble_eq_true rfl⟩ hP hS (kd_k kdc_8 (by decide)) (wc4 kdc_8) rfl hl.1 rfl (Nat.le_of_ble_eq_true rfl) dL_law_1240 ⟨by show ((1000 + 2 * i) + 0) + 0 ≤ 633173; omega, by show ((20000 + 8 * i) + 0) + 0 ≤ 7196550; omega⟩ (fun H locs hP hS => ?_)
  replace hP : va_P (gD G) vwCl (wld G lo σ2) H := hP
  refine W.eq (g2 := F0 m 1243 ls [.int v, .int v]) rfl ?_
  refine lv_icmp_eq (tgt := 1248) hx hb dL_law_1243 (by decide) (fun b1 => ?_) (fun b1 => ?_)
  rotate_left
  · exact absurd rfl b1
  refine lv_iinc (v := (nI i + 4)) (lv' := [(4, .int (nI i + 4)), (0, .ref b), (1, .ref (gA G 0)), (2, .ref (gA G 8)), (3, .ref (gA G 25))]) hx hb dL_law_1248 hl (k := 4) rfl rfl (by decide) rfl (fun ls hl => ?_)
  rw [e4] at hl
  refine lv_goto (tgt := 33) hx hb dL_law_1251 (by decide) ?_
  refine W.widen (k := 1000 + 2 * (i + 4)) (n := 20000 + 8 * (i + 4)) (by omega) (by omega) ?_
  exact ih (i + 4) lo σ2 (by omega) (by omega) hI2 _ _ hP hS _ (lv_sub hl [1, 2, 3, 4, 0] rfl)
set_option maxHeartbeats 4000000 in
set_option maxRecDepth 100000 in
/-- the law's loop: where class and reference answer alike in every step, it comes to its end with true -/
theorem law_loop {p : Program} {l : Launch} {e : Env} {s : State} {m : MethodId} {below : List Frame} {meth : Method} {c : Code} {b L : Nat} {xs : Nat → Int32} {G : GT} {Inv : Nat → St → Prop} (PS : PSall Inv) (hmon : ∀ n σ, Inv n σ → Inv (n + 4) σ) (F : Fl p l s #[Value.ref b] m c G) (hr : meth.sig.returnType = ret) (hlocks : meth.locks = false) (hF : gF G = fun q => s.heap.size ≤ q) (hX : va_X b L xs s s.heap) (hbl : b < s.heap.size) (hL : L ≤ 2049) :
    ∀ (n i : Nat) (lo : Nat → Int64) (σ : St), i ≤ L + 1 → L + 2 ≤ i + n → Inv i σ → ∀ (H : Heap) (locs : List Loc), va_P (gD G) vwCl (wld G lo σ) H → va_S (gF G) s.heap H locs → ∀ ls : Array Slot, lv_has ls 7 [(0, .ref b), (1, .ref (gA G 0)), (2, .ref (gA G 8)), (3, .ref (gA G 25)), (4, .int (nI i))] → W p l e room_1 s m #[Value.ref b] below meth c H locs (1000 + 2 * i) (20000 + 8 * i) (lw_Z below #[Value.ref b] s) (F0 m 33 ls []) := by
  obtain ⟨hx, hb, hml, hown, hts, hC, hnc, hst⟩ := id F
  have hbA : ¬ gF G b := by rw [hF]; exact Nat.not_le.mpr hbl
  intro n
  induction n with
  | zero =>
    intro i lo σ h1 h2
    exact absurd h2 (by omega)
  | succ n ih =>
    intro i lo σ hi hn hI H locs hP hS ls hl
    refine lv_iload hx hb dL_law_33 (lv_at hl 4 rfl) ?_
    refine lv_aload_n hx hb dL_law_35 rfl (lv_at hl 0 rfl) ?_
    refine va_slen hx hb hX hbl hbA hS dL_law_36 ?_
    refine lv_iconst (v := 4) hx hb dL_law_37 (by decide) ?_
    refine lv_isub hx hb dL_law_38 ?_
    refine lv_icmp_gt (tgt := 1254) hx hb dL_law_39 (by decide) (fun b1 => ?_) (fun b1 => ?_)
    · refine lv_iconst (v := 1) hx hb dL_law_1254 (by decide) ?_
      refine va_forget (fun q hq => by have := hS.2.2 q hq; rw [hF] at this; exact this) ?_
      refine W.widen (k := 633173) (n := 7196550) (by omega) (by omega) ?_
      exact lw_ret hx hb hr hlocks dL_law_1255
    · have hi4 : i + 4 ≤ L := law_in hL (by omega) b1
      refine lv_aload_n hx hb dL_law_42 rfl (lv_at hl 0 rfl) ?_
      refine lv_iload hx hb dL_law_43 (lv_at hl 4 rfl) ?_
      refine va_sld hx hb hX hbl hbA hS (vp_in_nI (n := i) (by omega) (by omega)) dL_law_45 ?_
      refine lv_bipush (v := 31) hx hb dL_law_46 (by decide) ?_
      refine lv_iand hx hb dL_law_48 ?_
      have ih2 : ∀ (j : Nat) (lo : Nat → Int64) (σ : St), j = i + 4 → j ≤ L → Inv j σ → ∀ (H : Heap) (locs : List Loc), va_P (gD G) vwCl (wld G lo σ) H → va_S (gF G) s.heap H locs → ∀ ls : Array Slot, lv_has ls 7 [(0, .ref b), (1, .ref (gA G 0)), (2, .ref (gA G 8)), (3, .ref (gA G 25)), (4, .int (nI j))] → W p l e room_1 s m #[Value.ref b] below meth c H locs (1000 + 2 * j) (20000 + 8 * j) (lw_Z below #[Value.ref b] s) (F0 m 33 ls []) := fun j lo σ hj hjL hI H locs hP hS ls hl => ih j lo σ (by omega) (by omega) hI H locs hP hS ls hl
      by_cases c0 : xs (nI i).toNatClampNeg &&& 31 = 0
      · refine lv_tableIn (off := 87) (tgt := 136) hx hb dL_law_49 (by rw [c0]; decide) (by rw [c0]; decide) (by rw [c0]; rfl) (by decide) ?_
        exact law_order PS F hX hbl hbA hL hi4 hI hP hS hl ih2
      by_cases c1 : xs (nI i).toNatClampNeg &&& 31 = 1
      · refine lv_tableIn (off := 167) (tgt := 216) hx hb dL_law_49 (by rw [c1]; decide) (by rw [c1]; decide) (by rw [c1]; rfl) (by decide) ?_
        exact law_line PS F hX hbl hbA hL hi4 hI hP hS hl ih2
      by_cases c2 : xs (nI i).toNatClampNeg &&& 31 = 2
      · refine lv_tableIn (off := 247) (tgt := 296) hx hb dL_law_49 (by rw [c2]; decide) (by rw [c2]; decide) (by rw [c2]; rfl) (by decide) ?_
        exact law_carrier PS F hX hbl hbA hL hi4 hI hP hS hl ih2
      by_cases c3 : xs (nI i).toNatClampNeg &&& 31 = 3
      · refine lv_tableIn (off := 295) (tgt := 344) hx hb dL_law_49 (by rw [c3]; decide) (by rw [c3]; decide) (by rw [c3]; rfl) (by decide) ?_
        exact law_hour PS F hX hbl hbA hL hi4 hI hP hS hl ih2
      by_cases c4 : xs (nI i).toNatClampNeg &&& 31 = 4
      · refine lv_tableIn (off := 375) (tgt := 424) hx hb dL_law_49 (by rw [c4]; decide) (by rw [c4]; decide) (by rw [c4]; rfl) (by decide) ?_
        exact law_stock PS F hX hbl hbA hL hi4 hI hP hS hl ih2
      by_cases c5 : xs (nI i).toNatClampNeg &&& 31 = 5
      · refine lv_tableIn (off := 423) (tgt := 472) hx hb dL_law_49 (by rw [c5]; decide) (by rw [c5]; decide) (by rw [c5]; rfl) (by decide) ?_
        exact law_plan PS F hX hbl hbA hL hi4 hI hP hS hl ih2
      by_cases c6 : xs (nI i).toNatClampNeg &&& 31 = 6
      · refine lv_tableIn (off := 467) (tgt := 516) hx hb dL_law_49 (by rw [c6]; decide) (by rw [c6]; decide) (by rw [c6]; rfl) (by decide) ?_
        exact law_wave PS F hX hbl hbA hL hi4 hI hP hS hl ih2
      by_cases c7 : xs (nI i).toNatClampNeg &&& 31 = 7
      · refine lv_tableIn (off := 523) (tgt := 572) hx hb dL_law_49 (by rw [c7]; decide) (by rw [c7]; decide) (by rw [c7]; rfl) (by decide) ?_
        exact law_told PS F hX hbl hbA hL hi4 hI hP hS hl ih2
      by_cases c8 : xs (nI i).toNatClampNeg &&& 31 = 8
      · refine lv_tableIn (off := 591) (tgt := 640) hx hb dL_law_49 (by rw [c8]; decide) (by rw [c8]; decide) (by rw [c8]; rfl) (by decide) ?_
        exact law_member PS F hX hbl hbA hL hi4 hI hP hS hl ih2
      by_cases c9 : xs (nI i).toNatClampNeg &&& 31 = 9
      · refine lv_tableIn (off := 659) (tgt := 708) hx hb dL_law_49 (by rw [c9]; decide) (by rw [c9]; decide) (by rw [c9]; rfl) (by decide) ?_
        exact law_replenish PS F hX hbl hbA hL hi4 hI hP hS hl ih2
      by_cases c10 : xs (nI i).toNatClampNeg &&& 31 = 10
      · refine lv_tableIn (off := 727) (tgt := 776) hx hb dL_law_49 (by rw [c10]; decide) (by rw [c10]; decide) (by rw [c10]; rfl) (by decide) ?_
        exact law_lacks PS F hX hbl hbA hL hi4 hI hP hS hl ih2
      by_cases c11 : xs (nI i).toNatClampNeg &&& 31 = 11
      · refine lv_tableIn (off := 795) (tgt := 844) hx hb dL_law_49 (by rw [c11]; decide) (by rw [c11]; decide) (by rw [c11]; rfl) (by decide) ?_
        exact law_release PS F hX hbl hbA hL hi4 hI hP hS hl ih2
      by_cases c12 : xs (nI i).toNatClampNeg &&& 31 = 12
      · refine lv_tableIn (off := 851) (tgt := 900) hx hb dL_law_49 (by rw [c12]; decide) (by rw [c12]; decide) (by rw [c12]; rfl) (by decide) ?_
        exact law_done PS F hX hbl hbA hL hi4 hI hP hS hl ih2
      by_cases c13 : xs (nI i).toNatClampNeg &&& 31 = 13
      · refine lv_tableIn (off := 907) (tgt := 956) hx hb dL_law_49 (by rw [c13]; decide) (by rw [c13]; decide) (by rw [c13]; rfl) (by decide) ?_
        exact law_change PS F hX hbl hbA hL hi4 hI hP hS hl ih2
      by_cases c14 : xs (nI i).toNatClampNeg &&& 31 = 14
      · refine lv_tableIn (off := 982) (tgt := 1031) hx hb dL_law_49 (by rw [c14]; decide) (by rw [c14]; decide) (by rw [c14]; rfl) (by decide) ?_
        exact law_join PS F hX hbl hbA hL hi4 hI hP hS hl ih2
      by_cases c15 : xs (nI i).toNatClampNeg &&& 31 = 15
      · refine lv_tableIn (off := 1050) (tgt := 1099) hx hb dL_law_49 (by rw [c15]; decide) (by rw [c15]; decide) (by rw [c15]; rfl) (by decide) ?_
        exact law_cutoff PS F hX hbl hbA hL hi4 hI hP hS hl ih2
      by_cases c16 : xs (nI i).toNatClampNeg &&& 31 = 16
      · refine lv_tableIn (off := 1118) (tgt := 1167) hx hb dL_law_49 (by rw [c16]; decide) (by rw [c16]; decide) (by rw [c16]; rfl) (by decide) ?_
        exact law_late PS F hX hbl hbA hL hi4 hI hP hS hl ih2
      by_cases c17 : xs (nI i).toNatClampNeg &&& 31 = 17
      · refine lv_tableIn (off := 1174) (tgt := 1223) hx hb dL_law_49 (by rw [c17]; decide) (by rw [c17]; decide) (by rw [c17]; rfl) (by decide) ?_
        exact law_count PS F hX hbl hbA hL hi4 hI hP hS hl ih2
      have z0 := lv_neT c0 (a := 0) rfl
      have z1 := lv_neT c1 (a := 1) rfl
      have z2 := lv_neT c2 (a := 2) rfl
      have z3 := lv_neT c3 (a := 3) rfl
      have z4 := lv_neT c4 (a := 4) rfl
      have z5 := lv_neT c5 (a := 5) rfl
      have z6 := lv_neT c6 (a := 6) rfl
      have z7 := lv_neT c7 (a := 7) rfl
      have z8 := lv_neT c8 (a := 8) rfl
      have z9 := lv_neT c9 (a := 9) rfl
      have z10 := lv_neT c10 (a := 10) rfl
      have z11 := lv_neT c11 (a := 11) rfl
      have z12 := lv_neT c12 (a := 12) rfl
      have z13 := lv_neT c13 (a := 13) rfl
      have z14 := lv_neT c14 (a := 14) rfl
      have z15 := lv_neT c15 (a := 15) rfl
      have z16 := lv_neT c16 (a := 16) rfl
      have z17 := lv_neT c17 (a := 17) rfl
      refine lv_tableOut (tgt := 1248) hx hb dL_law_49 (by omega) (by decide) ?_
      refine lv_iinc (v := (nI i + 4)) (lv' := [(4, .int (nI i + 4)), (0, .ref b), (1, .ref (gA G 0)), (2, .ref (gA G 8)), (3, .ref (gA G 25))]) hx hb dL_law_1248 hl (k := 4) rfl rfl (by decide) rfl (fun ls hl => ?_)
      rw [show nI i + 4 = nI (i + 4) from nI_add i 4] at hl
      refine lv_goto (tgt := 33) hx hb dL_law_1251 (by decide) ?_
      refine W.widen (k := 1000 + 2 * (i + 4)) (n := 20000 + 8 * (i + 4)) (by omega) (by omega) ?_
      exact ih2 (i + 4) lo σ rfl hi4 (hmon i σ hI) _ _ hP hS _ (lv_sub hl [1, 2, 3, 4, 0] rfl)
