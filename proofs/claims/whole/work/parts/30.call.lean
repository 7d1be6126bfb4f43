/-! ===== from the law's entry to its loop ===== -/
theorem czz_m (x : Int32) : czz x = (if 0 ≤ x then (if x ≤ 65536 then x else 65536) else 0) := by
  unfold czz
  by_cases h1 : 65536 < x
  · rw [if_pos h1, if_pos (show (0 : Int32) < 65536 by decide), if_pos (show 0 ≤ x by grind), if_neg (show ¬ x ≤ 65536 by grind)]
  · rw [if_neg h1]
    by_cases h2 : 0 < x
    · rw [if_pos h2, if_pos (show 0 ≤ x by grind), if_pos (show x ≤ 65536 by grind)]
    · rw [if_neg h2]
      by_cases h3 : 0 ≤ x
      · rw [if_pos h3, if_pos (show x ≤ 65536 by grind)]; grind
      · rw [if_neg h3]
theorem czz_b (x : Int32) : ∃ c, c ≤ 65536 ∧ czz x = nI c := by
  rw [czz_m]
  by_cases h1 : 0 ≤ x
  · rw [if_pos h1]
    by_cases h2 : x ≤ 65536
    · rw [if_pos h2]
      obtain ⟨n, hn, rfl⟩ := pz_ex (x := x) (by grind)
      exact ⟨n, (pz_le hn (by decide : 65536 < 2147483648)).mp h2, rfl⟩
    · rw [if_neg h2]; exact ⟨65536, by omega, rfl⟩
  · rw [if_neg h1]; exact ⟨0, by omega, rfl⟩
/-- cell(script, 0) -/
def cl0 (L : Nat) (xs : Nat → Int32) : Int32 := if L = 0 then 0 else xs 0
theorem cell_c {l : Launch} {b L : Nat} {xs : Nat → Int32} (hL : L ≤ 2049) : Met l yL_cell (Cond.code yL_cell cL_cell 2 (some .int) :: TB) (RM 0 0 0 0) (va_Pc [.ref b, .int 0] (fun U => va_X b L xs U U.heap ∧ b < U.heap.size)) (fun _ st oc t => oc = .returned (some (.int (cl0 L xs))) ∧ va_F (fun _ => False) st t) 0 0 (fun _ => False) := by
  refine Met.ofW (cc := cL_cell) (maxL := 2) (ret := some .int) (by decide) rfl ?_
  intro p e s m args below meth c s₁ B9 hml hv
  obtain ⟨rfl, hX, hbl⟩ := hv
  have hx := B9.exec
  have hb := B9.bytes
  have hl := lv_entry [.ref b, .int 0] (n := 2) (Nat.le_of_ble_eq_true rfl)
  rw [lg_entry_eq]
  have hS : va_S (fun _ => False) s.heap s.heap [] := va_S.rf
  have fin : ∀ (v : Int32) (ls : Array Slot), v = cl0 L xs → W p l e (RM 0 0 0 0) s m ([.ref b, .int 0] : List Value).toArray below meth c s.heap [] 0 0 (MQ below (fun _ st oc t => oc = .returned (some (.int (cl0 L xs))) ∧ va_F (fun _ => False) st t) ([.ref b, .int 0] : List Value).toArray s 0 0 (fun _ => False)) (F0 m 13 ls [.int v]) := by
    intro v ls hv
    subst hv
    exact W.iret hx hb B9.returns (fun t ht _ => ⟨rfl, hS.F ht⟩) (fun q hq => by cases hq) dL_cell_13 B9.notSynchronized
  refine lv_iload_n hx hb dL_cell_0 rfl (lv_at hl 1 rfl) ?_
  refine lv_aload_n hx hb dL_cell_1 rfl (lv_at hl 0 rfl) ?_
  refine va_slen hx hb hX hbl (fun h => h) hS dL_cell_2 ?_
  refine lv_icmp_ge (tgt := 12) hx hb dL_cell_3 (by decide) (fun b1 => ?_) (fun b1 => ?_)
  · refine lv_iconst (v := 0) hx hb dL_cell_12 (by decide) ?_
    refine fin _ _ ?_
    have : L ≤ 0 := (pz_le (a := L) (b := 0) (by omega) (by omega)).mp b1
    rw [cl0, if_pos (by omega)]
  · have hL0 : 0 < L := by
      rcases Nat.eq_zero_or_pos L with h | h
      · subst h; exact absurd (show Int32.ofNat 0 ≤ 0 by decide) b1
      · exact h
    refine lv_aload_n hx hb dL_cell_6 rfl (lv_at hl 0 rfl) ?_
    refine lv_iload_n hx hb dL_cell_7 rfl (lv_at hl 1 rfl) ?_
    refine va_sld hx hb hX hbl (fun h => h) hS (vp_in_nI (n := 0) hL0 (by omega)) dL_cell_8 ?_
    refine lv_goto (tgt := 13) hx hb dL_cell_9 (by decide) ?_
    refine fin _ _ ?_
    rw [cl0, if_neg (by omega)]; rfl
section
variable {p : Program} {l : Launch} {e : Env} {R : Room} {s : State} {m : MethodId} {args : Array Value} {below : List Frame} {meth : Method} {c : Code} {H : Heap} {locs : List Loc} {cells slots : Nat} {Q : State → Prop}
variable {cc : ByteArray} {nL : Nat} {own : String} {pc : Nat} {ls : Array Slot} {rest st0 : List Value} {G : GT} {ws : va_W} {B : va_W → Prop} {mc ms : Nat}
/-- a constructor called by the law -/
theorem kIL (hx : p.tables.exec = Jvm.exec) (hb : c.code = cc) (hml : c.maxLocals = nL) (hown : s.vm.findClass own = some m.cls) (hts : ∀ w ∈ TB, w.before args s = true) (hC : Kc G s) {y : MethodName} {bytes : ByteArray} {maxL fr wl index b n : Nat} {As : List Value} (hM : MK l G y bytes maxL fr wl mc ms (.ref b :: As) ws B) (hcode : Cond.code y bytes maxL none ∈ TB) (hlink : Cond.methodLink own index y ∈ TB) (hinst : Cond.instanceMethod y ∈ TB) (hini : Cond.initialized y.cls ∈ TB) (hyn : y.name = "<init>") (hd : y.cls ≠ "java/lang/invoke/MethodHandle" ∧ y.cls ≠ "java/lang/invoke/VarHandle" ∧ (parseMethodDescriptor y.desc).map (fun d => d.parameters.length) = some n) (hn : As.length = n)
    (hR : fr + 1 ≤ R.frames ∧ 8 + (maxL + 11) + wl ≤ R.locals) (hP : va_P (gD G) vwCl ws H) (hD : va_D (gF G) ws) (hS : va_S (gF G) s.heap H locs) (hsize : ls.size = nL) (hst0 : st0 = As.reverse ++ .ref b :: rest) (hW : (rest.map fun v => v.category).sum ≤ 8) (hdg : decode cc pc = .ok (.invokespecial index, 3)) (hf : cells + mc ≤ R.cells ∧ slots + ms ≤ R.slots)
    (kk : ∀ (ws1 : va_W) (H1 : Heap) (locs1 : List Loc), B ws1 → va_P (gD G) vwCl ws1 H1 → va_D (gF G) ws1 → va_S (gF G) s.heap H1 locs1 → W p l e R s m args below meth c H1 locs1 (cells + mc) (slots + ms) Q (F0 m (pc + 3) ls rest)) : W p l e R s m args below meth c H locs cells slots Q (F0 m pc ls st0) := by
  have hp : PreS s H (PK G (.ref b :: As) ws) (.ref b :: As) := ⟨fun a U g mk q => ⟨q.1, q.2.1, q.2.2.1, q.2.2.2.blind g mk a⟩, fun U hU hW => ⟨rfl, by rw [hU]; exact hP, hD, hC.to hW hS hU⟩⟩
  have hr := va_runI (e := e) (below := below) (meth := meth) (locs := locs) (cells := cells) (slots := slots) (g := F0 m pc ls st0) (b := b) (As := As) (rest := rest) ⟨hx, hb, hml, hown, hts⟩ hM ⟨callB_of n hts (gTB hcode) rfl rfl rfl (hts _ hini) (hts _ hlink) hd hR, hyn, hts _ hinst⟩ hp rfl hn hsize hst0 (lv_room hW) hdg hf
  intro T hT X
  obtain ⟨v', st₀, t, T', L, h0, X', hL, e1, e2, ⟨ho, ⟨ws1, hB, hP1, hD1⟩, hF⟩, st⟩ := hr T hT X
  cases ho
  obtain ⟨k1, k2, k3⟩ := vx_keep h0 e1 hS (fun _ _ h => h) (fun _ h => h) hL hF
  obtain ⟨t2, a1, b1⟩ := kk ws1 T'.heap (locs ++ L) hB (by rw [e1]; exact hP1) hD1 k3 T' rfl X'
  exact ⟨t2, st t2 a1, b1⟩
/-- the script's first int -/
theorem kCell (hx : p.tables.exec = Jvm.exec) (hb : c.code = cc) (hml : c.maxLocals = nL) (hown : s.vm.findClass own = some m.cls) (hts : ∀ w ∈ TB, w.before args s = true) {index b L : Nat} {xs : Nat → Int32} (hL : L ≤ 2049) (hX : va_X b L xs s s.heap) (hbl : b < s.heap.size) (hbA : ¬ gF G b) (hcode : Cond.code yL_cell cL_cell 2 (some .int) ∈ TB) (hlink : Cond.methodLink own index yL_cell ∈ TB) (hstat : Cond.static yL_cell ∈ TB) (hini : Cond.initialized RL ∈ TB)
    (hR : 0 + 1 ≤ R.frames ∧ 8 + (2 + 11) + 0 ≤ R.locals) (hP : va_P (gD G) vwCl ws H) (hS : va_S (gF G) s.heap H locs) (hsize : ls.size = nL) (hst0 : st0 = .int 0 :: .ref b :: rest) (hW : (rest.map fun v => v.category).sum ≤ 8) (hdg : decode cc pc = .ok (.invokestatic index, 3)) (hf : cells + 0 ≤ R.cells ∧ slots + 0 ≤ R.slots)
    (kk : ∀ (H1 : Heap) (locs1 : List Loc), va_P (gD G) vwCl ws H1 → va_S (gF G) s.heap H1 locs1 → W p l e R s m args below meth c H1 locs1 cells slots Q (F0 m (pc + 3) ls (.int (cl0 L xs) :: rest))) : W p l e R s m args below meth c H locs cells slots Q (F0 m pc ls st0) := by
  have hp : PreS s H (va_Pc [.ref b, .int 0] (fun U => va_X b L xs U U.heap ∧ b < U.heap.size)) [.ref b, .int 0] := ⟨fun a U g mk q => ⟨q.1, q.2.1.moved (u := U) (U := U.calling g mk a) (Vm.Alike.refl U.vm), q.2.2⟩, fun U hU hW => ⟨rfl, by rw [hU]; exact (hX.kept (hS.2.1 b hbl hbA)).moved hW.alike, by rw [hU]; exact Nat.lt_of_lt_of_le hbl hS.1⟩⟩
  have hr := va_runS (e := e) (below := below) (meth := meth) (locs := locs) (cells := cells) (slots := slots) (g := F0 m pc ls st0) (As := [.ref b, .int 0]) (rest := rest) ⟨hx, hb, hml, hown, hts⟩ (cell_c (l := l) hL) ⟨callB_of 2 hts (gTB hcode) rfl rfl rfl (hts _ hini) (hts _ hlink) (by decide +kernel) hR, hts _ hstat⟩ hp rfl rfl hsize hst0 (lv_room hW) hdg hf
  intro T hT X
  obtain ⟨v', st₀, t, T', L, h0, X', hL, e1, e2, ⟨ho, hF⟩, st⟩ := hr T hT X
  cases ho
  obtain ⟨k1, k2, k3⟩ := vx_keep (A1 := fun _ => False) h0 e1 hS (free := fun _ => False) (fun _ _ (h : False) => h.elim) (fun _ (h : False) => h.elim) hL hF
  have hsame : ∀ q : Nat, q < Array.size H → T'.heap[q]? = H[q]? := fun q hq => k2 q hq (fun h => h)
  obtain ⟨t2, a1, b1⟩ := kk T'.heap (locs ++ L) (hP.kept (fun k x hx => hsame x.1 ((hP k x hx).lt))) k3 T' rfl X'
  exact ⟨t2, st t2 a1, b1⟩
end
