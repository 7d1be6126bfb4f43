/-! ===== the state and the world: 92 cells that stand at fixed places; every int of them by its place and slot ===== -/
abbrev St : Type := Nat → Nat → Int32
def up2 (σ : St) (p k : Nat) (v : Int32) : St := fun q => if q = p then upd (σ p) k v else σ q
/-- classes and slots, array classes, the address of each place, what may be written -/
abbrev GT : Type := va_G × (Nat → ClassId) × (Nat → Nat) × (Nat → Prop)
abbrev gD (G : GT) : va_G := G.1
abbrev gC (G : GT) : Nat → ClassId := G.2.1
abbrev gA (G : GT) : Nat → Nat := G.2.2.1
abbrev gF (G : GT) : Nat → Prop := G.2.2.2
/-- what stands at a place: 0 Docks, 1 Order, 2 Wave, 3 WavePlans, 4 Model, 5 int[], 6 boolean[], 7 Order[], 8 Wave[], 9 long[] -/
def kd (p : Nat) : Nat := if p = 0 then 3 else if p = 1 then 0 else if p < 6 then 5 else if p = 6 then 7 else if p = 7 then 8 else if p = 8 then 4 else if p < 25 then (if p = 15 ∨ p = 20 ∨ p = 24 then 6 else 5) else if p = 25 then 9 else if p < 58 then (if p % 2 = 0 then 1 else 5) else if p < 92 then (if p % 2 = 0 then 2 else 5) else 99
/-- how long the array at a place is -/
def ln (p : Nat) : Nat := if p < 6 then 10 else if p < 16 then 16 else if p = 16 then 160 else if p < 20 then 10 else if p = 20 then 17 else if p = 21 then 10 else if p < 25 then 16 else if p < 58 then 10 else 16
def wcell (G : GT) (lo : Nat → Int64) (σ : St) (p : Nat) : va_E :=
  if kd p = 0 then .inr (0, [.ref (gA G 2), .ref (gA G 3), .ref (gA G 4), .int (σ p 3)])
  else if kd p = 1 then .inr (1, [.int (σ p 0), .int (σ p 1), .int (σ p 2), .int (σ p 3), .int (σ p 4), .ref (gA G (p + 1)), .int (σ p 6), .int (σ p 7), .int (σ p 8)])
  else if kd p = 2 then .inr (2, [.ref (gA G (p + 1)), .int (σ p 1), .int (σ p 2), .int (σ p 3)])
  else if kd p = 3 then .inr (3, [.int (σ p 0), .ref (gA G 1), .ref (gA G 5), .ref (gA G 6), .int (σ p 4), .ref (gA G 7), .int (σ p 6), .ref (gA G 90)])
  else if kd p = 4 then .inr (4, [.int (σ p 0), .int (σ p 1), .int (σ p 2), .ref (gA G 9), .ref (gA G 10), .ref (gA G 11), .ref (gA G 12), .ref (gA G 13), .ref (gA G 14), .ref (gA G 15), .ref (gA G 16), .int (σ p 11), .int (σ p 12), .ref (gA G 17), .ref (gA G 18), .ref (gA G 19), .int (σ p 16), .ref (gA G 20), .ref (gA G 21), .ref (gA G 22), .ref (gA G 23), .ref (gA G 24)])
  else if kd p = 5 then .inl (gC G 0, ln p, .inl (σ p))
  else if kd p = 6 then .inl (gC G 1, ln p, .inl (σ p))
  else if kd p = 7 then .inl (gC G 2, 16, .inr (.inr (.inr (.inr (fun i => some (gA G (26 + 2 * i)))))))
  else if kd p = 8 then .inl (gC G 3, 16, .inr (.inr (.inr (.inr (fun i => some (gA G (58 + 2 * i)))))))
  else .inl (gC G 4, 1, .inr (.inl lo))
section
variable {G : GT} {lo : Nat → Int64} {σ : St} {p : Nat}
theorem wc0 (h : kd p = 0) : wcell G lo σ p = .inr (0, [.ref (gA G 2), .ref (gA G 3), .ref (gA G 4), .int (σ p 3)]) := by simp [wcell, h]
theorem wc1 (h : kd p = 1) : wcell G lo σ p = .inr (1, [.int (σ p 0), .int (σ p 1), .int (σ p 2), .int (σ p 3), .int (σ p 4), .ref (gA G (p + 1)), .int (σ p 6), .int (σ p 7), .int (σ p 8)]) := by simp [wcell, h]
theorem wc2 (h : kd p = 2) : wcell G lo σ p = .inr (2, [.ref (gA G (p + 1)), .int (σ p 1), .int (σ p 2), .int (σ p 3)]) := by simp [wcell, h]
theorem wc3 (h : kd p = 3) : wcell G lo σ p = .inr (3, [.int (σ p 0), .ref (gA G 1), .ref (gA G 5), .ref (gA G 6), .int (σ p 4), .ref (gA G 7), .int (σ p 6), .ref (gA G 90)]) := by simp [wcell, h]
theorem wc4 (h : kd p = 4) : wcell G lo σ p = .inr (4, [.int (σ p 0), .int (σ p 1), .int (σ p 2), .ref (gA G 9), .ref (gA G 10), .ref (gA G 11), .ref (gA G 12), .ref (gA G 13), .ref (gA G 14), .ref (gA G 15), .ref (gA G 16), .int (σ p 11), .int (σ p 12), .ref (gA G 17), .ref (gA G 18), .ref (gA G 19), .int (σ p 16), .ref (gA G 20), .ref (gA G 21), .ref (gA G 22), .ref (gA G 23), .ref (gA G 24)]) := by simp [wcell, h]
theorem wc5 (h : kd p = 5) : wcell G lo σ p = .inl (gC G 0, ln p, .inl (σ p)) := by simp [wcell, h]
theorem wc6 (h : kd p = 6) : wcell G lo σ p = .inl (gC G 1, ln p, .inl (σ p)) := by simp [wcell, h]
theorem wc7 (h : kd p = 7) : wcell G lo σ p = .inl (gC G 2, 16, .inr (.inr (.inr (.inr (fun i => some (gA G (26 + 2 * i))))))) := by simp [wcell, h]
theorem wc8 (h : kd p = 8) : wcell G lo σ p = .inl (gC G 3, 16, .inr (.inr (.inr (.inr (fun i => some (gA G (58 + 2 * i))))))) := by simp [wcell, h]
theorem wc9 (h : kd p = 9) : wcell G lo σ p = .inl (gC G 4, 1, .inr (.inl lo)) := by simp [wcell, h]
end
theorem kd_lt {p : Nat} (h : kd p ≠ 99) : p < 92 := by
  rcases Nat.lt_or_ge p 92 with q | q
  · exact q
  · exact absurd (by unfold kd; simp [show ¬ p = 0 by omega, show ¬ p = 1 by omega, show ¬ p < 6 by omega, show ¬ p = 6 by omega, show ¬ p = 7 by omega, show ¬ p = 8 by omega, show ¬ p < 25 by omega, show ¬ p = 25 by omega, show ¬ p < 58 by omega, show ¬ p < 92 by omega]) h
theorem kd_k {p k : Nat} (h : kd p = k) (hk : k ≠ 99) : p < 92 := kd_lt (by rw [h]; exact hk)
theorem kd_ord {i : Int32} (h : ¬ (i < 0 ∨ 16 ≤ i.toNatClampNeg)) : kd (26 + 2 * i.toNatClampNeg) = 1 := by
  have h2 : i.toNatClampNeg < 16 := Nat.not_le.mp fun q => h (Or.inr q)
  generalize i.toNatClampNeg = n at h2
  unfold kd
  simp [show ¬ (26 + 2 * n = 0) by omega, show ¬ (26 + 2 * n = 1) by omega, show ¬ (26 + 2 * n < 6) by omega, show ¬ (26 + 2 * n = 6) by omega, show ¬ (26 + 2 * n = 7) by omega, show ¬ (26 + 2 * n = 8) by omega, show ¬ (26 + 2 * n < 25) by omega, show ¬ (26 + 2 * n = 25) by omega, show 26 + 2 * n < 58 by omega]
theorem kd_wav {i : Int32} (h : ¬ (i < 0 ∨ 16 ≤ i.toNatClampNeg)) : kd (58 + 2 * i.toNatClampNeg) = 2 := by
  have h2 : i.toNatClampNeg < 16 := Nat.not_le.mp fun q => h (Or.inr q)
  generalize i.toNatClampNeg = n at h2
  unfold kd
  simp [show ¬ (58 + 2 * n = 0) by omega, show ¬ (58 + 2 * n = 1) by omega, show ¬ (58 + 2 * n < 6) by omega, show ¬ (58 + 2 * n = 6) by omega, show ¬ (58 + 2 * n = 7) by omega, show ¬ (58 + 2 * n = 8) by omega, show ¬ (58 + 2 * n < 25) by omega, show ¬ (58 + 2 * n = 25) by omega, show ¬ (58 + 2 * n < 58) by omega, show 58 + 2 * n < 92 by omega]
theorem kd_ordA : ∀ p : Nat, kd p = 1 → kd (p + 1) = 5 ∧ ln (p + 1) = 10 := by
  intro p h
  have hp := kd_k h (by decide)
  have : ∀ p, p < 92 → kd p = 1 → kd (p + 1) = 5 ∧ ln (p + 1) = 10 := by decide +kernel
  exact this p hp h
theorem kd_wavA : ∀ p : Nat, kd p = 2 → kd (p + 1) = 5 ∧ ln (p + 1) = 16 := by
  intro p h
  have hp := kd_k h (by decide)
  have : ∀ p, p < 92 → kd p = 2 → kd (p + 1) = 5 ∧ ln (p + 1) = 16 := by decide +kernel
  exact this p hp h
def wld (G : GT) (lo : Nat → Int64) (σ : St) : va_W := (List.range 92).map (fun p => (gA G p, wcell G lo σ p))
theorem wld_at {G : GT} {lo : Nat → Int64} {σ : St} {p : Nat} (h : p < 92) : (wld G lo σ)[p]? = some (gA G p, wcell G lo σ p) := by
  simp [wld, List.getElem?_map, List.getElem?_range h]
theorem wld_none {G : GT} {lo : Nat → Int64} {σ : St} {p : Nat} (h : 92 ≤ p) : (wld G lo σ)[p]? = none := by
  simp [wld, h]
theorem wld_set {G : GT} {lo lo' : Nat → Int64} {σ σ' : St} {p : Nat} {e : va_E} (h : p < 92) (he : wcell G lo' σ' p = e) (ho : ∀ q, q ≠ p → wcell G lo' σ' q = wcell G lo σ q) : (wld G lo σ).set p (gA G p, e) = wld G lo' σ' := by
  apply List.ext_getElem?
  intro i
  rw [List.getElem?_set]
  have hl : (wld G lo σ).length = 92 := by simp [wld]
  by_cases hi : p = i
  · subst hi
    rw [if_pos rfl, if_pos (by rw [hl]; exact h), wld_at h, he]
  · rw [if_neg hi]
    rcases Nat.lt_or_ge i 92 with q | q
    · rw [wld_at q, wld_at q, ho i (fun z => hi z.symm)]
    · rw [wld_none q, wld_none q]
theorem up2_ne {σ : St} {p k q : Nat} {v : Int32} (h : q ≠ p) : up2 σ p k v q = σ q := by simp [up2, h]
theorem up2_eq {σ : St} {p k : Nat} {v : Int32} : up2 σ p k v p = upd (σ p) k v := by simp [up2]
theorem wcell_ne {G : GT} {lo : Nat → Int64} {σ : St} {p k q : Nat} {v : Int32} (h : q ≠ p) : wcell G lo (up2 σ p k v) q = wcell G lo σ q := by
  simp only [wcell, up2_ne h]
def tyG (G : GT) : List (ClassId × FieldType) := [(gC G 0, .int), (gC G 1, .boolean), (gC G 2, .object RX1), (gC G 3, .object RX2), (gC G 4, .long)]
/-- what a method is told beside the world: places apart and free to write; classes; words on nest mates; texts; two statics of Throwable -/
def Cx (G : GT) (U : State) : Prop := ((∀ i j : Nat, i < 92 → j < 92 → gA G i = gA G j → i = j) ∧ ∀ i : Nat, i < 92 → gF G (gA G i)) ∧ va_K (gD G) vwCl (tyG G) U ∧ (∀ w ∈ nst, va_Nw w U) ∧ (∀ q ∈ strs, ∃ sa : Nat, vk_R RX3 q.1 q.2 sa U) ∧ vx_Zq Bundle.tN "UNASSIGNED_STACK" Bundle.steD (gF G) U U.heap ∧ vx_Zq Bundle.tN "SUPPRESSED_SENTINEL" Bundle.listD (gF G) U U.heap
theorem Cx.apart {G : GT} {U : State} (h : Cx G U) {lo : Nat → Int64} {σ : St} : va_D (gF G) (wld G lo σ) := by
  refine ⟨fun i j p q hi hj he => ?_, fun k q hk => ?_⟩
  · rcases Nat.lt_or_ge i 92 with a | a
    · rcases Nat.lt_or_ge j 92 with b | b
      · rw [wld_at a] at hi
        rw [wld_at b] at hj
        cases hi; cases hj
        exact h.1.1 i j a b he
      · rw [wld_none b] at hj; cases hj
    · rw [wld_none a] at hi; cases hi
  · rcases Nat.lt_or_ge k 92 with a | a
    · rw [wld_at a] at hk
      cases hk
      exact h.1.2 k a
    · rw [wld_none a] at hk; cases hk
def nstOk : Cond → Bool
  | .fieldLinkNest .. => true
  | .methodLinkNest .. => true
  | .castable .. => true
  | .declares .. => true
  | _ => false
theorem nst_ok : ∀ w ∈ nst, nstOk w = true := by decide +kernel
theorem nst_warm {s U : State} (hW : s.WarmedH U.vm) (w : Cond) (hk : nstOk w = true) (h : va_Nw w s) : va_Nw w U := by
  match w, hk, h with
  | .fieldLinkNest a i b n d h, _, hz => exact va_Nw.warmF hW hz
  | .methodLinkNest a i x h, _, hz => exact va_Nw.warmM hW hz
  | .castable a b, _, hz => exact va_Nw.warmC hW hz
  | .declares x, _, hz => exact va_Nw.warmD hW hz
theorem Cx.to {G : GT} {s U : State} {H : Heap} {locs : List Loc} (h : Cx G s) (hW : s.WarmedH U.vm) (hS : va_S (gF G) s.heap H locs) (hU : U.heap = H) : Cx G U := by
  obtain ⟨h1, h2, h3, h4, h5, h6⟩ := h
  refine ⟨h1, va_K.moved hW.alike h2, fun w hw => nst_warm hW w (nst_ok w hw) (h3 w hw), fun q hq => ?_, ?_, ?_⟩
  · obtain ⟨sa, hs⟩ := h4 q hq
    exact ⟨sa, vk_R.warm hW hs⟩
  · rw [hU]; exact vx_Zq.moved hW.alike (h5.kept hS.2.1)
  · rw [hU]; exact vx_Zq.moved hW.alike (h6.kept hS.2.1)
theorem Cx.blind {G : GT} {U : State} (h : Cx G U) (g : JFrame) (mk : MethodId) (a : Array Value) : Cx G (U.calling g mk a) :=
  h.to (H := U.heap) (locs := []) (State.WarmedH.refl U) va_S.rf rfl
theorem nst_tab : ∀ w ∈ nst, w.onTables = true := by decide +kernel
