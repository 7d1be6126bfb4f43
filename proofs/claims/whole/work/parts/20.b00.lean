/-! ===== the pure part: numbers, callee rows, sums ===== -/
theorem pz_N {n : Nat} (h : n < 2147483648) : (nI n).toNatClampNeg = n := by
  have := nI_toInt (n := n) h
  simp only [Int32.toNatClampNeg, this]; rfl
theorem pz_lt {a b : Nat} (ha : a < 2147483648) (hb : b < 2147483648) : nI a < nI b ↔ a < b := by
  rw [Int32.lt_iff_toInt_lt, nI_toInt ha, nI_toInt hb]; omega
theorem pz_le {a b : Nat} (ha : a < 2147483648) (hb : b < 2147483648) : nI a ≤ nI b ↔ a ≤ b := by
  rw [Int32.le_iff_toInt_le, nI_toInt ha, nI_toInt hb]; omega
theorem pz_eq {a b : Nat} (ha : a < 2147483648) (hb : b < 2147483648) : nI a = nI b ↔ a = b := by
  rw [← Int32.toInt_inj, nI_toInt ha, nI_toInt hb]; omega
theorem pz_s (n : Nat) : nI n + 1 = nI (n + 1) := nI_add n 1
theorem pz_ge (n : Nat) (h : n < 2147483648) : ¬ nI n < 0 := by
  rw [Int32.lt_iff_toInt_lt, nI_toInt h]; show ¬ ((n : Int) < 0); omega
theorem pz_m1 {n : Nat} (h : n < 2147483648) : nI n ≠ -1 := by
  intro e
  have := pz_ge n h
  rw [e] at this
  exact this (by decide)
theorem pz_in {k b : Nat} (h : k < b) (hb : b ≤ 1000) : ¬ (nI k < 0 ∨ b ≤ (nI k).toNatClampNeg) := by
  rw [pz_N (by omega)]
  intro q
  rcases q with q | q
  · exact pz_ge k (by omega) q
  · omega
theorem pz_un {x : Int32} {b : Nat} (h : ¬ (x < 0 ∨ b ≤ x.toNatClampNeg)) : x = nI x.toNatClampNeg ∧ x.toNatClampNeg < b := by
  have h1 : ¬ x < 0 := fun q => h (Or.inl q)
  have h2 : x.toNatClampNeg < b := Nat.not_le.mp fun q => h (Or.inr q)
  refine ⟨?_, h2⟩
  rw [Int32.lt_iff_toInt_lt] at h1
  have h3 : ¬ x.toInt < 0 := h1
  have h4 := x.toInt_lt
  apply Int32.toInt_inj.mp
  rw [nI_toInt (by simp only [Int32.toNatClampNeg]; omega)]
  simp only [Int32.toNatClampNeg]; omega
theorem pz_ex {x : Int32} (h : ¬ x < 0) : ∃ n, n < 2147483648 ∧ x = nI n := by
  have h3 : ¬ x.toInt < 0 := by rw [Int32.lt_iff_toInt_lt] at h; exact h
  have h4 := x.toInt_lt
  refine ⟨x.toInt.toNat, by omega, ?_⟩
  apply Int32.toInt_inj.mp
  rw [nI_toInt (by omega)]; omega
abbrev iv (x : Int32) : RV := .inl (some (.inl x))
section
variable {β : Type}
theorem ri_s {x : Int32} {k : Int32 → Option β} : ri (some (.inl (some (.inl x)))) k = k x := rfl
theorem ni_s {x : Int32} {σ : St} {k : Int32 → St → Option (RV × St)} : ni (some (.inl (some (.inl x)), σ)) k = k x σ := rfl
theorem nv_s {σ : St} {k : St → Option (RV × St)} : nv (some (.inl none, σ)) k = k σ := rfl
theorem qv_n {h : String → Option β} {k : Option β} : qv (some (.inl none)) h k = k := rfl
theorem qv_e {E : String} {h : String → Option β} {k : Option β} : qv (some (.inr E)) h k = h E := rfl
theorem qp_p {q : Nat} {h : String → Option β} {k : Nat → Option β} : qp (some (.inl (some (.inr q)))) h k = k q := rfl
theorem qp_e {E : String} {h : String → Option β} {k : Nat → Option β} : qp (some (.inr E)) h k = h E := rfl
end
theorem up2_at {σ : St} {p k : Nat} {v : Int32} : up2 σ p k v p k = v := by simp [up2, upd]
theorem up2_ap {σ : St} {p k q j : Nat} {v : Int32} (h : q ≠ p) : up2 σ p k v q j = σ q j := by simp [up2, h]
theorem up2_ak {σ : St} {p k q j : Nat} {v : Int32} (h : j ≠ k) : up2 σ p k v q j = σ q j := by
  unfold up2 upd; split
  · rename_i e; subst e; simp [h]
  · rfl
theorem up2_d {σ : St} {p k q j : Nat} {v : Int32} : up2 σ p k v q j = if q = p ∧ j = k then v else σ q j := by
  unfold up2 upd
  by_cases h1 : q = p <;> by_cases h2 : j = k <;> simp [h1, h2]
