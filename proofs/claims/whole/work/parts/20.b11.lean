/-! counts -/
section
variable {σ α : St} {N M K n0 : Nat} {L : Nat → List Nat}
theorem k83_0 (w : WF α N M K L) (r : RQ σ α) {x : Int32} (h2 : x ≠ 2) (h3 : x ≠ 3) (h4 : x ≠ 4) : ∀ d k n s, k + d = N → d < n → f_X4_count_83 σ x n s (nI k) = some (iv (if 1 ≤ x ∧ x ≤ 5 then s else -1), σ) := by
  have hN := r.n w
  have hN2 := w.1.2
  intro d
  induction d with
  | zero =>
    intro k n s hk hn
    obtain ⟨n, rfl⟩ : ∃ m, n = m + 1 := ⟨n - 1, by omega⟩
    simp only [f_X4_count_83]
    rw [if_pos (show σ 8 2 ≤ nI k by rw [hN, pz_le (by omega) (by omega)]; omega), in_m, ri_s]
    by_cases q : 1 ≤ x ∧ x ≤ 5
    · rw [if_pos q, if_pos q, if_neg (by decide)]
    · rw [if_neg q, if_neg q, if_pos rfl]
  | succ d ih =>
    intro k n s hk hn
    obtain ⟨n, rfl⟩ : ∃ m, n = m + 1 := ⟨n - 1, by omega⟩
    simp only [f_X4_count_83]
    rw [if_neg (show ¬ σ 8 2 ≤ nI k by rw [hN, pz_le (by omega) (by omega)]; omega), if_neg h2, if_neg h3, if_neg h4, pz_s, show s + 0 = s by grind]
    exact ih (k + 1) n s (by omega) (by omega)
theorem k83_2 (w : WF α N M K L) (r : RQ σ α) (p x : Int32) (hx : (x = 2 ∧ p = 0) ∨ (x = 3 ∧ p = -1)) : ∀ d k n s, k + d = N → d < n → ∃ v, f_X3_ordersAt_4 α p n s (nI k) = some (iv v) ∧ f_X4_count_83 σ x n s (nI k) = some (iv v, σ) := by
  have hN := r.n w
  have hN2 := w.1.2
  intro d
  induction d with
  | zero =>
    intro k n s hk hn
    obtain ⟨n, rfl⟩ : ∃ m, n = m + 1 := ⟨n - 1, by omega⟩
    simp only [f_X4_count_83, f_X3_ordersAt_4]
    rw [if_pos (show α 0 4 ≤ nI k by rw [w.1.1, pz_le (by omega) (by omega)]; omega), if_pos (show σ 8 2 ≤ nI k by rw [hN, pz_le (by omega) (by omega)]; omega), in_m, ri_s]
    refine ⟨s, rfl, ?_⟩
    rcases hx with ⟨rfl, rfl⟩ | ⟨rfl, rfl⟩ <;> rfl
  | succ d ih =>
    intro k n s hk hn
    obtain ⟨n, rfl⟩ : ∃ m, n = m + 1 := ⟨n - 1, by omega⟩
    simp only [f_X4_count_83, f_X3_ordersAt_4]
    rw [if_neg (show ¬ α 0 4 ≤ nI k by rw [w.1.1, pz_le (by omega) (by omega)]; omega), if_neg (show ¬ σ 8 2 ≤ nI k by rw [hN, pz_le (by omega) (by omega)]; omega), show s + 0 = s by grind]
    have g : ¬ (nI k < 0 ∨ 16 ≤ k) := by have := pz_in (b := 16) (k := k) (by omega) (by omega); rwa [pz_N (by omega)] at this
    simp only [pz_s, pz_N (show k < 2147483648 by omega), if_neg g, r.2.2 k (by omega)]
    have i1 := ih (k + 1) n (s + 1) (by omega) (by omega)
    have i2 := ih (k + 1) n s (by omega) (by omega)
    rcases hx with ⟨rfl, rfl⟩ | ⟨rfl, rfl⟩
    · simp only [if_neg (show ¬ (2 : Int32) = 3 by decide), if_neg (show ¬ (2 : Int32) = 4 by decide), if_true]
      by_cases q : α (26 + 2 * k) 6 = 0
      · simp only [if_pos q]; exact i1
      · simp only [if_neg q]; exact i2
    · simp only [if_neg (show ¬ (3 : Int32) = 2 by decide), if_neg (show ¬ (3 : Int32) = 4 by decide), if_true]
      by_cases q : α (26 + 2 * k) 6 = -1
      · simp only [if_pos q]; exact i1
      · simp only [if_neg q]; exact i2
theorem k83_4 (w : WF α N M K L) (r : RQ σ α) : ∀ d k n s, k + d = N → d < n → ∃ v, f_X3_finishedOrders_4 α n s (nI k) = some (iv v) ∧ f_X4_count_83 σ 4 n s (nI k) = some (iv v, σ) := by
  have hN := r.n w
  have hN2 := w.1.2
  intro d
  induction d with
  | zero =>
    intro k n s hk hn
    obtain ⟨n, rfl⟩ : ∃ m, n = m + 1 := ⟨n - 1, by omega⟩
    simp only [f_X4_count_83, f_X3_finishedOrders_4]
    rw [if_pos (show α 0 4 ≤ nI k by rw [w.1.1, pz_le (by omega) (by omega)]; omega), if_pos (show σ 8 2 ≤ nI k by rw [hN, pz_le (by omega) (by omega)]; omega), in_m, ri_s]
    exact ⟨s, rfl, rfl⟩
  | succ d ih =>
    intro k n s hk hn
    obtain ⟨n, rfl⟩ : ∃ m, n = m + 1 := ⟨n - 1, by omega⟩
    simp only [f_X4_count_83, f_X3_finishedOrders_4]
    rw [if_neg (show ¬ α 0 4 ≤ nI k by rw [w.1.1, pz_le (by omega) (by omega)]; omega), if_neg (show ¬ σ 8 2 ≤ nI k by rw [hN, pz_le (by omega) (by omega)]; omega), show s + 0 = s by grind, if_neg (show ¬ (4 : Int32) = 2 by decide), if_neg (show ¬ (4 : Int32) = 3 by decide), if_pos trivial]
    have g : ¬ (nI k < 0 ∨ 16 ≤ k) := by have := pz_in (b := 16) (k := k) (by omega) (by omega); rwa [pz_N (by omega)] at this
    simp only [pz_s, pz_N (show k < 2147483648 by omega), if_neg g, (r.1.2.1 k (by omega)).2.2.2.2.1]
    by_cases q : α (26 + 2 * k) 7 = 0
    · simp only [if_pos q]; exact ih (k + 1) n s (by omega) (by omega)
    · simp only [if_neg q]; exact ih (k + 1) n (s + 1) (by omega) (by omega)
theorem k29_0 (w : WF α N M K L) (r : RQ σ α) {x : Int32} (h1 : x ≠ 1) (h5 : x ≠ 5) : ∀ d k n s, k + d = M → d < n → f_X4_count_29 σ x n s (nI (k + 1)) = f_X4_count_83 σ x 40 s 0 := by
  have hM := w.2.1.2
  intro d
  induction d with
  | zero =>
    intro k n s hk hn
    obtain ⟨n, rfl⟩ : ∃ m, n = m + 1 := ⟨n - 1, by omega⟩
    simp only [f_X4_count_29]
    rw [if_pos (show σ 8 16 < nI (k + 1) by rw [r.m w, pz_lt (by omega) (by omega)]; omega)]
  | succ d ih =>
    intro k n s hk hn
    obtain ⟨n, rfl⟩ : ∃ m, n = m + 1 := ⟨n - 1, by omega⟩
    simp only [f_X4_count_29]
    rw [if_neg (show ¬ σ 8 16 < nI (k + 1) by rw [r.m w, pz_lt (by omega) (by omega)]; omega), if_neg h1, if_neg h5, pz_s, show s + 0 = s by grind]
    exact ih (k + 1) n s (by omega) (by omega)
theorem k29_1 (w : WF α N M K L) (r : RQ σ α) (cm : CM n0 σ L) : ∀ d k n s, k + d = M → d < n → ∃ v, f_X3_wavesWithOrders_4 α n s (nI k) = some (iv v) ∧ f_X4_count_29 σ 1 n s (nI (k + 1)) = f_X4_count_83 σ 1 40 v 0 := by
  have hM := w.2.1.2
  intro d
  induction d with
  | zero =>
    intro k n s hk hn
    obtain ⟨n, rfl⟩ : ∃ m, n = m + 1 := ⟨n - 1, by omega⟩
    simp only [f_X4_count_29, f_X3_wavesWithOrders_4]
    rw [if_pos (show α 0 6 ≤ nI k by rw [w.2.1.1, pz_le (by omega) (by omega)]; omega), if_pos (show σ 8 16 < nI (k + 1) by rw [r.m w, pz_lt (by omega) (by omega)]; omega)]
    exact ⟨s, rfl, rfl⟩
  | succ d ih =>
    intro k n s hk hn
    obtain ⟨n, rfl⟩ : ∃ m, n = m + 1 := ⟨n - 1, by omega⟩
    have hk16 : k < 16 := by omega
    simp only [f_X4_count_29, f_X3_wavesWithOrders_4]
    rw [if_neg (show ¬ α 0 6 ≤ nI k by rw [w.2.1.1, pz_le (by omega) (by omega)]; omega), if_neg (show ¬ σ 8 16 < nI (k + 1) by rw [r.m w, pz_lt (by omega) (by omega)]; omega), if_pos trivial, if_neg (pz_in hk16 (by omega)), pz_s, pz_s, pz_N (by omega), (tw w r cm hk16).1, ri_s, (w.w hk16).1.1, show s + 0 = s by grind]
    by_cases q : nI (L k).length ≤ 0
    · rw [if_pos q, if_pos q]; exact ih (k + 1) n s (by omega) (by omega)
    · rw [if_neg q, if_neg q]; exact ih (k + 1) n (s + 1) (by omega) (by omega)
theorem k29_5 (w : WF α N M K L) (r : RQ σ α) (cm : CM n0 σ L) : ∀ d k n s, k + d = M → d < n → ∃ v, f_X3_savedBehind_4 α n s (nI k) = some (iv v) ∧ f_X4_count_29 σ 5 n s (nI (k + 1)) = f_X4_count_83 σ 5 40 v 0 := by
  have hM := w.2.1.2
  intro d
  induction d with
  | zero =>
    intro k n s hk hn
    obtain ⟨n, rfl⟩ : ∃ m, n = m + 1 := ⟨n - 1, by omega⟩
    simp only [f_X4_count_29, f_X3_savedBehind_4]
    rw [if_pos (show α 0 6 ≤ nI k by rw [w.2.1.1, pz_le (by omega) (by omega)]; omega), if_pos (show σ 8 16 < nI (k + 1) by rw [r.m w, pz_lt (by omega) (by omega)]; omega)]
    exact ⟨s, rfl, rfl⟩
  | succ d ih =>
    intro k n s hk hn
    obtain ⟨n, rfl⟩ : ∃ m, n = m + 1 := ⟨n - 1, by omega⟩
    have hk16 : k < 16 := by omega
    simp only [f_X4_count_29, f_X3_savedBehind_4]
    rw [if_neg (show ¬ α 0 6 ≤ nI k by rw [w.2.1.1, pz_le (by omega) (by omega)]; omega), if_neg (show ¬ σ 8 16 < nI (k + 1) by rw [r.m w, pz_lt (by omega) (by omega)]; omega), if_neg (show ¬ (5 : Int32) = 1 by decide), if_pos trivial, if_neg (pz_in hk16 (by omega)), pz_s, pz_s, pz_N (by omega), (tw w r cm hk16).2.1, so_c w.z (w.w hk16).1, ri_s, ri_s]
    exact ih (k + 1) n _ (by omega) (by omega)
end
theorem PScount : PS_count Inv := by
  intro n hn σ hI a
  obtain ⟨N, M, K, L, w, r, c⟩ := id hI
  have hN := w.1.2
  have hM := w.2.1.2
  have r0 : RQ (up2 σ 8 0 0) σ := r.c
  have c0 := c.c 0
  have h83 : ∀ {x : Int32}, x ≠ 2 → x ≠ 3 → x ≠ 4 → ∀ s, f_X4_count_83 (up2 σ 8 0 0) x 40 s 0 = some (iv (if 1 ≤ x ∧ x ≤ 5 then s else -1), up2 σ 8 0 0) := fun h2 h3 h4 s => k83_0 w r0 h2 h3 h4 N 0 40 s (by omega) (by omega)
  have h29 : ∀ {x : Int32}, x ≠ 1 → x ≠ 5 → f_X4_count_29 (up2 σ 8 0 0) x 40 0 1 = f_X4_count_83 (up2 σ 8 0 0) x 40 0 0 := fun h1 h5 => k29_0 w r0 h1 h5 M 0 40 0 (by omega) (by omega)
  by_cases k0 : a = 0
  · subst k0
    refine ⟨σ 0 4, up2 σ 8 0 0, rfl, ?_, hI.q 0⟩
    rw [f_X4_count, if_pos rfl, up2_ak (by decide), r.1.1.2.1]
  by_cases k6 : a = 6
  · subst k6
    refine ⟨σ 0 0, up2 σ 8 0 0, rfl, ?_, hI.q 0⟩
    rw [f_X4_count, if_neg (by decide), if_pos rfl, up2_ak (by decide), r.1.1.1]
  have hx : f_X4_count σ a = f_X4_count_29 (up2 σ 8 0 0) a 40 0 1 := by rw [f_X4_count, if_neg k0, if_neg k6]
  by_cases k1 : a = 1
  · subst k1
    obtain ⟨v, e1, e2⟩ := k29_1 w r0 c0 M 0 40 0 (by omega) (by omega)
    refine ⟨v, up2 σ 8 0 0, ?_, ?_, hI.q 0⟩
    · have e1' : f_X3_wavesWithOrders σ = some (iv v) := e1
      rw [f_X3_count, if_neg (by decide), if_pos rfl, e1', ri_s]
    · rw [hx]
      exact e2.trans (h83 (by decide) (by decide) (by decide) v)
  by_cases k5 : a = 5
  · subst k5
    obtain ⟨v, e1, e2⟩ := k29_5 w r0 c0 M 0 40 0 (by omega) (by omega)
    refine ⟨v, up2 σ 8 0 0, ?_, ?_, hI.q 0⟩
    · have e1' : f_X3_savedBehind σ 0 = some (iv v) := e1
      rw [f_X3_count, if_neg (by decide), if_neg (by decide), if_neg (by decide), if_neg (by decide), if_neg (by decide), if_pos rfl, e1', ri_s]
    · rw [hx]
      exact e2.trans (h83 (by decide) (by decide) (by decide) v)
  by_cases k2 : a = 2
  · subst k2
    obtain ⟨v, e1, e2⟩ := k83_2 w r0 0 2 (Or.inl ⟨rfl, rfl⟩) N 0 40 0 (by omega) (by omega)
    refine ⟨v, up2 σ 8 0 0, ?_, ?_, hI.q 0⟩
    · have e1' : f_X3_ordersAt σ 0 = some (iv v) := e1
      rw [f_X3_count, if_neg (by decide), if_neg (by decide), if_pos rfl, e1', ri_s]
    · rw [hx, h29 (by decide) (by decide)]; exact e2
  by_cases k3 : a = 3
  · subst k3
    obtain ⟨v, e1, e2⟩ := k83_2 w r0 (-1) 3 (Or.inr ⟨rfl, rfl⟩) N 0 40 0 (by omega) (by omega)
    refine ⟨v, up2 σ 8 0 0, ?_, ?_, hI.q 0⟩
    · have e1' : f_X3_ordersAt σ (-1) = some (iv v) := e1
      rw [f_X3_count, if_neg (by decide), if_neg (by decide), if_neg (by decide), if_pos rfl, e1', ri_s]
    · rw [hx, h29 (by decide) (by decide)]; exact e2
  by_cases k4 : a = 4
  · subst k4
    obtain ⟨v, e1, e2⟩ := k83_4 w r0 N 0 40 0 (by omega) (by omega)
    refine ⟨v, up2 σ 8 0 0, ?_, ?_, hI.q 0⟩
    · have e1' : f_X3_finishedOrders σ = some (iv v) := e1
      rw [f_X3_count, if_neg (by decide), if_neg (by decide), if_neg (by decide), if_neg (by decide), if_pos rfl, e1', ri_s]
    · rw [hx, h29 (by decide) (by decide)]; exact e2
  · refine ⟨-1, up2 σ 8 0 0, ?_, ?_, hI.q 0⟩
    · rw [f_X3_count, if_neg k0, if_neg k1, if_neg k2, if_neg k3, if_neg k4, if_neg k5, if_neg k6]
    · rw [hx, h29 k1 k5, h83 k2 k3 k4]
      have hno : ¬ (1 ≤ a ∧ a ≤ 5) := by
        rintro ⟨q1, q2⟩
        obtain ⟨k, hk, rfl⟩ := pz_ex (x := a) (by grind)
        have hk6 : k ≤ 5 := (pz_le hk (by decide : 5 < 2147483648)).mp q2
        have : k = 0 ∨ k = 1 ∨ k = 2 ∨ k = 3 ∨ k = 4 ∨ k = 5 := by omega
        rcases this with q | q | q | q | q | q <;> subst q
        · exact k0 rfl
        · exact k1 rfl
        · exact k2 rfl
        · exact k3 rfl
        · exact k4 rfl
        · exact k5 rfl
      rw [if_neg hno]
