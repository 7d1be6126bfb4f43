/-! planning: what both sides look up -/
def opm (μ τ : St) (i : Nat) : Int32 := if μ 13 i = 0 then (if μ 22 i = 0 then (if hv τ i = 0 then 0 else 1) else 0) else 0
theorem opm_ne {μ τ : St} {i : Nat} (h : opm μ τ i ≠ 0) : μ 13 i = 0 ∧ μ 22 i = 0 := by
  unfold opm at h
  by_cases h1 : μ 13 i = 0
  · by_cases h2 : μ 22 i = 0
    · exact ⟨h1, h2⟩
    · rw [if_pos h1, if_neg h2] at h; exact absurd rfl h
  · rw [if_neg h1] at h; exact absurd rfl h
theorem op_m {μ τ : St} (h : R0 μ τ) (hk : KK τ) {i : Nat} (hi : i < 16) : f_X4_isOpen μ (nI i) = some (iv (opm μ τ i)) := by
  unfold f_X4_isOpen opm
  rw [if_neg (pz_in hi (by omega)), pz_N (by omega), ft_m h hk hi, ri_s]
  (repeat' split) <;> rfl
theorem er_m {μ τ : St} (h : R0 μ τ) {a b : Nat} (ha : a < 16) (hb : b < a) : f_X4_isEarlier μ (nI a) (nI b) = some (iv (if τ (26 + 2 * a) 0 < τ (26 + 2 * b) 0 then 1 else 0)) := by
  unfold f_X4_isEarlier
  rw [if_neg (pz_m1 (by omega)), if_neg (pz_in ha (by omega)), if_neg (pz_in (by omega) (by omega)), pz_N (by omega), pz_N (by omega), (h.2.1 a ha).1, (h.2.1 b (by omega)).1, if_pos (show nI b ≤ nI a from (pz_le (by omega) (by omega)).mpr (by omega))]
  by_cases q : τ (26 + 2 * a) 0 < τ (26 + 2 * b) 0
  · rw [if_pos q, if_pos q]
  · rw [if_neg q, if_neg q]; split <;> rfl
section
variable {μ τ : St} {N : Nat}
theorem be_t (hN : μ 8 2 = nI N) (hN2 : N ≤ 16) (h0 : R0 μ τ) (hk : KK τ) : ∀ d k n x, k + d = N → d < n → (x = -1 ∨ ∃ b, b < k ∧ x = nI b ∧ opm μ τ b ≠ 0 ∧ μ 24 b = 0) → ∃ v, f_X4_begin_4 μ n x (nI k) = some (iv v) ∧ (v = -1 ∨ ∃ b, b < N ∧ v = nI b ∧ opm μ τ b ≠ 0 ∧ μ 24 b = 0) := by
  intro d
  induction d with
  | zero =>
    intro k n x hk' hn hx
    obtain ⟨n, rfl⟩ : ∃ m, n = m + 1 := ⟨n - 1, by omega⟩
    simp only [f_X4_begin_4]
    rw [if_pos (show μ 8 2 ≤ nI k by rw [hN, pz_le (by omega) (by omega)]; omega)]
    refine ⟨x, rfl, hx.imp_right ?_⟩
    rintro ⟨b, q1, q2⟩; exact ⟨b, by omega, q2⟩
  | succ d ih =>
    intro k n x hk' hn hx
    obtain ⟨n, rfl⟩ : ∃ m, n = m + 1 := ⟨n - 1, by omega⟩
    have hk16 : k < 16 := by omega
    simp only [f_X4_begin_4]
    rw [if_neg (show ¬ μ 8 2 ≤ nI k by rw [hN, pz_le (by omega) (by omega)]; omega), op_m h0 hk hk16, ri_s, if_neg (pz_in hk16 (by omega)), pz_N (by omega), pz_s]
    have keep := ih (k + 1) n x (by omega) (by omega) (hx.imp_right fun ⟨b, q1, q2⟩ => ⟨b, by omega, q2⟩)
    by_cases h1 : opm μ τ k = 0
    · rw [if_pos h1]; exact keep
    · rw [if_neg h1]
      by_cases h2 : μ 24 k = 0
      · have take := ih (k + 1) n (nI k) (by omega) (by omega) (Or.inr ⟨k, by omega, rfl, h1, h2⟩)
        rw [if_pos h2]
        rcases hx with e | ⟨b, q1, e, q2⟩
        · subst e
          rw [show f_X4_isEarlier μ (nI k) (-1) = some (iv 1) from rfl, ri_s, if_neg (by decide)]; exact take
        · subst e
          rw [er_m h0 hk16 q1, ri_s]
          by_cases h3 : τ (26 + 2 * k) 0 < τ (26 + 2 * b) 0
          · rw [if_pos h3, if_neg (by decide)]; exact take
          · rw [if_neg h3, if_pos rfl]; exact keep
      · rw [if_neg h2]; exact keep
theorem be_tt (hN : μ 8 2 = nI N) (hN2 : N ≤ 16) (h0 : R0 μ τ) (hk : KK τ) : ∃ v, f_X4_begin μ = some (iv v) ∧ (v = -1 ∨ ∃ b, b < N ∧ v = nI b ∧ opm μ τ b ≠ 0 ∧ μ 24 b = 0) :=
  be_t hN hN2 h0 hk N 0 40 (-1) (by omega) (by omega) (Or.inl rfl)
theorem be_c (hN : μ 8 2 = nI N) (hN2 : N ≤ 16) (h0 : R0 μ τ) (hk : KK τ) (hc : τ 0 4 = nI N) (hm : ∀ i, i < N → f_X3_mayBePlanned τ (26 + 2 * i) = some (iv (opm μ τ i))) (hl : ∀ i, i < N → τ (26 + 2 * i) 8 = μ 24 i) : ∀ d k n x, k + d = N → d < n → (x = -1 ∨ ∃ b, b < k ∧ x = nI b) → f_X3_nextBeginning_4 τ n x (nI k) = f_X4_begin_4 μ n x (nI k) := by
  intro d
  induction d with
  | zero =>
    intro k n x hk' hn hx
    obtain ⟨n, rfl⟩ : ∃ m, n = m + 1 := ⟨n - 1, by omega⟩
    simp only [f_X4_begin_4, f_X3_nextBeginning_4]
    rw [if_pos (show μ 8 2 ≤ nI k by rw [hN, pz_le (by omega) (by omega)]; omega), if_pos (show τ 0 4 ≤ nI k by rw [hc, pz_le (by omega) (by omega)]; omega)]
  | succ d ih =>
    intro k n x hk' hn hx
    obtain ⟨n, rfl⟩ : ∃ m, n = m + 1 := ⟨n - 1, by omega⟩
    have hk16 : k < 16 := by omega
    have g : ¬ (nI k < 0 ∨ 16 ≤ k) := by have := pz_in (b := 16) (k := k) (by omega) (by omega); rwa [pz_N (by omega)] at this
    simp only [f_X4_begin_4, f_X3_nextBeginning_4]
    rw [if_neg (show ¬ μ 8 2 ≤ nI k by rw [hN, pz_le (by omega) (by omega)]; omega), if_neg (show ¬ τ 0 4 ≤ nI k by rw [hc, pz_le (by omega) (by omega)]; omega), op_m h0 hk hk16, ri_s]
    simp only [pz_s, pz_N (show k < 2147483648 by omega), if_neg g, hm k (by omega), ri_s, hl k (by omega)]
    have keep := ih (k + 1) n x (by omega) (by omega) (hx.imp_right fun ⟨b, q1, q2⟩ => ⟨b, by omega, q2⟩)
    have take := ih (k + 1) n (nI k) (by omega) (by omega) (Or.inr ⟨k, by omega, rfl⟩)
    by_cases h1 : opm μ τ k = 0
    · rw [if_pos h1, if_pos h1]; exact keep
    · rw [if_neg h1, if_neg h1]
      by_cases h2 : μ 24 k = 0
      · rw [if_pos h2, if_pos h2]
        rcases hx with e | ⟨b, q1, e⟩
        · subst e
          rw [if_pos rfl, show f_X4_isEarlier μ (nI k) (-1) = some (iv 1) from rfl, ri_s, if_neg (by decide)]; exact take
        · subst e
          rw [er_m h0 hk16 q1, ri_s, if_neg (pz_m1 (by omega)), if_neg (pz_in (by omega) (by omega)), pz_N (by omega)]
          by_cases h3 : τ (26 + 2 * k) 0 < τ (26 + 2 * b) 0
          · rw [if_pos h3, if_neg (show ¬ (1 : Int32) = 0 by decide), if_neg (show ¬ τ (26 + 2 * b) 0 ≤ τ (26 + 2 * k) 0 by grind)]; exact take
          · rw [if_neg h3, if_pos (show (0 : Int32) = 0 from rfl), if_pos (show τ (26 + 2 * b) 0 ≤ τ (26 + 2 * k) 0 by grind)]; exact keep
      · rw [if_neg h2, if_neg h2]; exact keep
theorem be_cc (hN : μ 8 2 = nI N) (hN2 : N ≤ 16) (h0 : R0 μ τ) (hk : KK τ) (hc : τ 0 4 = nI N) (hm : ∀ i, i < N → f_X3_mayBePlanned τ (26 + 2 * i) = some (iv (opm μ τ i))) (hl : ∀ i, i < N → τ (26 + 2 * i) 8 = μ 24 i) : f_X3_nextBeginning τ = f_X4_begin μ :=
  be_c hN hN2 h0 hk hc hm hl N 0 40 (-1) (by omega) (by omega) (Or.inl rfl)
theorem bt_t (hN : μ 8 2 = nI N) (hN2 : N ≤ 16) (h0 : R0 μ τ) (hk : KK τ) (hz : ZK τ) (w ca ld : Int32) : ∀ d k n x, k + d = N → d < n → (x = -1 ∨ ∃ b, b < k ∧ x = nI b ∧ opm μ τ b ≠ 0 ∧ τ (26 + 2 * b) 3 = ca ∧ (ld + τ (26 + 2 * b) 2) - gsv τ b (Fw (μ 22) w 0 N) 0 ≤ μ 8 1) → ∃ v, f_X4_best_6 μ w ca ld n x (nI k) = some (iv v) ∧ (v = -1 ∨ ∃ b, b < N ∧ v = nI b ∧ opm μ τ b ≠ 0 ∧ τ (26 + 2 * b) 3 = ca ∧ (ld + τ (26 + 2 * b) 2) - gsv τ b (Fw (μ 22) w 0 N) 0 ≤ μ 8 1) := by
  intro d
  induction d with
  | zero =>
    intro k n x hk' hn hx
    obtain ⟨n, rfl⟩ : ∃ m, n = m + 1 := ⟨n - 1, by omega⟩
    simp only [f_X4_best_6]
    rw [if_pos (show μ 8 2 ≤ nI k by rw [hN, pz_le (by omega) (by omega)]; omega)]
    refine ⟨x, rfl, hx.imp_right ?_⟩
    rintro ⟨b, q1, q2⟩; exact ⟨b, by omega, q2⟩
  | succ d ih =>
    intro k n x hk' hn hx
    obtain ⟨n, rfl⟩ : ∃ m, n = m + 1 := ⟨n - 1, by omega⟩
    have hk16 : k < 16 := by omega
    simp only [f_X4_best_6]
    rw [if_neg (show ¬ μ 8 2 ≤ nI k by rw [hN, pz_le (by omega) (by omega)]; omega), op_m h0 hk hk16, ri_s, if_neg (pz_in hk16 (by omega)), pz_N (by omega), pz_s, (h0.2.1 k hk16).2.2.2.1, (h0.2.1 k hk16).2.2.1, mo_mm hN hN2 h0 hz hk16, ri_s]
    have keep := ih (k + 1) n x (by omega) (by omega) (hx.imp_right fun ⟨b, q1, q2⟩ => ⟨b, by omega, q2⟩)
    by_cases h1 : opm μ τ k = 0
    · rw [if_pos h1]; exact keep
    · rw [if_neg h1]
      by_cases h2 : τ (26 + 2 * k) 3 = ca
      · rw [if_pos h2]
        by_cases h3 : (ld + τ (26 + 2 * k) 2) - gsv τ k (Fw (μ 22) w 0 N) 0 ≤ μ 8 1
        · have take := ih (k + 1) n (nI k) (by omega) (by omega) (Or.inr ⟨k, by omega, rfl, h1, h2, h3⟩)
          rw [if_pos h3]
          rcases hx with e | ⟨b, q1, e, q2⟩
          · subst e
            rw [if_pos rfl]; exact take
          · subst e
            rw [if_neg (pz_m1 (by omega)), mo_mm hN hN2 h0 hz (o := b) (by omega)]
            simp only [ri_s, er_m h0 hk16 q1]
            by_cases h4 : gsv τ b (Fw (μ 22) w 0 N) 0 < gsv τ k (Fw (μ 22) w 0 N) 0
            · rw [if_pos h4]; exact take
            · rw [if_neg h4]
              by_cases h5 : gsv τ k (Fw (μ 22) w 0 N) 0 = gsv τ b (Fw (μ 22) w 0 N) 0
              · rw [if_pos h5]
                by_cases h6 : τ (26 + 2 * k) 0 < τ (26 + 2 * b) 0
                · rw [if_pos h6, if_neg (by decide)]; exact take
                · rw [if_neg h6, if_pos rfl]; exact keep
              · rw [if_neg h5]; exact keep
        · rw [if_neg h3]; exact keep
      · rw [if_neg h2]; exact keep
theorem bt_tt (hN : μ 8 2 = nI N) (hN2 : N ≤ 16) (h0 : R0 μ τ) (hk : KK τ) (hz : ZK τ) (w ca ld : Int32) : ∃ v, f_X4_best μ w ca ld = some (iv v) ∧ (v = -1 ∨ ∃ b, b < N ∧ v = nI b ∧ opm μ τ b ≠ 0 ∧ τ (26 + 2 * b) 3 = ca ∧ (ld + τ (26 + 2 * b) 2) - gsv τ b (Fw (μ 22) w 0 N) 0 ≤ μ 8 1) :=
  bt_t hN hN2 h0 hk hz w ca ld N 0 40 (-1) (by omega) (by omega) (Or.inl rfl)
theorem bt_c (hN : μ 8 2 = nI N) (hN2 : N ≤ 16) (h0 : R0 μ τ) (hk : KK τ) (hz : ZK τ) (hc : τ 0 4 = nI N) (hm : ∀ i, i < N → f_X3_mayBePlanned τ (26 + 2 * i) = some (iv (opm μ τ i))) {q : Nat} {l : List Nat} (hq : Rp τ q l) {w : Int32} (hp : (Fw (μ 22) w 0 N).Perm l) {room ld : Int32} (hr : ∀ i, i < N → (τ (26 + 2 * i) 2 - gsv τ i l 0 ≤ room ↔ (ld + τ (26 + 2 * i) 2) - gsv τ i l 0 ≤ μ 8 1)) : ∀ d k n x s, k + d = N → d < n → (x = -1 ∨ ∃ b, b < k ∧ x = nI b ∧ s = gsv τ b l 0) → f_X3_bestAddition_8 τ q room n x s (nI k) = f_X4_best_6 μ w (τ q 2) ld n x (nI k) := by
  intro d
  induction d with
  | zero =>
    intro k n x s hk' hn hx
    obtain ⟨n, rfl⟩ : ∃ m, n = m + 1 := ⟨n - 1, by omega⟩
    simp only [f_X4_best_6, f_X3_bestAddition_8]
    rw [if_pos (show μ 8 2 ≤ nI k by rw [hN, pz_le (by omega) (by omega)]; omega), if_pos (show τ 0 4 ≤ nI k by rw [hc, pz_le (by omega) (by omega)]; omega)]
  | succ d ih =>
    intro k n x s hk' hn hx
    obtain ⟨n, rfl⟩ : ∃ m, n = m + 1 := ⟨n - 1, by omega⟩
    have hk16 : k < 16 := by omega
    have g : ¬ (nI k < 0 ∨ 16 ≤ k) := by have := pz_in (b := 16) (k := k) (by omega) (by omega); rwa [pz_N (by omega)] at this
    have hgs : f_X3_greatestSaving τ (26 + 2 * k) q (τ q 1) = some (iv (gsv τ k l 0)) := by rw [hq.1]; exact gs_cc hz hq hk16 l [] (by simp)
    simp only [f_X4_best_6, f_X3_bestAddition_8]
    rw [if_neg (show ¬ μ 8 2 ≤ nI k by rw [hN, pz_le (by omega) (by omega)]; omega), if_neg (show ¬ τ 0 4 ≤ nI k by rw [hc, pz_le (by omega) (by omega)]; omega), op_m h0 hk hk16, ri_s]
    simp only [pz_s, pz_N (show k < 2147483648 by omega), if_neg g, hm k (by omega), ri_s, (h0.2.1 k hk16).2.2.2.1, (h0.2.1 k hk16).2.2.1, mo_mm hN hN2 h0 hz hk16, gsv_perm hp, hgs]
    have keep := ih (k + 1) n x s (by omega) (by omega) (hx.imp_right fun ⟨b, q1, q2⟩ => ⟨b, by omega, q2⟩)
    have take := ih (k + 1) n (nI k) (gsv τ k l 0) (by omega) (by omega) (Or.inr ⟨k, by omega, rfl, rfl⟩)
    by_cases h1 : opm μ τ k = 0
    · rw [if_pos h1, if_pos h1]; exact keep
    · rw [if_neg h1, if_neg h1]
      by_cases h2 : τ (26 + 2 * k) 3 = τ q 2
      · rw [if_pos h2, if_pos h2]
        by_cases h3 : (ld + τ (26 + 2 * k) 2) - gsv τ k l 0 ≤ μ 8 1
        · rw [if_pos h3, if_pos ((hr k (by omega)).mpr h3)]
          rcases hx with e | ⟨b, q1, e, q2⟩
          · subst e
            simp only [if_true]; exact take
          · subst e
            have hb1 : ¬ nI b = -1 := pz_m1 (by omega)
            have gb : ¬ (nI b < 0 ∨ 16 ≤ b) := by have := pz_in (b := 16) (k := b) (by omega) (by omega); rwa [pz_N (by omega)] at this
            simp only [if_neg hb1, pz_N (show b < 2147483648 by omega), if_neg gb, mo_mm hN hN2 h0 hz (o := b) (show b < 16 by omega), gsv_perm hp, ri_s, er_m h0 hk16 q1, q2]
            by_cases h5 : gsv τ k l 0 = gsv τ b l 0
            · have h4 : ¬ gsv τ b l 0 < gsv τ k l 0 := by grind
              simp only [if_pos h5, if_neg h4]
              by_cases h6 : τ (26 + 2 * k) 0 < τ (26 + 2 * b) 0
              · rw [if_neg (show ¬ τ (26 + 2 * b) 0 ≤ τ (26 + 2 * k) 0 by grind), if_pos h6, if_neg (show ¬ (1 : Int32) = 0 by decide)]; exact take
              · rw [if_pos (show τ (26 + 2 * b) 0 ≤ τ (26 + 2 * k) 0 by grind), if_neg h6, if_pos (show (0 : Int32) = 0 from rfl), ← q2]; exact keep
            · simp only [if_neg h5]
              by_cases h4 : gsv τ b l 0 < gsv τ k l 0
              · rw [if_pos h4, if_pos h4]; exact take
              · rw [if_neg h4, if_neg h4, ← q2]; exact keep
        · rw [if_neg h3, if_neg (fun z => h3 ((hr k (by omega)).mp z))]; exact keep
      · rw [if_neg h2, if_neg h2]; exact keep
theorem bt_cc (hN : μ 8 2 = nI N) (hN2 : N ≤ 16) (h0 : R0 μ τ) (hk : KK τ) (hz : ZK τ) (hc : τ 0 4 = nI N) (hm : ∀ i, i < N → f_X3_mayBePlanned τ (26 + 2 * i) = some (iv (opm μ τ i))) {q : Nat} {l : List Nat} (hq : Rp τ q l) {w : Int32} (hp : (Fw (μ 22) w 0 N).Perm l) {room ld : Int32} (hr : ∀ i, i < N → (τ (26 + 2 * i) 2 - gsv τ i l 0 ≤ room ↔ (ld + τ (26 + 2 * i) 2) - gsv τ i l 0 ≤ μ 8 1)) : f_X3_bestAddition τ q room = f_X4_best μ w (τ q 2) ld :=
  bt_c hN hN2 h0 hk hz hc hm hq hp hr N 0 40 (-1) 0 (by omega) (by omega) (Or.inl rfl)
end
