/-! savings of two orders -/
def lp (st : Nat → Int32 → Int32) : Nat → Nat → Int32 → Int32
  | _, 0, a => a
  | k, d + 1, a => lp st (k + 1) d (st k a)
def mn (x y : Int32) : Int32 := if x < y then x else y
theorem mn_comm (x y : Int32) : mn x y = mn y x := by
  unfold mn; split <;> split <;> grind
def bs (x y : Int32) : Int32 := if x = y then 10 else if x = y + 1 ∨ y = x + 1 then 5 else 0
theorem bs_comm (x y : Int32) : bs x y = bs y x := by
  unfold bs; simp only [eq_comm (a := x) (b := y), or_comm]
def gst (u v : Nat → Int32) (g : Nat) (s : Int32) : Int32 := if 0 < u g ∧ 0 < v g then s + 3 else s
theorem gst_comm (u v : Nat → Int32) : gst u v = gst v u := by
  funext g s; unfold gst; simp only [and_comm]
/-- what two orders save together, out of the class's cells -/
def sv (α : St) (a b : Nat) : Int32 := mn (lp (gst (α (26 + 2 * a + 1)) (α (26 + 2 * b + 1))) 0 10 (bs (α (26 + 2 * a) 1) (α (26 + 2 * b) 1))) (mn (α (26 + 2 * a) 2) (α (26 + 2 * b) 2))
theorem sv_comm (α : St) (a b : Nat) : sv α a b = sv α b a := by
  unfold sv; rw [gst_comm, bs_comm, mn_comm (α (26 + 2 * a) 2)]
theorem sv_c1 (α : St) (p q : Nat) : ∀ d k n s, k + d = 10 → d < n → f_X1_savingWith_39 α p q n s (nI k) = some (iv (mn (lp (gst (α (p + 1)) (α (q + 1))) k d s) (mn (α p 2) (α q 2)))) := by
  intro d
  induction d with
  | zero =>
    intro k n s hk hn
    obtain ⟨n, rfl⟩ : ∃ m, n = m + 1 := ⟨n - 1, by omega⟩
    have : k = 10 := by omega
    subst this
    simp only [f_X1_savingWith_39]
    rw [if_pos (by decide)]
    simp only [lp, mn]
    grind
  | succ d ih =>
    intro k n s hk hn
    obtain ⟨n, rfl⟩ : ∃ m, n = m + 1 := ⟨n - 1, by omega⟩
    simp only [f_X1_savingWith_39]
    rw [if_neg (by rw [show (10 : Int32) = nI 10 from rfl, pz_le (by omega) (by omega)]; omega), if_neg (pz_in (by omega) (by omega)), pz_s, pz_N (by omega)]
    simp only [ih (k + 1) n _ (by omega) (by omega), lp]
    unfold gst
    by_cases h1 : α (p + 1) k ≤ 0
    · rw [if_pos h1, if_neg (show ¬ (0 < α (p + 1) k ∧ 0 < α (q + 1) k) by grind)]
    · rw [if_neg h1]
      by_cases h2 : α (q + 1) k ≤ 0
      · rw [if_pos h2, if_neg (show ¬ (0 < α (p + 1) k ∧ 0 < α (q + 1) k) by grind)]
      · rw [if_neg h2, if_pos (show (0 < α (p + 1) k ∧ 0 < α (q + 1) k) by grind)]
theorem bs_c : ∀ a, a < 8 → ∀ b, b < 8 → (if nI a = nI b then (10 : Int32) else if (if 0 ≤ (nI a - nI b) then (nI a - nI b) else 0 - (nI a - nI b)) = 1 then 5 else 0) = bs (nI a) (nI b) := by decide
theorem bs_m : ∀ a, a < 8 → ∀ b, b < 8 → (let z := if nI a ≤ nI b then nI b - nI a else nI a - nI b; if z = 0 then (10 : Int32) else if z = 1 then 5 else 0) = bs (nI a) (nI b) := by decide
theorem sv_c {α : St} {a b : Nat} (h1 : ∃ z, z < 8 ∧ α (26 + 2 * a) 1 = nI z) (h2 : ∃ z, z < 8 ∧ α (26 + 2 * b) 1 = nI z) : f_X1_savingWith α (26 + 2 * a) (26 + 2 * b) = some (iv (sv α a b)) := by
  obtain ⟨z1, l1, e1⟩ := h1
  obtain ⟨z2, l2, e2⟩ := h2
  have := bs_c z1 l1 z2 l2
  have r := fun s => sv_c1 α (26 + 2 * a) (26 + 2 * b) 10 0 40 s (by omega) (by omega)
  rw [show nI 0 = 0 from rfl] at r
  simp only [f_X1_savingWith, f_X1_savingWith_37, r, sv, e1, e2, ← this]
  (repeat' split) <;> rfl
/-- the reference's arrays over the class's cells: what no plan changes -/
def R0 (σ α : St) : Prop := (σ 8 1 = α 0 0 ∧ σ 8 2 = α 0 4 ∧ σ 8 12 = α 1 3) ∧ (∀ i, i < 16 → σ 9 i = α (26 + 2 * i) 0 ∧ σ 10 i = α (26 + 2 * i) 1 ∧ σ 11 i = α (26 + 2 * i) 2 ∧ σ 12 i = α (26 + 2 * i) 3 ∧ σ 15 i = α (26 + 2 * i) 7 ∧ ∀ g, g < 10 → σ 16 (10 * i + g) = α (26 + 2 * i + 1) g) ∧ (∀ k, k < 10 → σ 17 k = α 2 k ∧ σ 18 k = α 3 k ∧ σ 19 k = α 4 k ∧ σ 21 k = α 5 k) ∧ ∀ j, j < 16 → σ 20 (j + 1) = α (58 + 2 * j) 3
theorem pz_10 {a k : Nat} (ha : a < 16) (hk : k < 10) : (10 : Int32) * nI a + nI k = nI (10 * a + k) := by
  rw [show (10 : Int32) = nI 10 from rfl]
  have : nI 10 * nI a = nI (10 * a) := by
    show Int32.ofNat 10 * Int32.ofNat a = Int32.ofNat (10 * a)
    rw [Int32.ofNat_mul]
  rw [this, nI_add]
theorem sv_m1 {σ α : St} (h : R0 σ α) {a b : Nat} (ha : a < 16) (hb : b < 16) : ∀ d k n s, k + d = 10 → d < n → f_X4_saving_69 σ (nI a) (nI b) n s (nI k) = some (iv (mn (lp (gst (α (26 + 2 * a + 1)) (α (26 + 2 * b + 1))) k d s) (mn (α (26 + 2 * a) 2) (α (26 + 2 * b) 2)))) := by
  intro d
  induction d with
  | zero =>
    intro k n s hk hn
    obtain ⟨n, rfl⟩ : ∃ m, n = m + 1 := ⟨n - 1, by omega⟩
    have : k = 10 := by omega
    subst this
    simp only [f_X4_saving_69]
    rw [if_pos (by decide), if_neg (pz_in ha (by omega)), if_neg (pz_in hb (by omega)), pz_N (by omega), pz_N (by omega), (h.2.1 a ha).2.2.1, (h.2.1 b hb).2.2.1]
    simp only [lp, mn]
    grind
  | succ d ih =>
    intro k n s hk hn
    obtain ⟨n, rfl⟩ : ∃ m, n = m + 1 := ⟨n - 1, by omega⟩
    simp only [f_X4_saving_69]
    rw [if_neg (by rw [show (10 : Int32) = nI 10 from rfl, pz_le (by omega) (by omega)]; omega), pz_10 ha (by omega), pz_10 hb (by omega), if_neg (pz_in (by omega) (by omega)), if_neg (pz_in (by omega) (by omega)), pz_s, pz_N (by omega), pz_N (by omega), (h.2.1 a ha).2.2.2.2.2 k (by omega), (h.2.1 b hb).2.2.2.2.2 k (by omega)]
    simp only [ih (k + 1) n _ (by omega) (by omega), lp]
    unfold gst
    by_cases h1 : α (26 + 2 * a + 1) k ≤ 0
    · rw [if_pos h1, if_neg (show ¬ (0 < α (26 + 2 * a + 1) k ∧ 0 < α (26 + 2 * b + 1) k) by grind)]; simp
    · rw [if_neg h1]
      by_cases h2 : α (26 + 2 * b + 1) k ≤ 0
      · rw [if_pos h2, if_neg (show ¬ (0 < α (26 + 2 * a + 1) k ∧ 0 < α (26 + 2 * b + 1) k) by grind)]; simp
      · rw [if_neg h2, if_pos (show (0 < α (26 + 2 * a + 1) k ∧ 0 < α (26 + 2 * b + 1) k) by grind)]
theorem sv_m {σ α : St} (h : R0 σ α) {a b : Nat} (ha : a < 16) (hb : b < 16) (h1 : ∃ z, z < 8 ∧ α (26 + 2 * a) 1 = nI z) (h2 : ∃ z, z < 8 ∧ α (26 + 2 * b) 1 = nI z) : f_X4_saving σ (nI a) (nI b) = some (iv (sv α a b)) := by
  obtain ⟨z1, l1, e1⟩ := h1
  obtain ⟨z2, l2, e2⟩ := h2
  have := bs_m z1 l1 z2 l2
  have r := fun s => sv_m1 h ha hb 10 0 40 s (by omega) (by omega)
  rw [show nI 0 = 0 from rfl] at r
  simp only [f_X4_saving, f_X4_saving_44, f_X4_saving_64]
  rw [if_neg (pz_in ha (by omega)), if_neg (pz_in hb (by omega)), pz_N (by omega), pz_N (by omega), (h.2.1 a ha).2.1, (h.2.1 b hb).2.1]
  simp only [r, sv, e1, e2, ← this]
  (repeat' split) <;> rfl
