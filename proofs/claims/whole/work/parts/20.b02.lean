/-! the class's loops over a wave's members -/
def Rp (α : St) (q : Nat) (l : List Nat) : Prop := α q 1 = nI l.length ∧ l.length ≤ 16 ∧ (∀ k x, l[k]? = some x → α (q + 1) k = nI x) ∧ ∀ x ∈ l, x < 16
def ZK (α : St) : Prop := ∀ i, i < 16 → ∃ z, z < 8 ∧ α (26 + 2 * i) 1 = nI z
def gsv (α : St) (a : Nat) (l : List Nat) (m : Int32) : Int32 := l.foldl (fun m x => if m < sv α a x then sv α a x else m) m
def so (α : St) : List Nat → List Nat → Int32 → Int32
  | _, [], s => s
  | pre, x :: r, s => so α (pre ++ [x]) r (s + gsv α x pre 0)
def fse (α : St) (l : List Nat) (s : Int32) : Int32 := l.foldl (fun s x => s + α (26 + 2 * x) 2) s
def fdu (α : St) (l : List Nat) (s : Int32) : Int32 := l.foldl (fun s x => if α (26 + 2 * x) 0 < s then α (26 + 2 * x) 0 else s) s
def ffi (α : St) (l : List Nat) (s : Int32) : Int32 := l.foldl (fun s x => if α (26 + 2 * x) 7 = 0 then s else s + 1) s
def fwa (α : St) (g : Nat) (l : List Nat) (s : Int32) : Int32 := l.foldl (fun s x => if α (26 + 2 * x) 7 = 0 then s + α (26 + 2 * x + 1) g else s) s
theorem Rp.at {α : St} {q : Nat} {pre suf : List Nat} {x : Nat} (h : Rp α q (pre ++ x :: suf)) : α (q + 1) pre.length = nI x ∧ x < 16 ∧ pre.length < 16 ∧ ¬ α q 1 ≤ nI pre.length := by
  obtain ⟨h1, h2, h3, h4⟩ := h
  have hl : (pre ++ x :: suf).length = pre.length + (suf.length + 1) := by simp
  refine ⟨h3 _ _ (by simp), h4 _ (by simp), by omega, ?_⟩
  rw [h1, pz_le (by omega) (by omega)]; omega
theorem Rp.end {α : St} {q : Nat} {l : List Nat} (h : Rp α q l) : α q 1 ≤ nI l.length := by
  rw [h.1, pz_le (by have := h.2.1; omega) (by have := h.2.1; omega)]; omega
theorem gs_c {α : St} (hz : ZK α) {q a : Nat} {l : List Nat} (h : Rp α q l) (ha : a < 16) {f : Nat} : ∀ suf pre rest n m, l = pre ++ suf ++ rest → f = pre.length + suf.length → suf.length < n → f_X3_greatestSaving_6 α (26 + 2 * a) q (nI f) n m (nI pre.length) = some (iv (gsv α a suf m)) := by
  intro suf
  have hl := h.2.1
  induction suf with
  | nil =>
    intro pre rest n m e hf hn
    obtain ⟨n, rfl⟩ : ∃ m, n = m + 1 := ⟨n - 1, by omega⟩
    subst e
    simp at hl
    simp only [f_X3_greatestSaving_6]
    rw [if_pos (by rw [hf, pz_le (by simp; omega) (by omega)]; simp)]
    rfl
  | cons x s ih =>
    intro pre rest n m e hf hn
    obtain ⟨n, rfl⟩ : ∃ m, n = m + 1 := ⟨n - 1, by omega⟩
    have e2 : l = pre ++ x :: (s ++ rest) := by rw [e]; simp
    have h' : Rp α q (pre ++ x :: (s ++ rest)) := e2 ▸ h
    obtain ⟨a1, a2, a3, a4⟩ := h'.at
    have hlen : l.length = pre.length + (s.length + rest.length + 1) := by rw [e2]; simp
    simp only [List.length_cons] at hf hn
    simp only [f_X3_greatestSaving_6]
    rw [if_neg (by rw [pz_le (by omega) (by omega)]; omega), if_neg a4, if_neg (pz_in a3 (by omega)), pz_N (by omega), a1, if_neg (pz_in a2 (by omega)), pz_N (by omega), sv_c (hz a ha) (hz x a2), ri_s, pz_s]
    have := ih (pre ++ [x]) rest n (if m < sv α a x then sv α a x else m) (by rw [e]; simp) (by simp; omega) (by omega)
    simp only [List.length_append, List.length_singleton] at this
    rw [this]; rfl
theorem gs_cc {α : St} (hz : ZK α) {q a : Nat} {l : List Nat} (h : Rp α q l) (ha : a < 16) (pre rest : List Nat) (e : l = pre ++ rest) : f_X3_greatestSaving α (26 + 2 * a) q (nI pre.length) = some (iv (gsv α a pre 0)) := by
  have hl := h.2.1
  rw [e] at hl; simp only [List.length_append] at hl
  exact gs_c hz h ha pre [] rest 40 0 (by simp [e]) (by simp) (by omega)
theorem so_c1 {α : St} (hz : ZK α) {q : Nat} {l : List Nat} (h : Rp α q l) : ∀ suf pre n s, l = pre ++ suf → suf.length < n → f_X3_savedOf_4 α q n s (nI pre.length) = some (iv (so α pre suf s)) := by
  intro suf
  have hl := h.2.1
  induction suf with
  | nil =>
    intro pre n s e hn
    obtain ⟨n, rfl⟩ : ∃ m, n = m + 1 := ⟨n - 1, by omega⟩
    simp at e; subst e
    simp only [f_X3_savedOf_4]
    rw [if_pos h.end]; rfl
  | cons x r ih =>
    intro pre n s e hn
    obtain ⟨n, rfl⟩ : ∃ m, n = m + 1 := ⟨n - 1, by omega⟩
    have h' : Rp α q (pre ++ x :: r) := e ▸ h
    obtain ⟨a1, a2, a3, a4⟩ := h'.at
    simp only [List.length_cons] at hn
    simp only [f_X3_savedOf_4]
    rw [if_neg a4, if_neg (pz_in a3 (by omega)), pz_N (by omega), a1, if_neg (pz_in a2 (by omega)), pz_N (by omega), gs_cc hz h a2 pre (x :: r) e, ri_s, pz_s]
    have := ih (pre ++ [x]) n (s + gsv α x pre 0) (by rw [e]; simp) (by omega)
    simp only [List.length_append, List.length_singleton] at this
    rw [this]; rfl
theorem so_c {α : St} (hz : ZK α) {q : Nat} {l : List Nat} (h : Rp α q l) : f_X3_savedOf α q = some (iv (so α [] l 0)) := by
  unfold f_X3_savedOf
  cases l with
  | nil =>
    simp only [f_X3_savedOf_4]
    rw [if_pos (by rw [h.1]; decide)]; rfl
  | cons x r =>
    have hl := h.2.1
    simp only [List.length_cons] at hl
    have := so_c1 hz h r [x] 40 0 (by simp) (by omega)
    rw [show nI [x].length = 1 from rfl] at this
    rw [this]; rfl
theorem se_c {α : St} (hz : ZK α) {q : Nat} {l : List Nat} (h : Rp α q l) : ∀ suf pre n s, l = pre ++ suf → suf.length < n → f_X3_secondsOf_4 α q n s (nI pre.length) = some (iv (fse α suf s - so α [] l 0)) := by
  intro suf
  induction suf with
  | nil =>
    intro pre n s e hn
    obtain ⟨n, rfl⟩ : ∃ m, n = m + 1 := ⟨n - 1, by omega⟩
    have e' : l = pre := by rw [e]; simp
    simp only [f_X3_secondsOf_4]
    rw [if_pos (by rw [← e']; exact h.end), so_c hz h, ri_s]; rfl
  | cons x r ih =>
    intro pre n s e hn
    obtain ⟨n, rfl⟩ : ∃ m, n = m + 1 := ⟨n - 1, by omega⟩
    have h' : Rp α q (pre ++ x :: r) := e ▸ h
    obtain ⟨a1, a2, a3, a4⟩ := h'.at
    simp only [List.length_cons] at hn
    simp only [f_X3_secondsOf_4]
    rw [if_neg a4, if_neg (pz_in a3 (by omega)), pz_N (by omega), a1, if_neg (pz_in a2 (by omega)), pz_N (by omega), pz_s]
    have := ih (pre ++ [x]) n (s + α (26 + 2 * x) 2) (by rw [e]; simp) (by omega)
    simp only [List.length_append, List.length_singleton] at this
    rw [this]; rfl
theorem se_cc {α : St} (hz : ZK α) {q : Nat} {l : List Nat} (h : Rp α q l) : f_X3_secondsOf α q = some (iv (fse α l 0 - so α [] l 0)) :=
  se_c hz h l [] 40 0 rfl (by have := h.2.1; omega)
theorem du_c {α : St} {q : Nat} {l : List Nat} (h : Rp α q l) : ∀ suf pre n s, l = pre ++ suf → suf.length < n → f_X3_dueOf_5 α q n s (nI pre.length) = some (iv (fdu α suf s)) := by
  intro suf
  induction suf with
  | nil =>
    intro pre n s e hn
    obtain ⟨n, rfl⟩ : ∃ m, n = m + 1 := ⟨n - 1, by omega⟩
    have e' : l = pre := by rw [e]; simp
    simp only [f_X3_dueOf_5]
    rw [if_pos (by rw [← e']; exact h.end)]; rfl
  | cons x r ih =>
    intro pre n s e hn
    obtain ⟨n, rfl⟩ : ∃ m, n = m + 1 := ⟨n - 1, by omega⟩
    have h' : Rp α q (pre ++ x :: r) := e ▸ h
    obtain ⟨a1, a2, a3, a4⟩ := h'.at
    simp only [List.length_cons] at hn
    simp only [f_X3_dueOf_5]
    rw [if_neg a4, if_neg (pz_in a3 (by omega)), pz_N (by omega), a1, if_neg (pz_in a2 (by omega)), pz_N (by omega), pz_s]
    have := ih (pre ++ [x]) n (if α (26 + 2 * x) 0 < s then α (26 + 2 * x) 0 else s) (by rw [e]; simp) (by omega)
    simp only [List.length_append, List.length_singleton] at this
    rw [this]; rfl
theorem du_cc {α : St} {q : Nat} {l : List Nat} (h : Rp α q l) : f_X3_dueOf α q = some (iv (fdu α l 100000)) :=
  du_c h l [] 40 100000 rfl (by have := h.2.1; omega)
theorem fi_c {α : St} {q : Nat} {l : List Nat} (h : Rp α q l) : ∀ suf pre n s, l = pre ++ suf → suf.length < n → f_X3_finishedOf_4 α q n s (nI pre.length) = some (iv (ffi α suf s)) := by
  intro suf
  induction suf with
  | nil =>
    intro pre n s e hn
    obtain ⟨n, rfl⟩ : ∃ m, n = m + 1 := ⟨n - 1, by omega⟩
    have e' : l = pre := by rw [e]; simp
    simp only [f_X3_finishedOf_4]
    rw [if_pos (by rw [← e']; exact h.end)]; rfl
  | cons x r ih =>
    intro pre n s e hn
    obtain ⟨n, rfl⟩ : ∃ m, n = m + 1 := ⟨n - 1, by omega⟩
    have h' : Rp α q (pre ++ x :: r) := e ▸ h
    obtain ⟨a1, a2, a3, a4⟩ := h'.at
    simp only [List.length_cons] at hn
    simp only [f_X3_finishedOf_4]
    rw [if_neg a4, if_neg (pz_in a3 (by omega)), pz_N (by omega), a1, if_neg (pz_in a2 (by omega)), pz_N (by omega), pz_s]
    have := fun s => ih (pre ++ [x]) n s (by rw [e]; simp) (by omega)
    simp only [List.length_append, List.length_singleton] at this
    simp only [this, ffi, List.foldl_cons]
    split <;> rfl
theorem fi_cc {α : St} {q : Nat} {l : List Nat} (h : Rp α q l) : f_X3_finishedOf α q = some (iv (ffi α l 0)) :=
  fi_c h l [] 40 0 rfl (by have := h.2.1; omega)
theorem wa_c {α : St} {q g : Nat} (hg : g < 10) {l : List Nat} (h : Rp α q l) : ∀ suf pre n s, l = pre ++ suf → suf.length < n → f_X3_wantedOf_5 α q (nI g) n s (nI pre.length) = some (iv (fwa α g suf s)) := by
  intro suf
  induction suf with
  | nil =>
    intro pre n s e hn
    obtain ⟨n, rfl⟩ : ∃ m, n = m + 1 := ⟨n - 1, by omega⟩
    have e' : l = pre := by rw [e]; simp
    simp only [f_X3_wantedOf_5]
    rw [if_pos (by rw [← e']; exact h.end)]; rfl
  | cons x r ih =>
    intro pre n s e hn
    obtain ⟨n, rfl⟩ : ∃ m, n = m + 1 := ⟨n - 1, by omega⟩
    have h' : Rp α q (pre ++ x :: r) := e ▸ h
    obtain ⟨a1, a2, a3, a4⟩ := h'.at
    simp only [List.length_cons] at hn
    simp only [f_X3_wantedOf_5]
    rw [if_neg a4, if_neg (pz_in a3 (by omega)), pz_N (by omega), a1, if_neg (pz_in a2 (by omega)), pz_N (by omega), if_neg (pz_in hg (by omega)), pz_N (by omega), pz_s]
    have := fun s => ih (pre ++ [x]) n s (by rw [e]; simp) (by omega)
    simp only [List.length_append, List.length_singleton] at this
    simp only [this, fwa, List.foldl_cons]
    split <;> rfl
theorem wa_cc {α : St} {q g : Nat} (hg : g < 10) {l : List Nat} (h : Rp α q l) : f_X3_wantedOf α q (nI g) = some (iv (fwa α g l 0)) :=
  wa_c hg h l [] 40 0 rfl (by have := h.2.1; omega)
/-! an order's dock hours -/
theorem hv_c (α : St) {K : Nat} (hK : α 1 3 = nI K) (hK2 : K ≤ 10) (c t : Int32) : ∀ d k n, k + d = K → d < n → ∃ b, f_X0_have_2 α c t n (nI k) = some (iv b) ∧ (b = 0 ∨ b = 1) := by
  intro d
  induction d with
  | zero =>
    intro k n hk hn
    obtain ⟨n, rfl⟩ : ∃ m, n = m + 1 := ⟨n - 1, by omega⟩
    simp only [f_X0_have_2]
    rw [if_pos (by rw [hK, pz_le (by omega) (by omega)]; omega)]
    exact ⟨_, rfl, Or.inl rfl⟩
  | succ d ih =>
    intro k n hk hn
    obtain ⟨n, rfl⟩ : ∃ m, n = m + 1 := ⟨n - 1, by omega⟩
    obtain ⟨b, e, hb⟩ := ih (k + 1) n (by omega) (by omega)
    simp only [f_X0_have_2]
    rw [if_neg (by rw [hK, pz_le (by omega) (by omega)]; omega), if_neg (pz_in (by omega) (by omega)), pz_s, e]
    (repeat' split) <;> first | exact ⟨b, rfl, hb⟩ | exact ⟨_, rfl, Or.inr rfl⟩
def KK (α : St) : Prop := ∃ K, α 1 3 = nI K ∧ K ≤ 10
theorem hv_ex (α : St) (h : KK α) (c t : Int32) : ∃ b, f_X0_have α c t = some (iv b) ∧ (b = 0 ∨ b = 1) := by
  obtain ⟨K, h1, h2⟩ := h
  exact hv_c α h1 h2 c t K 0 40 (by omega) (by omega)
def hv (α : St) (i : Nat) : Int32 := match f_X0_have α (α (26 + 2 * i) 3) (α (26 + 2 * i) 0) with
  | some (.inl (some (.inl b))) => b
  | _ => 0
theorem hv_s (α : St) (h : KK α) (i : Nat) : f_X0_have α (α (26 + 2 * i) 3) (α (26 + 2 * i) 0) = some (iv (hv α i)) ∧ (hv α i = 0 ∨ hv α i = 1) := by
  obtain ⟨b, e, hb⟩ := hv_ex α h (α (26 + 2 * i) 3) (α (26 + 2 * i) 0)
  unfold hv
  rw [e]; exact ⟨rfl, hb⟩
theorem ft_c (α : St) (h : KK α) (i : Nat) : f_X3_fits α (26 + 2 * i) = some (iv (hv α i)) := by
  obtain ⟨e, hb⟩ := hv_s α h i
  unfold f_X3_fits
  rw [e, ri_s, if_pos hb]
theorem af_c {α : St} (hk : KK α) {q : Nat} {l : List Nat} (h : Rp α q l) : ∀ suf pre n, l = pre ++ suf → suf.length < n → f_X3_allFit_2 α q n (nI pre.length) = some (iv (if ∃ x ∈ suf, hv α x = 0 then 0 else 1)) := by
  intro suf
  induction suf with
  | nil =>
    intro pre n e hn
    obtain ⟨n, rfl⟩ : ∃ m, n = m + 1 := ⟨n - 1, by omega⟩
    have e' : l = pre := by rw [e]; simp
    simp only [f_X3_allFit_2]
    rw [if_pos (by rw [← e']; exact h.end)]; simp
  | cons x r ih =>
    intro pre n e hn
    obtain ⟨n, rfl⟩ : ∃ m, n = m + 1 := ⟨n - 1, by omega⟩
    have h' : Rp α q (pre ++ x :: r) := e ▸ h
    obtain ⟨a1, a2, a3, a4⟩ := h'.at
    simp only [List.length_cons] at hn
    simp only [f_X3_allFit_2]
    rw [if_neg a4, if_neg (pz_in a3 (by omega)), pz_N (by omega), a1, if_neg (pz_in a2 (by omega)), pz_N (by omega), ft_c α hk, ri_s, pz_s]
    have := ih (pre ++ [x]) n (by rw [e]; simp) (by omega)
    simp only [List.length_append, List.length_singleton] at this
    rw [this]
    by_cases hx : hv α x = 0
    · rw [if_pos hx, if_pos ⟨x, by simp, hx⟩]
    · rw [if_neg hx]; simp [hx]
theorem af_cc {α : St} (hk : KK α) {q : Nat} {l : List Nat} (h : Rp α q l) : f_X3_allFit α q = some (iv (if ∃ x ∈ l, hv α x = 0 then 0 else 1)) :=
  af_c hk h l [] 40 rfl (by have := h.2.1; omega)
