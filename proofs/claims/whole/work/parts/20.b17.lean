/-! bounds, counts, and what savings depend on -/
theorem mn_n {x y : Nat} (hx : x < 2147483648) (hy : y < 2147483648) : mn (nI x) (nI y) = nI (min x y) := by
  unfold mn
  by_cases h : x < y
  · rw [if_pos ((pz_lt hx hy).mpr h), Nat.min_eq_left (by omega)]
  · rw [if_neg (fun z => h ((pz_lt hx hy).mp z)), Nat.min_eq_right (by omega)]
theorem lp_b (u v : Nat → Int32) : ∀ d k m, ∃ m', m' ≤ m + 3 * d ∧ lp (gst u v) k d (nI m) = nI m' := by
  intro d
  induction d with
  | zero => intro k m; exact ⟨m, by omega, rfl⟩
  | succ d ih =>
    intro k m
    simp only [lp, gst]
    split
    · rw [show nI m + 3 = nI (m + 3) from nI_add m 3]
      obtain ⟨m', h1, h2⟩ := ih (k + 1) (m + 3)
      exact ⟨m', by omega, h2⟩
    · obtain ⟨m', h1, h2⟩ := ih (k + 1) m
      exact ⟨m', by omega, h2⟩
theorem bs_b (x y : Int32) : ∃ m, m ≤ 10 ∧ bs x y = nI m := by
  unfold bs
  split
  · exact ⟨10, by omega, rfl⟩
  · split
    · exact ⟨5, by omega, rfl⟩
    · exact ⟨0, by omega, rfl⟩
theorem sv_b {α : St} {a b s t : Nat} (hs : α (26 + 2 * a) 2 = nI s) (ht : α (26 + 2 * b) 2 = nI t) (hs2 : s < 2147483648) (ht2 : t < 2147483648) : ∃ v, v ≤ s ∧ sv α a b = nI v := by
  unfold sv
  obtain ⟨m, h1, h2⟩ := bs_b (α (26 + 2 * a) 1) (α (26 + 2 * b) 1)
  rw [h2]
  obtain ⟨m', h3, h4⟩ := lp_b (α (26 + 2 * a + 1)) (α (26 + 2 * b + 1)) 10 0 m
  rw [h4, hs, ht, mn_n hs2 ht2, mn_n (by omega) (by omega)]
  exact ⟨_, by omega, rfl⟩
theorem gsv_b {α : St} {a s : Nat} (hs : α (26 + 2 * a) 2 = nI s) (hs2 : s < 2147483648) : ∀ (l : List Nat) (v0 : Nat), (∀ x ∈ l, ∃ t, t ≤ 10000 ∧ α (26 + 2 * x) 2 = nI t) → v0 ≤ s → ∃ v, v ≤ s ∧ gsv α a l (nI v0) = nI v := by
  intro l
  induction l with
  | nil => intro v0 _ h; exact ⟨v0, h, rfl⟩
  | cons x r ih =>
    intro v0 hl h
    obtain ⟨t, ht, et⟩ := hl x (by simp)
    obtain ⟨v, hv, ev⟩ := sv_b hs et hs2 (by omega)
    simp only [gsv, List.foldl_cons, ev]
    by_cases q : nI v0 < nI v
    · rw [if_pos q]; exact ih v (fun y hy => hl y (by simp [hy])) hv
    · rw [if_neg q]; exact ih v0 (fun y hy => hl y (by simp [hy])) h
def SE (τ α : St) : Prop := ∀ i, i < 16 → τ (26 + 2 * i) 1 = α (26 + 2 * i) 1 ∧ τ (26 + 2 * i) 2 = α (26 + 2 * i) 2 ∧ τ (26 + 2 * i + 1) = α (26 + 2 * i + 1)
theorem SE.rf {τ : St} : SE τ τ := fun _ _ => ⟨rfl, rfl, rfl⟩
theorem SE.tr {τ α β : St} (h : SE τ α) (g : SE α β) : SE τ β := fun i hi => ⟨(h i hi).1.trans (g i hi).1, (h i hi).2.1.trans (g i hi).2.1, (h i hi).2.2.trans (g i hi).2.2⟩
theorem SE.sy {τ α : St} (h : SE τ α) : SE α τ := fun i hi => ⟨(h i hi).1.symm, (h i hi).2.1.symm, (h i hi).2.2.symm⟩
theorem SE.sv {τ α : St} (h : SE τ α) {a b : Nat} (ha : a < 16) (hb : b < 16) : sv τ a b = sv α a b := by
  unfold Jvm.Pilot.CWavePlansLaw_law_r2148_20f0fd.sv
  rw [(h a ha).1, (h a ha).2.1, (h a ha).2.2, (h b hb).1, (h b hb).2.1, (h b hb).2.2]
theorem fold_ext {f g : Int32 → Nat → Int32} : ∀ (l : List Nat) (m : Int32), (∀ x ∈ l, ∀ m, f m x = g m x) → l.foldl f m = l.foldl g m := by
  intro l
  induction l with
  | nil => intro m _; rfl
  | cons x r ih =>
    intro m h
    rw [List.foldl_cons, List.foldl_cons, h x (by simp) m]
    exact ih _ (fun y hy => h y (by simp [hy]))
theorem SE.gsv {τ α : St} (h : SE τ α) {a : Nat} (ha : a < 16) (l : List Nat) (m : Int32) (hl : ∀ x ∈ l, x < 16) : gsv τ a l m = gsv α a l m := by
  unfold Jvm.Pilot.CWavePlansLaw_law_r2148_20f0fd.gsv
  refine fold_ext l m (fun x hx m => ?_)
  rw [h.sv ha (hl x hx)]
theorem SE.so {τ α : St} (h : SE τ α) : ∀ (l pre : List Nat) (s : Int32), (∀ x ∈ l, x < 16) → (∀ x ∈ pre, x < 16) → so τ pre l s = so α pre l s := by
  intro l
  induction l with
  | nil => intro pre s _ _; rfl
  | cons x r ih =>
    intro pre s hl hp
    simp only [Jvm.Pilot.CWavePlansLaw_law_r2148_20f0fd.so, h.gsv (hl x (by simp)) pre 0 hp]
    refine ih _ _ (fun y hy => hl y (by simp [hy])) (fun y hy => ?_)
    rcases List.mem_append.mp hy with q | q
    · exact hp y q
    · simp at q; subst q; exact hl y (by simp)
theorem so_snoc (α : St) (b : Nat) : ∀ (l pre : List Nat) (s : Int32), so α pre (l ++ [b]) s = so α pre l s + gsv α b (pre ++ l) 0 := by
  intro l
  induction l with
  | nil => intro pre s; simp [so]
  | cons x r ih =>
    intro pre s
    simp only [List.cons_append, so]
    rw [ih]; simp
def cnt (p : Nat → Bool) (N : Nat) : Nat := ((List.range' 0 N).filter p).length
theorem cnt_le (p : Nat → Bool) (N : Nat) : cnt p N ≤ N := by
  have := List.length_filter_le p (List.range' 0 N)
  simpa [cnt] using this
theorem cnt_dec {p q : Nat → Bool} {N b : Nat} (h : ∀ i, i < N → q i = true → p i = true) (hb : b < N) (h1 : p b = true) (h2 : q b = false) : cnt q N + 1 ≤ cnt p N := by
  have := List.Nodup.length_le_of_subset (l₁ := b :: (List.range' 0 N).filter q) (l₂ := (List.range' 0 N).filter p) (List.nodup_cons.mpr ⟨by simp [h2], List.Nodup.sublist List.filter_sublist (List.nodup_range')⟩) (by
    intro i hi
    rcases List.mem_cons.mp hi with z | z
    · subst z; simp [h1, hb]
    · simp only [List.mem_filter, List.mem_range'_1] at z ⊢
      exact ⟨z.1, h i (by omega) z.2⟩)
  simpa [cnt] using this
theorem cnt_pos {p : Nat → Bool} {N b : Nat} (hb : b < N) (h1 : p b = true) : 1 ≤ cnt p N := by
  have : b ∈ (List.range' 0 N).filter p := by simp [hb, h1]
  exact List.length_pos_of_mem this
def opn (μ : St) (i : Nat) : Bool := decide (μ 13 i = 0 ∧ μ 22 i = 0)
def unl (μ : St) (i : Nat) : Bool := decide (μ 24 i = 0)
/-- what planning changes in the reference -/
def PF (μ μ' : St) : Prop := (∀ p, p ≠ 8 → p ≠ 22 → p ≠ 23 → p ≠ 24 → μ' p = μ p) ∧ ∀ k, k ≠ 11 → μ' 8 k = μ 8 k
theorem PF.rf {μ : St} : PF μ μ := ⟨fun _ _ _ _ _ => rfl, fun _ _ => rfl⟩
theorem PF.tr {μ ν ρ : St} (h : PF μ ν) (g : PF ν ρ) : PF μ ρ := ⟨fun p h1 h2 h3 h4 => (g.1 p h1 h2 h3 h4).trans (h.1 p h1 h2 h3 h4), fun k hk => (g.2 k hk).trans (h.2 k hk)⟩
theorem PF.r0 {μ μ' τ : St} (h : PF μ μ') (r : R0 μ τ) : R0 μ' τ := by
  obtain ⟨⟨a1, a2, a3⟩, b, d, e⟩ := r
  refine ⟨⟨(h.2 1 (by decide)).trans a1, (h.2 2 (by decide)).trans a2, (h.2 12 (by decide)).trans a3⟩, ?_, ?_, ?_⟩
  · rw [h.1 9 (by decide) (by decide) (by decide) (by decide), h.1 10 (by decide) (by decide) (by decide) (by decide), h.1 11 (by decide) (by decide) (by decide) (by decide), h.1 12 (by decide) (by decide) (by decide) (by decide), h.1 15 (by decide) (by decide) (by decide) (by decide), h.1 16 (by decide) (by decide) (by decide) (by decide)]; exact b
  · rw [h.1 17 (by decide) (by decide) (by decide) (by decide), h.1 18 (by decide) (by decide) (by decide) (by decide), h.1 19 (by decide) (by decide) (by decide) (by decide), h.1 21 (by decide) (by decide) (by decide) (by decide)]; exact d
  · rw [h.1 20 (by decide) (by decide) (by decide) (by decide)]; exact e
/-- one order put into a wave that is made -/
def put (μ : St) (b : Nat) (w : Int32) : St := up2 (up2 (up2 μ 22 b w) 23 b (μ 8 11)) 8 11 (μ 8 11 + 1)
theorem put_e {μ : St} {b : Nat} (hb : b < 16) (w : Int32) : f_X4_put μ (nI b) w = some (.inl none, put μ b w) := by
  unfold f_X4_put put
  rw [if_neg (pz_in hb (by omega)), pz_N (by omega), up2_ap (by decide), up2_ap (by decide), up2_ap (by decide)]
theorem put_f {μ : St} {b : Nat} {w : Int32} : PF μ (put μ b w) := by
  refine ⟨fun p h1 h2 h3 h4 => ?_, fun k hk => ?_⟩
  · unfold put; rw [up2_ne h1, up2_ne h3, up2_ne h2]
  · unfold put; rw [up2_ak hk, up2_ap (by decide), up2_ap (by decide)]
theorem put_24 {μ : St} {b : Nat} {w : Int32} : put μ b w 24 = μ 24 := rfl
theorem put_13 {μ : St} {b : Nat} {w : Int32} : put μ b w 13 = μ 13 := rfl
theorem put_14 {μ : St} {b : Nat} {w : Int32} : put μ b w 14 = μ 14 := rfl
theorem put_22 {μ : St} {b : Nat} {w : Int32} (i : Nat) : put μ b w 22 i = if i = b then w else μ 22 i := by
  show up2 (up2 μ 22 b w) 23 b (μ 8 11) 22 i = _
  rw [up2_ap (by decide)]
  by_cases h : i = b
  · subst h; rw [up2_at, if_pos rfl]
  · rw [up2_ak h, if_neg h]
theorem put_23 {μ : St} {b : Nat} {w : Int32} (i : Nat) : put μ b w 23 i = if i = b then μ 8 11 else μ 23 i := by
  show up2 (up2 μ 22 b w) 23 b (μ 8 11) 23 i = _
  by_cases h : i = b
  · subst h; rw [up2_at, if_pos rfl]
  · rw [up2_ak h, if_neg h]; rfl
theorem put_o {μ τ : St} {N b : Nat} {w : Int32} (hw : w ≠ 0) (hb : b < N) (ho : opm μ τ b ≠ 0) : cnt (opn (put μ b w)) N + 1 ≤ cnt (opn μ) N := by
  refine cnt_dec (fun i hi h => ?_) hb (decide_eq_true (opm_ne ho)) ?_
  · simp only [opn, decide_eq_true_eq, put_13, put_22] at h ⊢
    by_cases q : i = b
    · rw [if_pos q] at h; exact absurd h.2 hw
    · rw [if_neg q] at h; exact h
  · simp only [opn, put_22, if_true, decide_eq_false_iff_not]
    exact fun z => hw z.2
/-! planning: the reference alone comes to an end -/
theorem fi_t {τ : St} {N : Nat} (hN2 : N ≤ 16) (hk : KK τ) (hz : ZK τ) {f : Nat} (hf : f < 16) {w : Int32} (hw : w ≠ 0) : ∀ u μ ld s x n, μ 8 2 = nI N → R0 μ τ → cnt (opn μ) N ≤ u → u < n → (x = -1 ∨ ∃ b, b < N ∧ x = nI b ∧ opm μ τ b ≠ 0) → ∃ v μ', f_X4_fill_24 (nI f) w n μ ld s x = some (iv v, μ') ∧ PF μ μ' ∧ μ' 24 = μ 24 := by
  intro u
  induction u with
  | zero =>
    intro μ ld s x n hN h0 hu hn hx
    obtain ⟨n, rfl⟩ : ∃ m, n = m + 1 := ⟨n - 1, by omega⟩
    rcases hx with e | ⟨b, hb, e, ho⟩
    · subst e
      exact ⟨s, μ, rfl, PF.rf, rfl⟩
    · have := cnt_pos (p := opn μ) hb (decide_eq_true (opm_ne ho))
      omega
  | succ u ih =>
    intro μ ld s x n hN h0 hu hn hx
    obtain ⟨n, rfl⟩ : ∃ m, n = m + 1 := ⟨n - 1, by omega⟩
    rcases hx with e | ⟨b, hb, e, ho⟩
    · subst e
      exact ⟨s, μ, rfl, PF.rf, rfl⟩
    · subst e
      have hb16 : b < 16 := by omega
      have p := put_f (μ := μ) (b := b) (w := w)
      have h03 := p.r0 h0
      have hN3 : put μ b w 8 2 = nI N := (p.2 2 (by decide)).trans hN
      simp only [f_X4_fill_24]
      rw [if_neg (pz_m1 (by omega)), mo_mm hN hN2 h0 hz hb16, ri_s, put_e hb16, nv_s, if_neg (pz_in hb16 (by omega)), if_neg (pz_in hf (by omega)), pz_N (by omega), pz_N (by omega)]
      obtain ⟨v, e1, e2⟩ := bt_tt hN3 hN2 h03 hk hz w (put μ b w 12 f) (ld + (put μ b w 11 b - gsv τ b (Fw (μ 22) w 0 N) 0))
      rw [e1, ri_s]
      obtain ⟨v', μ', a1, a2, a3⟩ := ih (put μ b w) _ (s + gsv τ b (Fw (μ 22) w 0 N) 0) v n hN3 h03 (by have := put_o hw hb ho; omega) (by omega) (e2.imp_right fun ⟨b', q1, q2, q3, _⟩ => ⟨b', q1, q2, q3⟩)
      exact ⟨v', μ', a1, p.tr a2, a3.trans put_24⟩
theorem fl_t {τ : St} {N : Nat} (hN2 : N ≤ 16) (hk : KK τ) (hz : ZK τ) {f : Nat} (hf : f < 16) {w : Int32} (hw : w ≠ 0) {μ : St} (hN : μ 8 2 = nI N) (h0 : R0 μ τ) : ∃ v μ', f_X4_fill μ (nI f) w = some (iv v, μ') ∧ PF μ μ' ∧ μ' 24 = μ 24 := by
  unfold f_X4_fill
  rw [if_neg (pz_in hf (by omega)), pz_N (by omega)]
  obtain ⟨v, e1, e2⟩ := bt_tt hN hN2 h0 hk hz w (μ 12 f) (μ 11 f)
  rw [e1, ri_s]
  exact fi_t hN2 hk hz hf hw N μ _ 0 v 40 hN h0 (cnt_le _ _) (by omega) (e2.imp_right fun ⟨b', q1, q2, q3, _⟩ => ⟨b', q1, q2, q3⟩)
theorem lk_f {μ : St} {b : Nat} : PF μ (up2 μ 24 b 1) := ⟨fun p h1 h2 h3 h4 => up2_ne h4, fun k hk => up2_ap (by decide)⟩
theorem lk_u {μ μ' : St} {N b : Nat} (hb : b < N) (hl : μ 24 b = 0) (h : μ' 24 = up2 μ 24 b 1 24) : cnt (unl μ') N + 1 ≤ cnt (unl μ) N := by
  refine cnt_dec (fun i hi q => ?_) hb (decide_eq_true hl) ?_
  · simp only [unl, decide_eq_true_eq, h] at q ⊢
    by_cases z : i = b
    · subst z; exact hl
    · rw [up2_ak z] at q; exact q
  · simp only [unl, h, up2_at]; rfl
theorem pl_t {τ : St} {N : Nat} (hN2 : N ≤ 16) (hk : KK τ) (hz : ZK τ) (had : Int32) : ∀ u μ m s x n, μ 8 2 = nI N → R0 μ τ → cnt (unl μ) N ≤ u → u < n → m + u < 1000 → (x = -1 ∨ ∃ b, b < N ∧ x = nI b ∧ μ 24 b = 0) → ∃ m' s' μ', f_X4_plan_52 had n μ (nI m) s x = f_X4_plan_124 μ' (nI m') had s' (if m' ≤ 16 then 0 else 1) ∧ m ≤ m' ∧ PF μ μ' := by
  have stop : ∀ μ (m : Nat) s n, m < 1000 → f_X4_plan_52 had (n + 1) μ (nI m) s (-1) = f_X4_plan_124 μ (nI m) had s (if m ≤ 16 then 0 else 1) := by
    intro μ m s n hm
    simp only [f_X4_plan_52]
    rw [if_pos trivial]
    by_cases q : m ≤ 16
    · rw [if_pos (show nI m ≤ 16 from (pz_le (by omega) (by decide : 16 < 2147483648)).mpr q), if_pos q]
    · rw [if_neg (show ¬ nI m ≤ 16 from fun z => q ((pz_le (by omega) (by decide : 16 < 2147483648)).mp z)), if_neg q]
  intro u
  induction u with
  | zero =>
    intro μ m s x n hN h0 hu hn hm hx
    obtain ⟨n, rfl⟩ : ∃ m, n = m + 1 := ⟨n - 1, by omega⟩
    rcases hx with e | ⟨b, hb, e, ho⟩
    · subst e
      exact ⟨m, s, μ, stop μ m s n (by omega), Nat.le_refl _, PF.rf⟩
    · have := cnt_pos (p := unl μ) hb (decide_eq_true ho)
      omega
  | succ u ih =>
    intro μ m s x n hN h0 hu hn hm hx
    obtain ⟨n, rfl⟩ : ∃ m, n = m + 1 := ⟨n - 1, by omega⟩
    rcases hx with e | ⟨b, hb, e, ho⟩
    · subst e
      exact ⟨m, s, μ, stop μ m s n (by omega), Nat.le_refl _, PF.rf⟩
    · subst e
      have hb16 : b < 16 := by omega
      have p1 := lk_f (μ := μ) (b := b)
      have h01 := p1.r0 h0
      have hN1 : up2 μ 24 b 1 8 2 = nI N := hN
      simp only [f_X4_plan_52]
      rw [if_neg (pz_m1 (by omega)), if_neg (pz_in hb16 (by omega)), pz_N (by omega)]
      by_cases q : up2 μ 24 b 1 11 b ≤ up2 μ 24 b 1 8 1
      · rw [if_pos q, pz_s, put_e hb16, nv_s]
        have p2 := put_f (μ := up2 μ 24 b 1) (b := b) (w := nI (m + 1))
        have hw : nI (m + 1) ≠ 0 := fun z => absurd ((pz_eq (a := m + 1) (b := 0) (by omega) (by omega)).mp z) (by omega)
        obtain ⟨v, μ3, e1, e2, e3⟩ := fl_t hN2 hk hz hb16 hw ((p2.2 2 (by decide)).trans hN1) (p2.r0 h01)
        rw [e1, ni_s]
        have h03 := e2.r0 (p2.r0 h01)
        have hN3 : μ3 8 2 = nI N := (e2.2 2 (by decide)).trans ((p2.2 2 (by decide)).trans hN1)
        obtain ⟨x', f1, f2⟩ := be_tt hN3 hN2 h03 hk
        rw [f1, ri_s]
        obtain ⟨m', s', μ', g1, g2, g3⟩ := ih μ3 (m + 1) (s + v) x' n hN3 h03 (by have := lk_u (μ := μ) (μ' := μ3) hb ho (e3.trans put_24); omega) (by omega) (by omega) (f2.imp_right fun ⟨b', q1, q2, q3, q4⟩ => ⟨b', q1, q2, q4⟩)
        exact ⟨m', s', μ', g1, by omega, ((p1.tr p2).tr e2).tr g3⟩
      · rw [if_neg q]
        obtain ⟨x', f1, f2⟩ := be_tt hN1 hN2 h01 hk
        rw [f1, ri_s]
        obtain ⟨m', s', μ', g1, g2, g3⟩ := ih (up2 μ 24 b 1) m s x' n hN1 h01 (by have := lk_u (μ := μ) (μ' := up2 μ 24 b 1) hb ho rfl; omega) (by omega) (by omega) (f2.imp_right fun ⟨b', q1, q2, q3, q4⟩ => ⟨b', q1, q2, q4⟩)
        exact ⟨m', s', μ', g1, g2, p1.tr g3⟩
