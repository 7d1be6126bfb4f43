/-! waves joined: the class -/
theorem ad_c {σ : St} {q x : Nat} {l : List Nat} (h : Rp σ q l) (hl : l.length < 16) (hx : x < 16) : ∃ τ, f_X2_add σ q (nI x) = some (.inl none, τ) ∧ Rp τ q (l ++ [x]) ∧ (∀ p, p ≠ q → p ≠ q + 1 → τ p = σ p) ∧ ∀ k, k ≠ 1 → τ q k = σ q k := by
  obtain ⟨h1, h2, h3, h4⟩ := h
  unfold f_X2_add
  rw [h1, if_neg (show ¬ (16 : Int32) ≤ nI l.length from fun z => by rw [show (16 : Int32) = nI 16 from rfl, pz_le (by omega) (by omega)] at z; omega), if_neg (pz_in hl (by omega)), pz_N (by omega), up2_ap (by omega), h1, pz_s]
  refine ⟨_, rfl, ⟨?_, by simp; omega, fun k y hk => ?_, fun y hy => ?_⟩, fun p hp hp2 => ?_, fun k hk => ?_⟩
  · rw [up2_at]; simp
  · rw [up2_ap (by omega)]
    rcases Nat.lt_or_ge k l.length with z | z
    · rw [List.getElem?_append_left z] at hk
      rw [up2_ak (by omega)]; exact h3 k y hk
    · rw [List.getElem?_append_right z] at hk
      rcases Nat.eq_zero_or_pos (k - l.length) with z2 | z2
      · rw [z2] at hk
        have : k = l.length := by omega
        subst this
        simp at hk; subst hk
        exact up2_at
      · rw [List.getElem?_eq_none (by simp; omega)] at hk; cases hk
  · rcases List.mem_append.mp hy with z | z
    · exact h4 y z
    · simp at z; subst z; exact hx
  · rw [up2_ne hp, up2_ne hp2]
  · rw [up2_ak hk, up2_ap (by omega)]
theorem al_c {q0 q1 : Nat} (hq : q0 ≠ q1 ∧ q0 ≠ q1 + 1 ∧ q0 + 1 ≠ q1 ∧ q0 + 1 ≠ q1 + 1) {B : List Nat} : ∀ suf pre n τ A, B = pre ++ suf → suf.length < n → Rp τ q0 A → Rp τ q1 B → A.length + suf.length ≤ 16 → ∃ τ', f_X2_addAll_2 q0 q1 n τ (nI pre.length) = some (.inl none, τ') ∧ Rp τ' q0 (A ++ suf) ∧ (∀ p, p ≠ q0 → p ≠ q0 + 1 → τ' p = τ p) ∧ ∀ k, k ≠ 1 → τ' q0 k = τ q0 k := by
  intro suf
  induction suf with
  | nil =>
    intro pre n τ A e hn hA hB hl
    obtain ⟨n, rfl⟩ : ∃ m, n = m + 1 := ⟨n - 1, by omega⟩
    have e' : B = pre := by rw [e]; simp
    simp only [f_X2_addAll_2]
    rw [if_pos (show τ q1 1 ≤ nI pre.length by rw [← e']; exact hB.end)]
    exact ⟨τ, rfl, by simpa using hA, fun _ _ _ => rfl, fun _ _ => rfl⟩
  | cons x s ih =>
    intro pre n τ A e hn hA hB hl
    obtain ⟨n, rfl⟩ : ∃ m, n = m + 1 := ⟨n - 1, by omega⟩
    have h' : Rp τ q1 (pre ++ x :: s) := e ▸ hB
    obtain ⟨a1, a2, a3, a4⟩ := h'.at
    simp only [List.length_cons] at hn hl
    simp only [f_X2_addAll_2]
    obtain ⟨τ1, b1, b2, b3, b4⟩ := ad_c hA (x := x) (by omega) a2
    rw [if_neg a4, if_neg (pz_in a3 (by omega)), pz_N (by omega), a1, b1, nv_s, pz_s]
    obtain ⟨τ', c1, c2, c3, c4⟩ := ih (pre ++ [x]) n τ1 (A ++ [x]) (by rw [e]; simp) (by omega) b2 (hB.f (b3 _ (by omega) (by omega)) (b3 _ (by omega) (by omega))) (by simp; omega)
    simp only [List.length_append, List.length_singleton] at c1
    refine ⟨τ', c1, by simpa using c2, fun p hp hp2 => (c3 p hp hp2).trans (b3 p hp hp2), fun k hk => (c4 k hk).trans (b4 k hk)⟩
theorem al_cc {q0 q1 : Nat} (hq : q0 ≠ q1 ∧ q0 ≠ q1 + 1 ∧ q0 + 1 ≠ q1 ∧ q0 + 1 ≠ q1 + 1) {τ : St} {A B : List Nat} (hA : Rp τ q0 A) (hB : Rp τ q1 B) (hl : A.length + B.length ≤ 16) : ∃ τ', f_X2_addAll τ q0 q1 = some (.inl none, τ') ∧ Rp τ' q0 (A ++ B) ∧ (∀ p, p ≠ q0 → p ≠ q0 + 1 → τ' p = τ p) ∧ ∀ k, k ≠ 1 → τ' q0 k = τ q0 k :=
  al_c hq B [] 40 τ A rfl (by omega) hA hB hl
theorem em_c {τ : St} {q : Nat} : ∃ τ', f_X2_empty τ q = some (.inl none, τ') ∧ Rp τ' q [] ∧ (∀ p, p ≠ q → τ' p = τ p) ∧ ∀ k, k ≠ 1 → τ' q k = τ q k :=
  ⟨_, rfl, ⟨up2_at, by simp, fun k x h => by simp at h, fun x h => by simp at h⟩, fun p hp => up2_ne hp, fun k hk => up2_ak hk⟩
/-- places of the members set to v -/
theorem jp_c {q3 q4 : Nat} (hq : ∀ i, i < 16 → q4 ≠ 26 + 2 * i ∧ q4 + 1 ≠ 26 + 2 * i) (x1 x5 : Int32) {B : List Nat} : ∀ suf pre n τ, B = pre ++ suf → suf.length < n → Rp τ q4 B → ∃ τ', f_X3_join_105 x1 q3 q4 x5 n τ (nI pre.length) = nv (f_X2_addAll τ' q3 q4) (fun σ2 => nv (f_X2_empty σ2 q4) (fun σ3 => some (iv x5, σ3))) ∧ (∀ i, i ∈ suf → τ' (26 + 2 * i) 6 = x1) ∧ (∀ p k, (∀ i ∈ suf, p ≠ 26 + 2 * i) ∨ k ≠ 6 → τ' p k = τ p k) := by
  intro suf
  induction suf with
  | nil =>
    intro pre n τ e hn hB
    obtain ⟨n, rfl⟩ : ∃ m, n = m + 1 := ⟨n - 1, by omega⟩
    have e' : B = pre := by rw [e]; simp
    simp only [f_X3_join_105]
    rw [if_pos (show τ q4 1 ≤ nI pre.length by rw [← e']; exact hB.end)]
    exact ⟨τ, rfl, fun i hi => by simp at hi, fun _ _ _ => rfl⟩
  | cons x s ih =>
    intro pre n τ e hn hB
    obtain ⟨n, rfl⟩ : ∃ m, n = m + 1 := ⟨n - 1, by omega⟩
    have h' : Rp τ q4 (pre ++ x :: s) := e ▸ hB
    obtain ⟨a1, a2, a3, a4⟩ := h'.at
    simp only [List.length_cons] at hn
    simp only [f_X3_join_105]
    rw [if_neg a4, if_neg (pz_in a3 (by omega)), pz_N (by omega), a1, if_neg (pz_in a2 (by omega)), pz_N (by omega), pz_s]
    obtain ⟨τ', c1, c2, c3⟩ := ih (pre ++ [x]) n (up2 τ (26 + 2 * x) 6 x1) (by rw [e]; simp) (by omega) (hB.f (up2_ne (hq x a2).1) (up2_ne (hq x a2).2))
    simp only [List.length_append, List.length_singleton] at c1
    refine ⟨τ', c1, fun i hi => ?_, fun p k h => ?_⟩
    · by_cases z : i ∈ s
      · exact c2 i z
      · rcases List.mem_cons.mp hi with q | q
        · subst q
          rw [c3 _ _ (Or.inl fun i' hi' z2 => z (by have : i = i' := by omega
                                                    subst this; exact hi'))]
          exact up2_at
        · exact absurd q z
    · rcases h with h | h
      · rw [c3 p k (Or.inl fun i hi => h i (List.mem_cons_of_mem _ hi)), up2_ap (h x (by simp))]
      · rw [c3 p k (Or.inr h), up2_ak h]
/-! waves joined: the reference -/
theorem js_m {N : Nat} (hN2 : N ≤ 16) (x1 x2 : Int32) : ∀ d k n μ, μ 8 2 = nI N → k + d = N → d < n → (∀ i, i < k → μ 22 i = μ 13 i ∧ μ 23 i = μ 14 i) → ∃ μ', f_X4_join_100 x1 x2 n μ (nI k) = ri (f_X4_sizeOf μ' x2) (fun x2_ => f_X4_join_147 x1 x2 x2_ 40 μ' 0) ∧ (∀ p, p ≠ 22 → p ≠ 23 → μ' p = μ p) ∧ ∀ i, i < N → μ' 22 i = μ 13 i ∧ μ' 23 i = μ 14 i := by
  intro d
  induction d with
  | zero =>
    intro k n μ h8 hk hn hi
    obtain ⟨n, rfl⟩ : ∃ m, n = m + 1 := ⟨n - 1, by omega⟩
    simp only [f_X4_join_100]
    rw [if_pos (show μ 8 2 ≤ nI k by rw [h8, pz_le (by omega) (by omega)]; omega)]
    exact ⟨μ, rfl, fun _ _ _ => rfl, fun i hi' => hi i (by omega)⟩
  | succ d ih =>
    intro k n μ h8 hk hn hi
    obtain ⟨n, rfl⟩ : ∃ m, n = m + 1 := ⟨n - 1, by omega⟩
    simp only [f_X4_join_100]
    rw [if_neg (show ¬ μ 8 2 ≤ nI k by rw [h8, pz_le (by omega) (by omega)]; omega), if_neg (pz_in (by omega) (by omega)), pz_N (by omega), pz_s, up2_ap (by decide)]
    obtain ⟨μ', a, b, c⟩ := ih (k + 1) n (up2 (up2 μ 23 k (μ 14 k)) 22 k (μ 13 k)) h8 (by omega) (by omega) (fun i hi' => by
      by_cases z : i = k
      · subst z
        exact ⟨up2_at, by rw [up2_ap (by decide), up2_at]; rfl⟩
      · obtain ⟨z1, z2⟩ := hi i (by omega)
        exact ⟨by rw [up2_ak z, up2_ap (by decide)]; exact z1, by rw [up2_ap (by decide), up2_ak z]; exact z2⟩)
    exact ⟨μ', a, fun p hp hp2 => (b p hp hp2).trans ((up2_ne hp).trans (up2_ne hp2)), c⟩
theorem jr_m {N : Nat} (hN2 : N ≤ 16) : ∀ d k n μ, μ 8 2 = nI N → k + d = N → d < n → ∃ μ', f_X4_join_217 n μ (nI k) = some (iv 0, μ') ∧ (∀ p, p ≠ 8 → p ≠ 13 → p ≠ 14 → μ' p = μ p) ∧ μ' 8 0 = 2 ∧ (∀ k, k ≠ 0 → μ' 8 k = μ 8 k) ∧ (∀ i, k ≤ i → i < N → μ' 13 i = μ 22 i ∧ μ' 14 i = μ 23 i) ∧ ∀ i, i < k ∨ N ≤ i → μ' 13 i = μ 13 i ∧ μ' 14 i = μ 14 i := by
  intro d
  induction d with
  | zero =>
    intro k n μ h8 hk hn
    obtain ⟨n, rfl⟩ : ∃ m, n = m + 1 := ⟨n - 1, by omega⟩
    simp only [f_X4_join_217]
    rw [if_pos (show μ 8 2 ≤ nI k by rw [h8, pz_le (by omega) (by omega)]; omega)]
    exact ⟨_, rfl, fun p hp _ _ => up2_ne hp, rfl, fun k hk => up2_ak hk, fun i h1 h2 => absurd h2 (by omega), fun i _ => ⟨rfl, rfl⟩⟩
  | succ d ih =>
    intro k n μ h8 hk hn
    obtain ⟨n, rfl⟩ : ∃ m, n = m + 1 := ⟨n - 1, by omega⟩
    simp only [f_X4_join_217]
    rw [if_neg (show ¬ μ 8 2 ≤ nI k by rw [h8, pz_le (by omega) (by omega)]; omega), if_neg (pz_in (by omega) (by omega)), pz_N (by omega), pz_s, up2_ap (show (22 : Nat) ≠ 14 by decide)]
    obtain ⟨μ', a, b, c, d', e, f⟩ := ih (k + 1) n (up2 (up2 μ 14 k (μ 23 k)) 13 k (μ 22 k)) h8 (by omega) (by omega)
    refine ⟨μ', a, fun p h1 h2 h3 => (b p h1 h2 h3).trans ((up2_ne h2).trans (up2_ne h3)), c, d', fun i h1 h2 => ?_, fun i h => ?_⟩
    · by_cases z : i = k
      · subst z
        obtain ⟨z1, z2⟩ := f i (Or.inl (by omega))
        exact ⟨z1.trans up2_at, z2.trans ((up2_ap (by decide)).trans up2_at)⟩
      · exact e i (by omega) h2
    · obtain ⟨z1, z2⟩ := f i (by omega)
      exact ⟨z1.trans ((up2_ak (by omega)).trans (up2_ap (by decide))), z2.trans ((up2_ap (by decide)).trans (up2_ak (by omega)))⟩
theorem jm_m {N : Nat} (hN2 : N ≤ 16) {w x : Nat} (hwx : w ≠ x) (hw : w < 100) (hx : x < 100) : ∀ B A k n μ c, μ 8 2 = nI N → SL (μ 13) (μ 14) N (nI w) A → SL (μ 13) (μ 14) N (nI x) B → (∀ i ∈ A ++ B, ∃ m, m < c ∧ μ 14 i = nI m) → μ 8 11 = nI c → c + B.length < 1073741824 → A.length + B.length ≤ 16 → k + B.length ≤ 16 → B.length < n →
    ∃ μ', f_X4_join_147 (nI w) (nI x) (nI (k + B.length)) n μ (nI k) = ri (f_X4_secondsOf μ' (nI w)) (fun x2_ => if (μ' 8 1) < x2_ then f_X4_join_217 40 μ' 0 else ri (f_X4_secondsOf μ' (nI w)) (fun x4_ => some (iv x4_, μ'))) ∧ SL (μ' 13) (μ' 14) N (nI w) (A ++ B) ∧ (∀ i ∈ A ++ B, ∃ m, m < c + B.length ∧ μ' 14 i = nI m) ∧ μ' 8 11 = nI (c + B.length) ∧ (∀ k, k ≠ 11 → μ' 8 k = μ 8 k) ∧ (∀ p, p ≠ 8 → p ≠ 13 → p ≠ 14 → μ' p = μ p) ∧ (∀ i, i ∈ B → μ' 13 i = nI w) ∧ ∀ i, i ∉ B → μ' 13 i = μ 13 i ∧ μ' 14 i = μ 14 i := by
  intro B
  induction B with
  | nil =>
    intro A k n μ c h8 sA sB hb hc h1 h2 h3 hn
    obtain ⟨n, rfl⟩ : ∃ m, n = m + 1 := ⟨n - 1, by omega⟩
    simp only [f_X4_join_147]
    rw [if_pos (show nI (k + ([] : List Nat).length) ≤ nI k by rw [pz_le (by simp; simp at h3; omega) (by simp at h3; omega)]; simp)]
    exact ⟨μ, rfl, by simpa using sA, by simpa using hb, by simpa using hc, fun _ _ => rfl, fun _ _ _ _ => rfl, fun i hi => by simp at hi, fun _ _ => ⟨rfl, rfl⟩⟩
  | cons o B ih =>
    intro A k n μ c h8 sA sB hb hc h1 h2 h3 hn
    obtain ⟨n, rfl⟩ : ∃ m, n = m + 1 := ⟨n - 1, by omega⟩
    simp only [List.length_cons] at h1 h2 h3 hn
    have ho := (sB.1 o).mp (by simp)
    have hm := ma_mm h8 hN2 (nI x) 0
    have hfind := sB.find (by simp; omega) (i := 0) (by omega)
    rw [show nI 0 = (0 : Int32) from rfl] at hfind
    rw [hfind] at hm
    have hm : f_X4_memberAt μ (nI x) 0 = some (iv (nI o)) := hm
    simp only [f_X4_join_147, List.length_cons]
    rw [if_neg (show ¬ nI (k + (B.length + 1)) ≤ nI k by rw [pz_le (by omega) (by omega)]; omega), hm, ri_s, if_neg (pz_in (by omega) (by omega)), pz_N (by omega), pz_s, up2_ap (show (8 : Nat) ≠ 13 by decide), up2_ap (show (8 : Nat) ≠ 14 by decide), up2_ap (show (8 : Nat) ≠ 13 by decide), hc, pz_s]
    have ndB := sB.nd
    have noB : o ∉ B := (List.nodup_cons.mp ndB).1
    have noA : o ∉ A := fun z => by
      have := ((sA.1 o).mp z).2
      rw [ho.2, pz_eq (by omega) (by omega)] at this; exact hwx this.symm
    let μ1 := up2 (up2 (up2 μ 13 o (nI w)) 14 o (nI c)) 8 11 (nI (c + 1))
    have p13 : ∀ i, i ≠ o → μ1 13 i = μ 13 i := fun i hi => by
      show up2 (up2 μ 13 o (nI w)) 14 o (nI c) 13 i = _
      rw [up2_ap (by decide), up2_ak hi]
    have p13o : μ1 13 o = nI w := by
      show up2 (up2 μ 13 o (nI w)) 14 o (nI c) 13 o = _
      rw [up2_ap (by decide), up2_at]
    have p14 : ∀ i, i ≠ o → μ1 14 i = μ 14 i := fun i hi => by
      show up2 (up2 μ 13 o (nI w)) 14 o (nI c) 14 i = _
      rw [up2_ak hi]; rfl
    have p14o : μ1 14 o = nI c := by
      show up2 (up2 μ 13 o (nI w)) 14 o (nI c) 14 o = _
      exact up2_at
    have sA1 : SL (μ1 13) (μ1 14) N (nI w) (A ++ [o]) := by
      refine ⟨fun i => ?_, ?_⟩
      · by_cases z : i = o
        · subst z
          rw [p13o]; simp [ho.1]
        · rw [p13 i z]
          simp only [List.mem_append, List.mem_singleton, z, or_false]; exact sA.1 i
      · refine List.pairwise_append.mpr ⟨?_, by simp, fun a ha b hb' => ?_⟩
        · refine List.Pairwise.imp_of_mem ?_ sA.2
          intro a b ha hb' hab
          rw [p14 a (fun z => noA (z ▸ ha)), p14 b (fun z => noA (z ▸ hb'))]; exact hab
        · simp at hb'; subst hb'
          obtain ⟨m, hm1, hm2⟩ := hb a (by simp [ha])
          rw [p14 a (fun z => noA (z ▸ ha)), p14o, hm2, pz_lt (by omega) (by omega)]; exact hm1
    have sB1 : SL (μ1 13) (μ1 14) N (nI x) B := by
      refine ⟨fun i => ?_, ?_⟩
      · by_cases z : i = o
        · subst z
          rw [p13o]
          constructor
          · intro z; exact absurd z noB
          · rintro ⟨_, z⟩
            rw [pz_eq (by omega) (by omega)] at z; exact absurd z hwx
        · rw [p13 i z, ← sB.1 i]; simp [z]
      · refine List.Pairwise.imp_of_mem ?_ (List.pairwise_cons.mp sB.2).2
        intro a b ha hb' hab
        rw [p14 a (fun z => noB (z ▸ ha)), p14 b (fun z => noB (z ▸ hb'))]; exact hab
    obtain ⟨μ', a1, a2, a3, a4, a5, a6, a7, a8⟩ := ih (A ++ [o]) (k + 1) n μ1 (c + 1) h8 sA1 sB1 (fun i hi => by
      by_cases z : i = o
      · subst z; exact ⟨c, by omega, p14o⟩
      · obtain ⟨m, hm1, hm2⟩ := hb i (by simp at hi; simp; rcases hi with q | q | q <;> simp_all)
        exact ⟨m, by omega, by rw [p14 i z]; exact hm2⟩) rfl (by omega) (by simp; omega) (by omega) (by omega)
    rw [show k + 1 + B.length = k + (B.length + 1) by omega] at a1
    refine ⟨μ', a1, by simpa using a2, ?_, ?_, ?_, ?_, ?_, ?_⟩
    · intro i hi
      obtain ⟨m, hm1, hm2⟩ := a3 i (by simpa using hi)
      exact ⟨m, by omega, hm2⟩
    · rw [a4]; congr 1; omega
    · intro k hk
      rw [a5 k hk]
      exact up2_ak hk
    · intro p q1 q2 q3
      rw [a6 p q1 q2 q3]
      show up2 (up2 (up2 μ 13 o (nI w)) 14 o (nI c)) 8 11 (nI (c + 1)) p = _
      rw [up2_ne q1, up2_ne q3, up2_ne q2]
    · intro i hi
      by_cases z : i ∈ B
      · exact a7 i z
      · rcases List.mem_cons.mp hi with q | q
        · subst q; rw [(a8 i z).1, p13o]
        · exact absurd q z
    · intro i hi
      have z1 : i ≠ o := fun z => hi (by simp [z])
      have z2 : i ∉ B := fun z => hi (by simp [z])
      exact ⟨(a8 i z2).1.trans (p13 i z1), (a8 i z2).2.trans (p14 i z1)⟩
