/-! plan: before and behind -/
theorem m2_c {N : Nat} (hN2 : N ≤ 16) : ∀ d k n τ, τ 0 4 = nI N → k + d = N → d < n → (∀ i, i < k → τ (26 + 2 * i) 8 = 0) → ∃ τ', f_X3_makeWaves_2 n τ (nI k) = f_X3_makeWaves_28 40 τ' 0 ∧ (∀ i, i < N → τ' (26 + 2 * i) 8 = 0) ∧ ∀ p q, (∀ i, i < N → p ≠ 26 + 2 * i) ∨ q ≠ 8 → τ' p q = τ p q := by
  intro d
  induction d with
  | zero =>
    intro k n τ h4 hk hn hi
    obtain ⟨n, rfl⟩ : ∃ m, n = m + 1 := ⟨n - 1, by omega⟩
    simp only [f_X3_makeWaves_2]
    rw [if_pos (show τ 0 4 ≤ nI k by rw [h4, pz_le (by omega) (by omega)]; omega)]
    exact ⟨τ, rfl, fun i hi' => hi i (by omega), fun _ _ _ => rfl⟩
  | succ d ih =>
    intro k n τ h4 hk hn hi
    obtain ⟨n, rfl⟩ : ∃ m, n = m + 1 := ⟨n - 1, by omega⟩
    simp only [f_X3_makeWaves_2]
    rw [if_neg (show ¬ τ 0 4 ≤ nI k by rw [h4, pz_le (by omega) (by omega)]; omega), if_neg (pz_in (by omega) (by omega)), pz_N (by omega), pz_s]
    obtain ⟨τ', a1, a2, a3⟩ := ih (k + 1) n (up2 τ (26 + 2 * k) 8 0) (by rw [up2_ap (by omega)]; exact h4) (by omega) (by omega) (fun i hi' => by
      by_cases z : i = k
      · subst z; exact up2_at
      · rw [up2_ap (by omega)]; exact hi i (by omega))
    refine ⟨τ', a1, a2, fun p q h => ?_⟩
    rw [a3 p q h]
    rcases h with h | h
    · exact up2_ap (h k (by omega))
    · exact up2_ak h
theorem p15_m {N : Nat} (hN2 : N ≤ 16) (had x1 x3 : Int32) : ∀ d k n μ, μ 8 2 = nI N → k + d = N → d < n → (∀ i, i < k → μ 22 i = 0 ∧ μ 24 i = 0) → ∃ μ', f_X4_plan_15 had n μ x1 x3 (nI k) = ri (f_X4_begin μ') (fun x2_ => f_X4_plan_52 had 40 μ' x1 x3 x2_) ∧ (∀ i, i < N → μ' 22 i = 0 ∧ μ' 24 i = 0) ∧ ∀ p, p ≠ 22 → p ≠ 24 → μ' p = μ p := by
  intro d
  induction d with
  | zero =>
    intro k n μ h4 hk hn hi
    obtain ⟨n, rfl⟩ : ∃ m, n = m + 1 := ⟨n - 1, by omega⟩
    simp only [f_X4_plan_15]
    rw [if_pos (show μ 8 2 ≤ nI k by rw [h4, pz_le (by omega) (by omega)]; omega)]
    exact ⟨μ, rfl, fun i hi' => hi i (by omega), fun _ _ _ => rfl⟩
  | succ d ih =>
    intro k n μ h4 hk hn hi
    obtain ⟨n, rfl⟩ : ∃ m, n = m + 1 := ⟨n - 1, by omega⟩
    simp only [f_X4_plan_15]
    rw [if_neg (show ¬ μ 8 2 ≤ nI k by rw [h4, pz_le (by omega) (by omega)]; omega), if_neg (pz_in (by omega) (by omega)), pz_N (by omega), pz_s]
    obtain ⟨μ', a1, a2, a3⟩ := ih (k + 1) n (up2 (up2 μ 22 k 0) 24 k 0) h4 (by omega) (by omega) (fun i hi' => by
      by_cases z : i = k
      · subst z; exact ⟨by rw [up2_ap (by decide), up2_at], up2_at⟩
      · obtain ⟨z1, z2⟩ := hi i (by omega)
        exact ⟨by rw [up2_ap (by decide), up2_ak z]; exact z1, by rw [up2_ak z, up2_ap (by decide)]; exact z2⟩)
    exact ⟨μ', a1, a2, fun p h1 h2 => (a3 p h1 h2).trans ((up2_ne h2).trans (up2_ne h1))⟩
theorem p144_m {N : Nat} (hN2 : N ≤ 16) (x1 x3 : Int32) : ∀ d k n μ, μ 8 2 = nI N → k + d = N → d < n → ∃ μ', f_X4_plan_144 x1 x3 n μ (nI k) = some (iv x3, μ') ∧ (∀ i, k ≤ i → i < N → μ 22 i ≠ 0 → μ' 13 i = μ 22 i ∧ μ' 14 i = μ 23 i) ∧ (∀ i, i < k ∨ N ≤ i ∨ μ 22 i = 0 → μ' 13 i = μ 13 i ∧ μ' 14 i = μ 14 i) ∧ μ' 8 16 = x1 ∧ (∀ q, q ≠ 16 → μ' 8 q = μ 8 q) ∧ ∀ p, p ≠ 8 → p ≠ 13 → p ≠ 14 → μ' p = μ p := by
  intro d
  induction d with
  | zero =>
    intro k n μ h4 hk hn
    obtain ⟨n, rfl⟩ : ∃ m, n = m + 1 := ⟨n - 1, by omega⟩
    simp only [f_X4_plan_144]
    rw [if_pos (show μ 8 2 ≤ nI k by rw [h4, pz_le (by omega) (by omega)]; omega)]
    exact ⟨_, rfl, fun i h1 h2 => absurd h2 (by omega), fun i _ => ⟨rfl, rfl⟩, rfl, fun q hq => up2_ak hq, fun p h1 _ _ => up2_ne h1⟩
  | succ d ih =>
    intro k n μ h4 hk hn
    obtain ⟨n, rfl⟩ : ∃ m, n = m + 1 := ⟨n - 1, by omega⟩
    simp only [f_X4_plan_144]
    rw [if_neg (show ¬ μ 8 2 ≤ nI k by rw [h4, pz_le (by omega) (by omega)]; omega), if_neg (pz_in (by omega) (by omega)), pz_N (by omega), pz_s]
    by_cases q : μ 22 k = 0
    · rw [if_pos q]
      obtain ⟨μ', a1, a2, a3, a4, a5, a6⟩ := ih (k + 1) n μ h4 (by omega) (by omega)
      refine ⟨μ', a1, fun i h1 h2 h3 => ?_, fun i h => ?_, a4, a5, a6⟩
      · by_cases z : i = k
        · subst z; exact absurd q h3
        · exact a2 i (by omega) h2 h3
      · by_cases z : i = k
        · subst z; exact a3 i (Or.inl (by omega))
        · exact a3 i (by rcases h with h | h | h; exact Or.inl (by omega); exact Or.inr (Or.inl h); exact Or.inr (Or.inr h))
    · rw [if_neg q, up2_ap (show (23 : Nat) ≠ 13 by decide)]
      obtain ⟨μ', a1, a2, a3, a4, a5, a6⟩ := ih (k + 1) n (up2 (up2 μ 13 k (μ 22 k)) 14 k (μ 23 k)) h4 (by omega) (by omega)
      refine ⟨μ', a1, fun i h1 h2 h3 => ?_, fun i h => ?_, a4, a5, fun p h1 h2 h3 => (a6 p h1 h2 h3).trans ((up2_ne h3).trans (up2_ne h2))⟩
      · by_cases z : i = k
        · subst z
          obtain ⟨z1, z2⟩ := a3 i (Or.inl (by omega))
          exact ⟨z1.trans ((up2_ap (by decide)).trans up2_at), z2.trans up2_at⟩
        · exact a2 i (by omega) h2 h3
      · have z : i ≠ k := fun z => by
          subst z
          rcases h with h | h | h
          · omega
          · omega
          · exact q h
        obtain ⟨z1, z2⟩ := a3 i (by rcases h with h | h | h; exact Or.inl (by omega); exact Or.inr (Or.inl h); exact Or.inr (Or.inr h))
        exact ⟨z1.trans ((up2_ap (by decide)).trans (up2_ak z)), z2.trans ((up2_ak z).trans (up2_ap (by decide)))⟩
theorem sb_c {τ : St} {N M K : Nat} {L : Nat → List Nat} (w : WF τ N M K L) : ∀ d k n s, k + d = M → d < n → f_X3_savedBehind_4 τ n s (nI k) = some (iv (sbs τ L k d s)) := by
  have hM := w.2.1.2
  intro d
  induction d with
  | zero =>
    intro k n s hk hn
    obtain ⟨n, rfl⟩ : ∃ m, n = m + 1 := ⟨n - 1, by omega⟩
    simp only [f_X3_savedBehind_4]
    rw [if_pos (show τ 0 6 ≤ nI k by rw [w.2.1.1, pz_le (by omega) (by omega)]; omega)]; rfl
  | succ d ih =>
    intro k n s hk hn
    obtain ⟨n, rfl⟩ : ∃ m, n = m + 1 := ⟨n - 1, by omega⟩
    simp only [f_X3_savedBehind_4]
    rw [if_neg (show ¬ τ 0 6 ≤ nI k by rw [w.2.1.1, pz_le (by omega) (by omega)]; omega), if_neg (pz_in (by omega) (by omega)), pz_N (by omega), so_c w.z (w.w (j := k) (by omega)).1, ri_s, pz_s, ih (k + 1) n _ (by omega) (by omega)]
    unfold sbs
    rw [List.range'_succ, List.foldl_cons]
theorem u2_c {N : Nat} (hN2 : N ≤ 16) (x1 : Int32) : ∀ d k n τ, τ 0 4 = nI N → k + d = N → d < n → ∃ τ', f_X3_undoWavesBehind_2 x1 n τ (nI k) = f_X3_undoWavesBehind_41 x1 40 τ' x1 ∧ (∀ i, k ≤ i → i < N → τ' (26 + 2 * i) 6 = if τ (26 + 2 * i) 6 ≤ x1 then τ (26 + 2 * i) 6 else 0) ∧ ∀ p q, (∀ i, k ≤ i → i < N → p ≠ 26 + 2 * i) ∨ q ≠ 6 → τ' p q = τ p q := by
  intro d
  induction d with
  | zero =>
    intro k n τ h4 hk hn
    obtain ⟨n, rfl⟩ : ∃ m, n = m + 1 := ⟨n - 1, by omega⟩
    simp only [f_X3_undoWavesBehind_2]
    rw [if_pos (show τ 0 4 ≤ nI k by rw [h4, pz_le (by omega) (by omega)]; omega)]
    exact ⟨τ, rfl, fun i h1 h2 => absurd h2 (by omega), fun _ _ _ => rfl⟩
  | succ d ih =>
    intro k n τ h4 hk hn
    obtain ⟨n, rfl⟩ : ∃ m, n = m + 1 := ⟨n - 1, by omega⟩
    simp only [f_X3_undoWavesBehind_2]
    rw [if_neg (show ¬ τ 0 4 ≤ nI k by rw [h4, pz_le (by omega) (by omega)]; omega), if_neg (pz_in (by omega) (by omega)), pz_N (by omega), pz_s]
    by_cases z : τ (26 + 2 * k) 6 ≤ x1
    · rw [if_pos z]
      obtain ⟨τ', a1, a2, a3⟩ := ih (k + 1) n τ h4 (by omega) (by omega)
      refine ⟨τ', a1, fun i h1 h2 => ?_, fun p q h => a3 p q (h.imp_left fun h i h1 h2 => h i (by omega) h2)⟩
      by_cases y : i = k
      · subst y
        rw [a3 _ _ (Or.inl fun i' h1' h2' e => by omega), if_pos z]
      · exact a2 i (by omega) h2
    · rw [if_neg z]
      obtain ⟨τ', a1, a2, a3⟩ := ih (k + 1) n (up2 τ (26 + 2 * k) 6 0) (by rw [up2_ap (by omega)]; exact h4) (by omega) (by omega)
      refine ⟨τ', a1, fun i h1 h2 => ?_, fun p q h => ?_⟩
      · by_cases y : i = k
        · subst y
          rw [a3 _ _ (Or.inl fun i' h1' h2' e => by omega), up2_at, if_neg z]
        · rw [a2 i (by omega) h2, up2_ap (by omega)]
      · rw [a3 p q (h.imp_left fun h i h1 h2 => h i (by omega) h2)]
        rcases h with h | h
        · exact up2_ap (h k (by omega) (by omega))
        · exact up2_ak h
theorem u41_c {M : Nat} (hM2 : M ≤ 16) (x1 : Int32) : ∀ d k n τ, τ 0 6 = nI M → k + d = M → d < n → ∃ τ', f_X3_undoWavesBehind_41 x1 n τ (nI k) = some (.inl none, τ') ∧ τ' 0 6 = x1 ∧ (∀ q, q ≠ 6 → τ' 0 q = τ 0 q) ∧ (∀ j, k ≤ j → j < M → Rp τ' (58 + 2 * j) []) ∧ (∀ j q, q ≠ 1 → τ' (58 + 2 * j) q = τ (58 + 2 * j) q) ∧ ∀ p, p ≠ 0 → (∀ j, k ≤ j → j < M → p ≠ 58 + 2 * j) → τ' p = τ p := by
  intro d
  induction d with
  | zero =>
    intro k n τ h4 hk hn
    obtain ⟨n, rfl⟩ : ∃ m, n = m + 1 := ⟨n - 1, by omega⟩
    simp only [f_X3_undoWavesBehind_41]
    rw [if_pos (show τ 0 6 ≤ nI k by rw [h4, pz_le (by omega) (by omega)]; omega)]
    exact ⟨_, rfl, up2_at, fun q hq => up2_ak hq, fun j h1 h2 => absurd h2 (by omega), fun j q hq => up2_ap (by omega), fun p hp _ => up2_ne hp⟩
  | succ d ih =>
    intro k n τ h4 hk hn
    obtain ⟨n, rfl⟩ : ∃ m, n = m + 1 := ⟨n - 1, by omega⟩
    obtain ⟨τ1, b1, b2, b3, b4⟩ := em_c (τ := τ) (q := 58 + 2 * k)
    simp only [f_X3_undoWavesBehind_41]
    rw [if_neg (show ¬ τ 0 6 ≤ nI k by rw [h4, pz_le (by omega) (by omega)]; omega), if_neg (pz_in (by omega) (by omega)), pz_N (by omega), pz_s, b1, nv_s]
    obtain ⟨τ', a1, a2, a3, a4, a5, a6⟩ := ih (k + 1) n τ1 (by rw [b3 0 (by omega)]; exact h4) (by omega) (by omega)
    refine ⟨τ', a1, a2, fun q hq => (a3 q hq).trans (by rw [b3 0 (by omega)]), fun j h1 h2 => ?_, fun j q hq => ?_, fun p hp h => (a6 p hp fun j h1 h2 => h j (by omega) h2).trans (b3 p (h k (by omega) (by omega)))⟩
    · by_cases y : j = k
      · subst y
        exact b2.f (a6 _ (by omega) fun j' h1' h2' e => by omega) (a6 _ (by omega) fun j' h1' h2' e => by omega)
      · exact a4 j (by omega) h2
    · rw [a5 j q hq]
      by_cases y : j = k
      · subst y; exact b4 q hq
      · rw [b3 _ (by omega)]
theorem PSplan : PS_plan Inv := by
  intro n hn σ hI
  obtain ⟨N, M, K, L, w, r, c⟩ := id hI
  have hN := w.1.2
  have hM := w.2.1.2
  obtain ⟨cp, hcp, hcap⟩ := w.2.2.2.1
  obtain ⟨co, ⟨hco1, hco2⟩, hco3⟩ := c
  -- the class, looked at nothing
  obtain ⟨τ0, a1, a2, a3⟩ := m2_c hN N 0 40 σ w.1.1 (by omega) (by omega) (fun i hi => absurd hi (by omega))
  have a1 : f_X3_makeWaves σ = f_X3_makeWaves_28 40 τ0 0 := a1
  have tp : ∀ p, (∀ i, i < N → p ≠ 26 + 2 * i) → τ0 p = σ p := fun p hp => funext fun q => a3 p q (Or.inl hp)
  have tk : ∀ p q, q ≠ 8 → τ0 p q = σ p q := fun p q hq => a3 p q (Or.inr hq)
  have em0 : eM σ τ0 := fun p _ h => tp p fun i hi => by omega
  have w0 : WF τ0 N M K L := by
    obtain ⟨w1, w2, w3, w4, w5, w6, w7⟩ := id w
    refine ⟨by rw [tk 0 4 (by decide)]; exact w1, by rw [tk 0 6 (by decide)]; exact w2, by rw [tk 1 3 (by decide)]; exact w3, by rw [tk 0 0 (by decide)]; exact w4, fun i hi => ?_, by rw [tp 5 (fun i _ => by omega)]; exact w6, fun k hk => ?_⟩
    · unfold OW
      rw [tk _ 1 (by decide), tk _ 2 (by decide), tk _ 4 (by decide), tk _ 6 (by decide), tp (26 + 2 * i + 1) (fun i _ => by omega)]; exact w5 i hi
    · obtain ⟨v1, v2, v3, v4⟩ := w7 k hk
      exact ⟨v1.f (tp _ (fun i _ => by omega)) (tp _ (fun i _ => by omega)), v2, fun i => by rw [tk _ 6 (by decide)]; exact v3 i, fun i hi => by rw [tk _ 3 (by decide), tk _ 2 (by decide)]; exact v4 i hi⟩
  have se0 : SE τ0 σ := fun i hi => ⟨tk _ 1 (by decide), tk _ 2 (by decide), tp _ (fun i _ => by omega)⟩
  -- the reference, nothing planned, behind any state of the class
  have ref : ∀ τ : St, eM σ τ → ∃ μ, f_X4_plan τ = ri (f_X4_begin μ) (fun x2_ => f_X4_plan_52 (σ 8 11) 40 μ (nI M) 0 x2_) ∧ PR μ τ0 N M M K (co + 16) L co ∧ (∀ p, p ≠ 22 → p ≠ 24 → μ p = τ p) := by
    intro τ et
    have rt : RQ τ σ := r.l et
    obtain ⟨μ, b1, b2, b3⟩ := p15_m hN (τ 8 11) (τ 8 16) 0 N 0 40 τ (rt.n w) (by omega) (by omega) (fun i hi => absurd hi (by omega))
    have b1 : f_X4_plan τ = ri (f_X4_begin μ) (fun x2_ => f_X4_plan_52 (τ 8 11) 40 μ (τ 8 16) 0 x2_) := b1
    have u13 : μ 13 = σ 13 := (b3 13 (by decide) (by decide)).trans (et 13 (by decide) (by decide))
    have u14 : μ 14 = σ 14 := (b3 14 (by decide) (by decide)).trans (et 14 (by decide) (by decide))
    have u8 : μ 8 = σ 8 := (b3 8 (by decide) (by decide)).trans (et 8 (by decide) (by decide))
    refine ⟨μ, ?_, ⟨w0, ?_, Nat.le_refl _, fun i hi => Or.inl ⟨(b2 i hi).1, ?_, ?_⟩, fun i hi => ?_, ⟨?_, ?_⟩, fun j hj => ?_, fun j h1 h2 => absurd h2 (by omega)⟩, b3⟩
    · rw [b1, rt.m w, et 8 (by decide) (by decide)]
    · obtain ⟨ra, rb, rd, re⟩ := rt.1
      refine ⟨by rw [b3 8 (by decide) (by decide), tk 0 0 (by decide), tk 0 4 (by decide), tk 1 3 (by decide)]; exact ra, fun i hi => ?_, fun k hk => ?_, fun k hk => ?_⟩
      · rw [b3 9 (by decide) (by decide), b3 10 (by decide) (by decide), b3 11 (by decide) (by decide), b3 12 (by decide) (by decide), b3 15 (by decide) (by decide), b3 16 (by decide) (by decide), tk _ 0 (by decide), tk _ 1 (by decide), tk _ 2 (by decide), tk _ 3 (by decide), tk _ 7 (by decide), tp (26 + 2 * i + 1) (fun i _ => by omega)]; exact rb i hi
      · rw [b3 17 (by decide) (by decide), b3 18 (by decide) (by decide), b3 19 (by decide) (by decide), b3 21 (by decide) (by decide), tp 2 (fun i _ => by omega), tp 3 (fun i _ => by omega), tp 4 (fun i _ => by omega), tp 5 (fun i _ => by omega)]; exact rd k hk
      · rw [b3 20 (by decide) (by decide), tk _ 3 (by decide)]; exact re k hk
    · rw [u13, tk _ 6 (by decide)]; exact r.2.2 i (by omega)
    · rw [tk _ 6 (by decide)]; exact (w.o (i := i) (by omega)).2.2.2.2.1
    · rw [a2 i hi, (b2 i hi).2]
    · rw [u8]; exact hco1
    · have := cnt_le (opn μ) N; omega
    · rw [u14]; exact hco3 j (by omega)
  have hC : co + 16 < 1073741824 := by omega
  have h00 : τ0 0 0 = nI cp := by rw [tk 0 0 (by decide)]; exact hcap
  have joint : ∀ μ, PR μ τ0 N M M K (co + 16) L co → ∃ x, f_X4_begin μ = some (iv x) ∧ _ := fun μ P => by
    obtain ⟨x, e1, _⟩ := be_tt P.n hN P.2.1 P.1.k
    exact ⟨x, e1, oj hC hcp (σ 8 11) N μ τ0 L co M 0 x 0 40 40 P h00 se0 e1 (by rw [Nat.sub_self]; rfl) (cnt_le _ _) (by omega) (by omega) (by omega)⟩
  obtain ⟨μ0, _, P0, Q0⟩ := ref σ eM.rf
  obtain ⟨x0, _, j0⟩ := joint μ0 P0
  rcases j0 with ⟨τ1, _, L1, _, M1, s1, z1, _, zP, zs, zS, _, zm⟩ | ⟨τ1, μ1, _, L1, c1, M1, _, _, z1, _, zP, zF, _, zm⟩
  · -- there was room
    have em1 : eM σ τ1 := em0.tr zm
    obtain ⟨μ, b1, P, bQ⟩ := ref τ1 em1
    have bC : eC τ1 μ := fun p hp => bQ p (by omega) (by omega)
    have b13 : μ 13 = σ 13 := (bQ 13 (by decide) (by decide)).trans (em1 13 (by decide) (by decide))
    obtain ⟨x, e1, j1⟩ := joint μ P
    rcases j1 with ⟨τ1', μ', L', c', M', s', y1, y2, yP, ys, yS, yF, ym⟩ | ⟨τ1', μ1, μ', L', c', M1', M', s', y1, _⟩
    · have : τ1' = τ1 := by
        have := y1.symm.trans z1
        simpa [iv] using this
      subst this
      have hM' := yP.1.2.1.2
      have hMM := yP.2.2.1
      have y1' : f_X3_makeWaves σ = some (iv 1, τ1') := a1.trans y1
      have hsb := sb_c yP.1 (M' - M) M 40 0 (by omega) (by omega)
      have hsb' : f_X3_savedBehind τ1' (nI M) = some (iv s') := by
        refine hsb.trans ?_
        rw [yS]
        unfold sbs
        rw [fold_ext (g := fun s j => s + so σ [] (L' j) 0) (List.range' M (M' - M)) 0 (fun j hj m => by
          rw [List.mem_range'_1] at hj
          rw [ys.so (L' j) [] 0 (yP.1.w (j := j) (by omega)).1.2.2.2 (fun x hx => by simp at hx)])]
      obtain ⟨μ2, d1, d2, d3, d4, d5, d6⟩ := p144_m hN (nI M') s' N 0 40 (up2 μ' 8 0 0) yP.n (by omega) (by omega)
      have d1 : f_X4_plan_144 (nI M') s' 40 (up2 μ' 8 0 0) 0 = some (iv s', μ2) := d1
      refine ⟨iv s', τ1', 0, s', μ2, ?_, ?_, AgI.s, ?_, Inv.mk' yP.1 ?_ ⟨?_, ?_, fun i hi => ?_⟩ ?_⟩
      · rw [f_X3_plan, y1', ni_s, if_neg (by decide), w.2.1.1, hsb', ri_s]
      · rw [b1, e1, ri_s, y2, f_X4_plan_124, c8, if_pos (by decide), d1]
      · rw [d5 0 (by decide)]; rfl
      · refine bC.tr fun p hp => ?_
        rw [d6 p (by omega) (by omega) (by omega), up2_ne (by omega)]
        exact yF.1 p (by omega) (by omega) (by omega) (by omega)
      · obtain ⟨ra, rb, rd, re⟩ := yP.2.1
        refine ⟨⟨(d5 1 (by decide)).trans ra.1, (d5 2 (by decide)).trans ra.2.1, (d5 12 (by decide)).trans ra.2.2⟩, ?_, ?_, ?_⟩
        · rw [d6 9 (by decide) (by decide) (by decide), d6 10 (by decide) (by decide) (by decide), d6 11 (by decide) (by decide) (by decide), d6 12 (by decide) (by decide) (by decide), d6 15 (by decide) (by decide) (by decide), d6 16 (by decide) (by decide) (by decide)]; exact rb
        · rw [d6 17 (by decide) (by decide) (by decide), d6 18 (by decide) (by decide) (by decide), d6 19 (by decide) (by decide) (by decide), d6 21 (by decide) (by decide) (by decide)]; exact rd
        · rw [d6 20 (by decide) (by decide) (by decide)]; exact re
      · rw [d4]; exact yP.1.2.1.1.symm
      · rcases Nat.lt_or_ge i N with z | z
        · rcases yP.2.2.2.1 i z with ⟨q1, q2, q3⟩ | ⟨q1, p, q2, q3, q4, q5⟩
          · rw [(d3 i (Or.inr (Or.inr q1))).1]; exact q2
          · have : up2 μ' 8 0 0 22 i ≠ 0 := fun z => absurd ((pz_eq (a := p) (b := 0) (by omega) (by omega)).mp (q4.symm.trans z)) (by omega)
            rw [(d2 i (by omega) z this).1]
            exact q4.trans q5.symm
        · rw [(d3 i (Or.inr (Or.inl z))).1, (yP.1.o hi).2.2.2.2.2 z]
          show μ' 13 i = 0
          rw [yF.1 13 (by decide) (by decide) (by decide) (by decide), b13, r.2.2 i hi]
          exact (w.o hi).2.2.2.2.2 z
      · refine ⟨c', ⟨(d5 11 (by decide)).trans yP.2.2.2.2.2.1.1, by have := yP.2.2.2.2.2.1.2; omega⟩, fun j hj => ?_⟩
        have V := yP.1.w hj
        rcases Nat.lt_or_ge j M with z | z
        · -- an old wave
          obtain ⟨o1, o2⟩ := yP.2.2.2.2.2.2.1 j z
          have e14 : ∀ i, i ∈ L' j → μ2 14 i = μ' 14 i := fun i hi => by
            have hi2 := (V.2.2.1 i).mp hi
            rcases yP.2.2.2.1 i hi2.1 with ⟨q1, _⟩ | ⟨_, p, q2, q3, q4, q5⟩
            · exact (d3 i (Or.inr (Or.inr q1))).2
            · exact absurd ((pz_eq (a := p) (b := j + 1) (by omega) (by omega)).mp (q5.symm.trans hi2.2)) (by omega)
          refine ⟨List.Pairwise.imp_of_mem (fun {a b} ha hb hab => by rw [e14 a ha, e14 b hb]; exact hab) o1, fun i hi => ?_⟩
          obtain ⟨m, q1, q2⟩ := o2 i hi
          exact ⟨m, q1, by rw [e14 i hi]; exact q2⟩
        · rcases Nat.lt_or_ge j M' with z2 | z2
          · obtain ⟨o1, o2⟩ := yP.2.2.2.2.2.2.2 j z z2
            have e14 : ∀ i, i ∈ L' j → μ2 14 i = μ' 23 i := fun i hi => by
              have hi2 := (V.2.2.1 i).mp hi
              rcases yP.2.2.2.1 i hi2.1 with ⟨q1, q2, q3⟩ | ⟨_, p, q2, q3, q4, q5⟩
              · rcases q3 with q | ⟨p, q, q'⟩
                · exact absurd (hi2.2.symm.trans q) (pz_m1 (by omega))
                · exact absurd ((pz_eq (a := p) (b := j + 1) (by omega) (by omega)).mp (q'.symm.trans hi2.2)) (by omega)
              · have : up2 μ' 8 0 0 22 i ≠ 0 := fun z => absurd ((pz_eq (a := p) (b := 0) (by omega) (by omega)).mp (q4.symm.trans z)) (by omega)
                exact (d2 i (by omega) hi2.1 this).2
            refine ⟨List.Pairwise.imp_of_mem (fun {a b} ha hb hab => by rw [e14 a ha, e14 b hb]; exact hab) o1, fun i hi => ?_⟩
            obtain ⟨m, q1, q2⟩ := o2 i hi
            exact ⟨m, q1, by rw [e14 i hi]; exact q2⟩
          · rw [yP.nil z2 hj]; exact ⟨List.Pairwise.nil, fun i hi => by simp at hi⟩
    · have := y1.symm.trans z1
      simp [iv] at this
  · -- there was none
    have hM1 := zP.1.2.1.2
    have hMM := zP.2.2.1
    obtain ⟨τ2, u1, u2, u3⟩ := u2_c hN (nI M) N 0 40 τ1 zP.1.1.1 (by omega) (by omega)
    have up : ∀ p, (∀ i, i < N → p ≠ 26 + 2 * i) → τ2 p = τ1 p := fun p hp => funext fun q => u3 p q (Or.inl fun i _ hi => hp i hi)
    have uk : ∀ p q, q ≠ 6 → τ2 p q = τ1 p q := fun p q hq => u3 p q (Or.inr hq)
    obtain ⟨τ3, v1, v2, v3, v4, v5, v6⟩ := u41_c hM1 (nI M) (M1 - M) M 40 τ2 (by rw [up 0 (fun i _ => by omega)]; exact zP.1.2.1.1) (by omega) (by omega)
    have cls : f_X3_plan σ = some (eU, τ3) := by
      have z1' : f_X3_makeWaves σ = some (iv 0, τ1) := a1.trans z1
      have hu : f_X3_undoWavesBehind τ1 (nI M) = some (.inl none, τ3) := u1.trans v1
      rw [f_X3_plan, z1', ni_s, if_pos rfl, w.2.1.1, hu, nv_s]
    have pl : ∀ i, i < N → τ3 (26 + 2 * i) 6 = σ (26 + 2 * i) 6 := fun i hi => by
      rw [v6 _ (by omega) (fun j _ _ => by omega), u2 i (by omega) hi]
      have hz : μ1 13 i = σ 13 i := by
        rw [zF.1 13 (by decide) (by decide) (by decide) (by decide), Q0 13 (by decide) (by decide)]
      rw [← r.2.2 i (by omega), ← hz]
      rcases zP.2.2.2.1 i hi with ⟨q1, q2, q3⟩ | ⟨q1, p, q2, q3, q4, q5⟩
      · have : τ1 (26 + 2 * i) 6 ≤ nI M := by
          rcases q3 with q | ⟨p, q, q'⟩
          · rw [q, Int32.le_iff_toInt_le, nI_toInt (by omega)]
            show (-1 : Int) ≤ _
            omega
          · rw [q']; exact (pz_le (by omega) (by omega)).mpr q
        rw [if_pos this]; exact q2.symm
      · have : ¬ τ1 (26 + 2 * i) 6 ≤ nI M := by
          rw [q5, pz_le (by omega) (by omega)]; omega
        rw [if_neg this]; exact q1.symm
    have em3 : eM σ τ3 := fun p h1 h2 => by
      rw [v6 p (by omega) (fun j _ _ => by omega), up p (fun i _ => by omega)]
      exact (em0.tr zm) p h1 h2
    have ok : ∀ i q, i < 16 → q ≠ 6 → τ3 (26 + 2 * i) q = τ1 (26 + 2 * i) q := fun i q hi hq => by
      rw [v6 _ (by omega) (fun j _ _ => by omega), uk _ _ hq]
    have ow : ∀ i, i < 16 → τ3 (26 + 2 * i + 1) = τ1 (26 + 2 * i + 1) := fun i hi => by
      rw [v6 _ (by omega) (fun j _ _ => by omega), up _ (fun i _ => by omega)]
    have olo : ∀ p, p ≠ 0 → p < 26 → τ3 p = τ1 p := fun p h1 h2 => by
      rw [v6 _ h1 (fun j _ _ => by omega), up _ (fun i _ => by omega)]
    have o0 : ∀ q, q ≠ 6 → τ3 0 q = τ1 0 q := fun q hq => by
      rw [v3 q hq, up 0 (fun i _ => by omega)]
    have owv : ∀ j q, q ≠ 1 → τ3 (58 + 2 * j) q = τ1 (58 + 2 * j) q := fun j q hq => by
      rw [v5 j q hq]
      rcases Nat.lt_or_ge j 16 with z | z
      · rw [up _ (fun i _ => by omega)]
      · rw [up _ (fun i _ => by omega)]
    have pl16 : ∀ i, i < 16 → τ3 (26 + 2 * i) 6 = σ (26 + 2 * i) 6 := fun i hi => by
      rcases Nat.lt_or_ge i N with z | z
      · exact pl i z
      · rw [v6 _ (by omega) (fun j _ _ => by omega), u3 _ _ (Or.inl fun i' _ h2 e => by omega), (zP.1.o hi).2.2.2.2.2 z, (w.o hi).2.2.2.2.2 z]
    -- who is in an old wave
    have old : ∀ i j, i < N → j < M → (τ1 (26 + 2 * i) 6 = nI (j + 1) ↔ σ (26 + 2 * i) 6 = nI (j + 1)) := fun i j hi hj => by
      have hz : μ1 13 i = σ (26 + 2 * i) 6 := by
        rw [zF.1 13 (by decide) (by decide) (by decide) (by decide), Q0 13 (by decide) (by decide), r.2.2 i (by omega)]
      rcases zP.2.2.2.1 i hi with ⟨q1, q2, q3⟩ | ⟨q1, p, q2, q3, q4, q5⟩
      · rw [← q2, hz]
      · rw [q5, ← hz, q1]
        constructor
        · intro z; exact absurd ((pz_eq (a := p) (b := j + 1) (by omega) (by omega)).mp z) (by omega)
        · intro z; exact absurd ((pz_eq (a := 0) (b := j + 1) (by omega) (by omega)).mp z) (by omega)
    let L3 : Nat → List Nat := fun j => if j < M then L1 j else []
    have w3 : WF τ3 N M K L3 := by
      obtain ⟨w1, w2, w3, w4, w5, w6, w7⟩ := id zP.1
      refine ⟨by rw [o0 4 (by decide)]; exact w1, ⟨v2, hM⟩, by rw [olo 1 (by omega) (by omega)]; exact w3, by rw [o0 0 (by decide)]; exact w4, fun i hi => ?_, by rw [olo 5 (by omega) (by omega)]; exact w6, fun j hj => ?_⟩
      · obtain ⟨a, b', cc, d, e, f⟩ := w5 i hi
        unfold OW
        rw [ok i 1 hi (by decide), ok i 2 hi (by decide), ok i 4 hi (by decide), ow i hi, pl16 i hi]
        exact ⟨a, b', cc, d, (w.o hi).2.2.2.2⟩
      · obtain ⟨y1, y2, y3, y4⟩ := w7 j hj
        unfold VW
        rcases Nat.lt_or_ge j M with z | z
        · have eL : L3 j = L1 j := if_pos z
          rw [eL]
          refine ⟨y1.f ?_ ?_, y2, fun i => ?_, fun i hi => ?_⟩
          · rw [v6 _ (by omega) (fun j' h1 h2 => by omega), up _ (fun i _ => by omega)]
          · rw [v6 _ (by omega) (fun j' h1 h2 => by omega), up _ (fun i _ => by omega)]
          · rw [y3 i]
            refine and_congr_right fun hi => ?_
            rw [pl i hi]; exact old i j hi z
          · rw [ok i 3 (y1.2.2.2 i hi) (by decide), owv j 2 (by decide)]; exact y4 i hi
        · have eL : L3 j = [] := if_neg (by omega)
          rw [eL]
          refine ⟨?_, List.nodup_nil, fun i => ?_, fun i hi => by simp at hi⟩
          · rcases Nat.lt_or_ge j M1 with z2 | z2
            · exact v4 j z z2
            · rw [zP.nil z2 hj] at y1
              refine y1.f ?_ ?_
              · rw [v6 _ (by omega) (fun j' h1 h2 => by omega), up _ (fun i _ => by omega)]
              · rw [v6 _ (by omega) (fun j' h1 h2 => by omega), up _ (fun i _ => by omega)]
          · constructor
            · intro q; simp at q
            · rintro ⟨q1, q2⟩
              rw [pl i q1] at q2
              rcases (w.o (i := i) (by omega)).2.2.2.2.1 with q | ⟨p, q, q'⟩
              · exact absurd (q2.symm.trans q) (pz_m1 (by omega))
              · exact absurd ((pz_eq (a := p) (b := j + 1) (by omega) (by omega)).mp (q'.symm.trans q2)) (by omega)
    obtain ⟨μ, b1, P, bQ⟩ := ref τ3 em3
    obtain ⟨x, e1, j1⟩ := joint μ P
    rcases j1 with ⟨τ1', μ', L', c', M', s', y1, _⟩ | ⟨τ1', μ1', μ', L', c', M1', M', s', y1, y2, _, _, yF, _⟩
    · have := y1.symm.trans z1
      simp [iv] at this
    · have hp : ∀ p, 9 ≤ p → p < 22 → μ' p = σ p := fun p h1 h2 => by
        rw [yF.1 p (by omega) (by omega) (by omega) (by omega), bQ p (by omega) (by omega), em3 p (by omega) (by omega)]
      have h8 : ∀ q, q ≠ 11 → μ' 8 q = σ 8 q := fun q hq => by
        rw [yF.2 q hq, bQ 8 (by decide) (by decide), em3 8 (by decide) (by decide)]
      have hp1 : ∀ p, 9 ≤ p → p < 22 → μ1 p = σ p := fun p h1 h2 => by
        rw [zF.1 p (by omega) (by omega) (by omega) (by omega), Q0 p (by omega) (by omega)]
      have h81 : ∀ q, q ≠ 11 → μ1 8 q = σ 8 q := fun q hq => by
        rw [zF.2 q hq, Q0 8 (by decide) (by decide)]
      refine ⟨eU, τ3, 1, 0, up2 (up2 μ' 8 0 1) 8 11 (σ 8 11), cls, ?_, AgI.e (by decide) (by decide), rfl, Inv.mk' w3 ?_ ⟨?_, ?_, fun i hi => ?_⟩ ⟨co, ⟨?_, by omega⟩, fun j hj => ?_⟩⟩
      · rw [b1, e1, ri_s, y2, f_X4_plan_124, c8, if_neg (by decide)]
      · intro p hp
        rw [up2_ne (by omega), up2_ne (by omega), yF.1 p (by omega) (by omega) (by omega) (by omega), bQ p (by omega) (by omega)]
      · obtain ⟨ra, rb, rd, re⟩ := zP.2.1
        refine ⟨⟨?_, ?_, ?_⟩, fun i hi => ?_, fun k hk => ?_, fun k hk => ?_⟩
        · rw [up2_ak (by decide), up2_ak (by decide), h8 1 (by decide), o0 0 (by decide), ← h81 1 (by decide)]; exact ra.1
        · rw [up2_ak (by decide), up2_ak (by decide), h8 2 (by decide), o0 4 (by decide), ← h81 2 (by decide)]; exact ra.2.1
        · rw [up2_ak (by decide), up2_ak (by decide), h8 12 (by decide), olo 1 (by decide) (by decide), ← h81 12 (by decide)]; exact ra.2.2
        · rw [up2_ne (by decide), up2_ne (by decide), up2_ne (by decide), up2_ne (by decide), up2_ne (by decide), up2_ne (by decide), up2_ne (by decide), up2_ne (by decide), up2_ne (by decide), up2_ne (by decide), up2_ne (by decide), up2_ne (by decide), hp 9 (by decide) (by decide), hp 10 (by decide) (by decide), hp 11 (by decide) (by decide), hp 12 (by decide) (by decide), hp 15 (by decide) (by decide), hp 16 (by decide) (by decide), ok i 0 hi (by decide), ok i 1 hi (by decide), ok i 2 hi (by decide), ok i 3 hi (by decide), ok i 7 hi (by decide), ow i hi, ← hp1 9 (by decide) (by decide), ← hp1 10 (by decide) (by decide), ← hp1 11 (by decide) (by decide), ← hp1 12 (by decide) (by decide), ← hp1 15 (by decide) (by decide), ← hp1 16 (by decide) (by decide)]; exact rb i hi
        · have := rd k hk
          rw [hp1 17 (by decide) (by decide), hp1 18 (by decide) (by decide), hp1 19 (by decide) (by decide), hp1 21 (by decide) (by decide)] at this
          refine ⟨?_, ?_, ?_, ?_⟩
          · rw [up2_ne (by decide), up2_ne (by decide), hp 17 (by decide) (by decide), olo 2 (by decide) (by decide)]; exact this.1
          · rw [up2_ne (by decide), up2_ne (by decide), hp 18 (by decide) (by decide), olo 3 (by decide) (by decide)]; exact this.2.1
          · rw [up2_ne (by decide), up2_ne (by decide), hp 19 (by decide) (by decide), olo 4 (by decide) (by decide)]; exact this.2.2.1
          · rw [up2_ne (by decide), up2_ne (by decide), hp 21 (by decide) (by decide), olo 5 (by decide) (by decide)]; exact this.2.2.2
        · have := re k hk
          rw [hp1 20 (by decide) (by decide)] at this
          rw [up2_ne (by decide), up2_ne (by decide), hp 20 (by decide) (by decide), owv k 3 (by decide)]; exact this
      · rw [up2_ak (by decide), up2_ak (by decide), h8 16 (by decide), v2]; exact r.m w
      · rw [up2_ne (by decide), up2_ne (by decide), hp 13 (by decide) (by decide), pl16 i hi]; exact r.2.2 i hi
      · rw [up2_at]; exact hco1
      · rw [up2_ne (by decide), up2_ne (by decide), hp 14 (by decide) (by decide)]
        rcases Nat.lt_or_ge j M with z | z
        · have eL : L3 j = L1 j := if_pos z
          rw [eL]
          obtain ⟨o1, o2⟩ := zP.2.2.2.2.2.2.1 j z
          rw [hp1 14 (by decide) (by decide)] at o1
          refine ⟨o1, fun i hi => ?_⟩
          have hi2 := ((zP.1.w hj).2.2.1 i).mp hi
          exact (hco3 j hj).2 i (((w.w hj).2.2.1 i).mpr ⟨hi2.1, (old i j hi2.1 z).mp hi2.2⟩)
        · have eL : L3 j = [] := if_neg (by omega)
          rw [eL]; exact ⟨List.Pairwise.nil, fun i hi => by simp at hi⟩
