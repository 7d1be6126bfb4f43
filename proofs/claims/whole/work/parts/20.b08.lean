/-! dock hours -/
theorem ho_c {α : St} {K : Nat} (hK : α 1 3 = nI K) (hK2 : K ≤ 10) (c : Int32) : ∀ d k n s, k + d = K → d < n → ∃ v, f_X0_hoursOf_4 α c n s (nI k) = some (iv v) := by
  intro d
  induction d with
  | zero =>
    intro k n s hk hn
    obtain ⟨n, rfl⟩ : ∃ m, n = m + 1 := ⟨n - 1, by omega⟩
    simp only [f_X0_hoursOf_4]
    rw [if_pos (by rw [hK, pz_le (by omega) (by omega)]; omega)]
    exact ⟨_, rfl⟩
  | succ d ih =>
    intro k n s hk hn
    obtain ⟨n, rfl⟩ : ∃ m, n = m + 1 := ⟨n - 1, by omega⟩
    simp only [f_X0_hoursOf_4]
    rw [if_neg (by rw [hK, pz_le (by omega) (by omega)]; omega), if_neg (pz_in (by omega) (by omega)), pz_s]
    split
    · exact ih (k + 1) n _ (by omega) (by omega)
    · exact ih (k + 1) n _ (by omega) (by omega)
theorem ho_m {σ α : St} (h1 : σ 8 12 = α 1 3) (h2 : ∀ k, k < 10 → σ 17 k = α 2 k) (c : Int32) : ∀ n s x, f_X4_hour_105 σ c n s x = (f_X0_hoursOf_4 α c n s x).map (fun v => (v, σ)) := by
  intro n
  induction n with
  | zero => intro s x; rfl
  | succ n ih =>
    intro s x
    simp only [f_X4_hour_105, f_X0_hoursOf_4, h1, ih, show s + 0 = s by grind]
    by_cases hg : x < 0 ∨ 10 ≤ x.toNatClampNeg
    · simp only [hg, if_true]; split <;> rfl
    · simp only [h2 _ (pz_un hg).2]
      (repeat' split) <;> rfl
theorem PShour : PS_hour Inv := by
  intro n hn σ hI a1 a2 a3
  obtain ⟨N, M, K, L, w, r, c⟩ := id hI
  have hK := w.2.2.1
  by_cases h : (0 ≤ a1 ∧ a1 ≤ 3) ∧ (0 ≤ a2 ∧ a2 ≤ 100000) ∧ (a2 ≤ a3 ∧ a3 ≤ 100000)
  · obtain ⟨h1, h2, h3⟩ := h
    have h3' : 0 ≤ a3 ∧ a3 ≤ 100000 := by grind
    by_cases h4 : K < 10
    · let σ1 := up2 (up2 (up2 (up2 σ 2 K a1) 3 K a2) 4 K a3) 1 3 (nI (K + 1))
      have e1 : f_X0_open σ a1 a2 a3 = some (.inl none, σ1) := by
        simp only [f_X0_open]
        have q0 : up2 σ 2 (σ 1 3).toNatClampNeg a1 1 3 = nI K := hK.1
        rw [hK.1, pz_N (by omega)] at q0
        rw [hK.1, if_neg (show ¬ (10 : Int32) ≤ nI K from fun q => by rw [show (10 : Int32) = nI 10 from rfl, pz_le (by omega) (by omega)] at q; omega), if_neg (pz_in h4 (by omega)), pz_N (by omega), q0, pz_N (by omega)]
        have q1 : up2 (up2 σ 2 K a1) 3 K a2 1 3 = nI K := hK.1
        rw [q1, pz_N (by omega)]
        have q2 : up2 (up2 (up2 σ 2 K a1) 3 K a2) 4 K a3 1 3 = nI K := hK.1
        rw [q2, pz_s]
        have := pz_in h4 (by omega : 10 ≤ 1000)
        rw [pz_N (by omega)] at this
        rw [if_neg this, if_neg this]
      have hK1 : σ1 1 3 = nI (K + 1) := rfl
      obtain ⟨v, hv⟩ := ho_c hK1 (by omega) a1 (K + 1) 0 40 0 (by omega) (by omega)
      let σ2 := up2 (up2 (up2 (up2 (up2 σ1 8 0 0) 17 K a1) 18 K a2) 19 K a3) 8 12 (nI (K + 1))
      have hr1 : RQ σ2 σ1 := by
        show RQ (up2 (up2 (up2 (up2 (up2 (up2 (up2 (up2 (up2 σ 2 K a1) 3 K a2) 4 K a3) 1 3 (nI (K + 1))) 8 0 0) 17 K a1) 18 K a2) 19 K a3) 8 12 (nI (K + 1))) (up2 (up2 (up2 (up2 σ 2 K a1) 3 K a2) 4 K a3) 1 3 (nI (K + 1)))
        obtain ⟨⟨⟨ra1, ra2, ra3⟩, rb, rd, re⟩, rf, rg⟩ := id r
        refine ⟨⟨⟨?_, ?_, ?_⟩, fun i9 hi9 => ?_, fun k9 hk9 => ?_, fun j9 hj9 => ?_⟩, ?_, fun i9 hi9 => ?_⟩
        · first | assumption | (simp (disch := omega) only [up2_at, up2_ap, up2_ak]; done) | (simp (disch := omega) only [up2_at, up2_ap, up2_ak]; assumption)
        · first | assumption | (simp (disch := omega) only [up2_at, up2_ap, up2_ak]; done) | (simp (disch := omega) only [up2_at, up2_ap, up2_ak]; assumption)
        · first | assumption | (simp (disch := omega) only [up2_at, up2_ap, up2_ak]; done) | (simp (disch := omega) only [up2_at, up2_ap, up2_ak]; assumption)
        · obtain ⟨b1, b2, b3, b4, b5, b6⟩ := rb i9 hi9
          by_cases hio : i9 = K
          · subst hio
            refine ⟨?_, ?_, ?_, ?_, ?_, fun g' hg' => ?_⟩
            · first | assumption | (simp (disch := omega) only [up2_at, up2_ap, up2_ak]; done) | (simp (disch := omega) only [up2_at, up2_ap, up2_ak]; assumption)
            · first | assumption | (simp (disch := omega) only [up2_at, up2_ap, up2_ak]; done) | (simp (disch := omega) only [up2_at, up2_ap, up2_ak]; assumption)
            · first | assumption | (simp (disch := omega) only [up2_at, up2_ap, up2_ak]; done) | (simp (disch := omega) only [up2_at, up2_ap, up2_ak]; assumption)
            · first | assumption | (simp (disch := omega) only [up2_at, up2_ap, up2_ak]; done) | (simp (disch := omega) only [up2_at, up2_ap, up2_ak]; assumption)
            · first | assumption | (simp (disch := omega) only [up2_at, up2_ap, up2_ak]; done) | (simp (disch := omega) only [up2_at, up2_ap, up2_ak]; assumption)
            · have := b6 g' hg'
              first | assumption | (simp (disch := omega) only [up2_at, up2_ap, up2_ak]; done) | (simp (disch := omega) only [up2_at, up2_ap, up2_ak]; assumption)
          · refine ⟨?_, ?_, ?_, ?_, ?_, fun g' hg' => ?_⟩
            · first | assumption | (simp (disch := omega) only [up2_at, up2_ap, up2_ak]; done) | (simp (disch := omega) only [up2_at, up2_ap, up2_ak]; assumption)
            · first | assumption | (simp (disch := omega) only [up2_at, up2_ap, up2_ak]; done) | (simp (disch := omega) only [up2_at, up2_ap, up2_ak]; assumption)
            · first | assumption | (simp (disch := omega) only [up2_at, up2_ap, up2_ak]; done) | (simp (disch := omega) only [up2_at, up2_ap, up2_ak]; assumption)
            · first | assumption | (simp (disch := omega) only [up2_at, up2_ap, up2_ak]; done) | (simp (disch := omega) only [up2_at, up2_ap, up2_ak]; assumption)
            · first | assumption | (simp (disch := omega) only [up2_at, up2_ap, up2_ak]; done) | (simp (disch := omega) only [up2_at, up2_ap, up2_ak]; assumption)
            · have := b6 g' hg'
              first | assumption | (simp (disch := omega) only [up2_at, up2_ap, up2_ak]; done) | (simp (disch := omega) only [up2_at, up2_ap, up2_ak]; assumption)
        · obtain ⟨d1, d2, d3, d4⟩ := rd k9 hk9
          by_cases hio : k9 = K
          · subst hio
            refine ⟨?_, ?_, ?_, ?_⟩
            · first | assumption | (simp (disch := omega) only [up2_at, up2_ap, up2_ak]; done) | (simp (disch := omega) only [up2_at, up2_ap, up2_ak]; assumption)
            · first | assumption | (simp (disch := omega) only [up2_at, up2_ap, up2_ak]; done) | (simp (disch := omega) only [up2_at, up2_ap, up2_ak]; assumption)
            · first | assumption | (simp (disch := omega) only [up2_at, up2_ap, up2_ak]; done) | (simp (disch := omega) only [up2_at, up2_ap, up2_ak]; assumption)
            · first | assumption | (simp (disch := omega) only [up2_at, up2_ap, up2_ak]; done) | (simp (disch := omega) only [up2_at, up2_ap, up2_ak]; assumption)
          · refine ⟨?_, ?_, ?_, ?_⟩
            · first | assumption | (simp (disch := omega) only [up2_at, up2_ap, up2_ak]; done) | (simp (disch := omega) only [up2_at, up2_ap, up2_ak]; assumption)
            · first | assumption | (simp (disch := omega) only [up2_at, up2_ap, up2_ak]; done) | (simp (disch := omega) only [up2_at, up2_ap, up2_ak]; assumption)
            · first | assumption | (simp (disch := omega) only [up2_at, up2_ap, up2_ak]; done) | (simp (disch := omega) only [up2_at, up2_ap, up2_ak]; assumption)
            · first | assumption | (simp (disch := omega) only [up2_at, up2_ap, up2_ak]; done) | (simp (disch := omega) only [up2_at, up2_ap, up2_ak]; assumption)
        · have := re j9 hj9
          by_cases hio : j9 = K
          · subst hio
            first | assumption | (simp (disch := omega) only [up2_at, up2_ap, up2_ak]; done) | (simp (disch := omega) only [up2_at, up2_ap, up2_ak]; assumption)
          · first | assumption | (simp (disch := omega) only [up2_at, up2_ap, up2_ak]; done) | (simp (disch := omega) only [up2_at, up2_ap, up2_ak]; assumption)
        · first | assumption | (simp (disch := omega) only [up2_at, up2_ap, up2_ak]; done) | (simp (disch := omega) only [up2_at, up2_ap, up2_ak]; assumption)
        · have := rg i9 hi9
          by_cases hio : i9 = K
          · subst hio
            first | assumption | (simp (disch := omega) only [up2_at, up2_ap, up2_ak]; done) | (simp (disch := omega) only [up2_at, up2_ap, up2_ak]; assumption)
          · first | assumption | (simp (disch := omega) only [up2_at, up2_ap, up2_ak]; done) | (simp (disch := omega) only [up2_at, up2_ap, up2_ak]; assumption)
      refine ⟨iv v, σ1, 0, v, σ2, ?_, ?_, AgI.s, rfl, Inv.mk' (N := N) (M := M) (K := K + 1) (L := L) (σ := σ1) ?_ (((((eC.up (by decide) (by decide)).tr (eC.up (by decide) (by decide))).tr (eC.up (by decide) (by decide))).tr (eC.up (by decide) (by decide))).tr (eC.up (by decide) (by decide))) hr1 (c.f rfl rfl)⟩
      · rw [f_X3_hour, rr_c, if_pos h1, qv_n, rr_c, if_pos h2, qv_n, rr_c, if_pos h3, qv_n, hK.1, if_pos (show nI K < 10 from (pz_lt (by omega) (by decide : 10 < 2147483648)).mpr h4), e1, nv_s, f_X0_hoursOf]
        rw [show nI 0 = 0 from rfl] at hv
        rw [hv, ri_s]
      · have hm := ho_m (σ := σ2) (α := σ1) hr1.1.1.2.2 (fun k hk => (hr1.1.2.2.1 k hk).1) a1 40 0 0
        rw [show nI 0 = 0 from rfl] at hv
        rw [hv] at hm
        have hk0 : σ1 8 12 = nI K := r.1.1.2.2.trans hK.1
        rw [f_X4_hour, in_m, if_pos h1, ri_s, if_neg (by decide), ti_m, if_pos h2, ri_s, if_neg (by decide), ti_m, if_pos h3', ri_s, if_neg (by decide), if_pos h3.1, hk0, if_neg (fun q => by rw [show (10 : Int32) = nI 10 from rfl, pz_eq (by omega) (by decide)] at q; omega), f_X4_hour_47, c8, if_pos (by decide)]
        have q1 : up2 σ1 8 0 0 8 12 = nI K := hk0
        rw [q1, pz_N (by omega)]
        have q2 : up2 (up2 σ1 8 0 0) 17 K a1 8 12 = nI K := hk0
        rw [q2, pz_N (by omega)]
        have q3 : up2 (up2 (up2 σ1 8 0 0) 17 K a1) 18 K a2 8 12 = nI K := hk0
        rw [q3, pz_N (by omega)]
        have q4 : up2 (up2 (up2 (up2 σ1 8 0 0) 17 K a1) 18 K a2) 19 K a3 8 12 = nI K := hk0
        have := pz_in h4 (by omega : 10 ≤ 1000)
        rw [pz_N (by omega)] at this
        rw [q4, if_neg this, if_neg this, if_neg this, pz_s]
        exact hm
      · obtain ⟨w1, w2, w3, w4, w5, w6, w7⟩ := w
        have og : ∀ p, 5 ≤ p → σ1 p = σ p := fun p hp => by
          show up2 (up2 (up2 (up2 σ 2 K a1) 3 K a2) 4 K a3) 1 3 (nI (K + 1)) p = _
          rw [up2_ne (by omega), up2_ne (by omega), up2_ne (by omega), up2_ne (by omega)]
        refine ⟨w1, w2, ⟨rfl, by omega⟩, w4, fun i hi => ?_, ?_, fun j hj => ?_⟩
        · unfold OW; rw [og _ (by omega), og _ (by omega)]; exact w5 i hi
        · rw [og 5 (by omega)]; exact w6
        · obtain ⟨v1, v2, v3, v4⟩ := w7 j hj
          exact ⟨v1.f (og _ (by omega)) (og _ (by omega)), v2, fun i => by rw [og _ (by omega)]; exact v3 i, fun i hi => by rw [og _ (by omega), og _ (by omega)]; exact v4 i hi⟩
    · have : K = 10 := by omega
      subst this
      refine ⟨eU, σ, 2, 0, up2 σ 8 0 2, ?_, ?_, AgI.e (by decide) (by decide), rfl, hI.q 2⟩
      · rw [f_X3_hour, rr_c, if_pos h1, qv_n, rr_c, if_pos h2, qv_n, rr_c, if_pos h3, qv_n, hK.1]; rfl
      · rw [f_X4_hour, in_m, if_pos h1, ri_s, if_neg (by decide), ti_m, if_pos h2, ri_s, if_neg (by decide), ti_m, if_pos h3', ri_s, if_neg (by decide), if_pos h3.1, r.1.1.2.2, hK.1]; rfl
  · refine ⟨eA, σ, 1, 0, up2 σ 8 0 1, ?_, ?_, AgI.e (by decide) (by decide), rfl, hI.q 1⟩
    · simp only [f_X3_hour, rr_c]
      by_cases h1 : 0 ≤ a1 ∧ a1 ≤ 3
      · by_cases h2 : 0 ≤ a2 ∧ a2 ≤ 100000
        · have h3 : ¬ (a2 ≤ a3 ∧ a3 ≤ 100000) := fun q => h ⟨h1, h2, q⟩
          rw [if_pos h1, if_pos h2, if_neg h3]; rfl
        · rw [if_pos h1, if_neg h2]; rfl
      · rw [if_neg h1]; rfl
    · simp only [f_X4_hour, in_m, ti_m, ri_s]
      by_cases h1 : 0 ≤ a1 ∧ a1 ≤ 3
      · by_cases h2 : 0 ≤ a2 ∧ a2 ≤ 100000
        · rw [if_pos h1, if_pos h2]
          by_cases h3 : 0 ≤ a3 ∧ a3 ≤ 100000
          · rw [if_pos h3, if_neg (show ¬ a2 ≤ a3 by grind)]; rfl
          · rw [if_neg h3]; rfl
        · rw [if_pos h1, if_neg h2]; rfl
      · rw [if_neg h1]; rfl
/-! late ones -/
theorem la_c {σ α τ : St} {N : Nat} (hN : α 0 4 = nI N) (hN2 : N ≤ 16) (hm : σ 8 2 = nI N) (hp : ∀ i, i < 16 → σ 13 i = α (26 + 2 * i) 6) (x : Int32) : ∀ d k n s, k + d = N → d < n → ∃ v, f_X3_late_8 α x n s (nI k) = some (iv v) ∧ f_X4_late_26 σ n (x - s) (nI k) = some (iv v, σ) := by
  intro d
  induction d with
  | zero =>
    intro k n s hk hn
    obtain ⟨n, rfl⟩ : ∃ m, n = m + 1 := ⟨n - 1, by omega⟩
    simp only [f_X3_late_8, f_X4_late_26]
    rw [if_pos (by rw [hN, pz_le (by omega) (by omega)]; omega), if_pos (by rw [hm, pz_le (by omega) (by omega)]; omega)]
    exact ⟨_, rfl, rfl⟩
  | succ d ih =>
    intro k n s hk hn
    obtain ⟨n, rfl⟩ : ∃ m, n = m + 1 := ⟨n - 1, by omega⟩
    simp only [f_X3_late_8, f_X4_late_26]
    rw [if_neg (by rw [hN, pz_le (by omega) (by omega)]; omega), if_neg (pz_in (by omega) (by omega)), if_neg (show ¬ σ 8 2 ≤ nI k by rw [hm, pz_le (by omega) (by omega)]; omega), if_neg (pz_in (b := 16) (k := k) (by omega) (by omega)), pz_s, pz_N (by omega), hp k (by omega)]
    split
    · by_cases e : s = x
      · rw [if_pos e, if_pos (show x - s = 0 by grind)]; exact ⟨_, rfl, rfl⟩
      · rw [if_neg e, if_neg (show ¬ x - s = 0 by grind), show x - s + -1 = x - (s + 1) by grind]
        exact ih (k + 1) n (s + 1) (by omega) (by omega)
    · exact ih (k + 1) n s (by omega) (by omega)
theorem PSlate : PS_late Inv := by
  intro n hn σ hI a
  obtain ⟨N, M, K, L, w, r, c⟩ := id hI
  by_cases h : 0 ≤ a
  · obtain ⟨v, e1, e2⟩ := la_c (σ := up2 σ 8 0 0) (α := σ) (τ := σ) w.1.1 w.1.2 ((r.c (s := 0)).n w) (fun i hi => r.2.2 i hi) a N 0 40 0 (by omega) (by have := w.1.2; omega)
    refine ⟨iv v, 0, v, up2 σ 8 0 0, ?_, ?_, AgI.s, rfl, hI.q 0⟩
    · rw [f_X3_late, f_X3_requireNotNegative, if_pos h, qv_n]; exact e1
    · rw [f_X4_late, if_pos h, f_X4_late_10, c8, if_pos (by decide)]
      rw [show a - 0 = a by grind] at e2; exact e2
  · refine ⟨eA, 1, 0, up2 σ 8 0 1, ?_, ?_, AgI.e (by decide) (by decide), rfl, hI.q 1⟩
    · rw [f_X3_late, f_X3_requireNotNegative, if_neg h, qv_e]
    · rw [f_X4_late, if_neg h]; rfl
/-! what is told of a wave -/
theorem tw {σ τ : St} {N M K n : Nat} {L : Nat → List Nat} (w : WF σ N M K L) (r : RQ τ σ) (c : CM n τ L) {j : Nat} (hj : j < 16) :
    f_X4_sizeOf τ (nI (j + 1)) = some (iv (nI (L j).length)) ∧ f_X4_savedOf τ (nI (j + 1)) = some (iv (so σ [] (L j) 0)) ∧ f_X4_secondsOf τ (nI (j + 1)) = some (iv (fse σ (L j) 0 - so σ [] (L j) 0)) ∧ (∀ i, i < 2147483648 → f_X4_memberAt τ (nI (j + 1)) (nI i) = some (iv ((L j)[i]?.elim (-1) nI))) ∧ ∀ g, g < 10 → f_X4_wantsOf τ (nI (j + 1)) (nI g) = some (iv (fwa σ g (L j) 0)) := by
  have hN := r.n w
  have hN2 := w.1.2
  have sl := r.sl w c hj
  have hl := (w.w hj).1.2.1
  refine ⟨?_, ?_, ?_, fun i hi => ?_, fun g hg => ?_⟩
  · rw [sz_mm hN hN2, fsz_0, sl.perm.length_eq]
  · rw [so_mm hN hN2 r.1 w.z, sl.so]
  · rw [se_mm hN hN2 r.1 w.z, sl.so, fse_perm sl.perm]
  · rw [ma_mm hN hN2, sl.find hl hi]
  · rw [wa_mm hN hN2 r.1 _ hg, fwa_perm sl.perm]
theorem CM.c {n : Nat} {σ : St} {L : Nat → List Nat} (h : CM n σ L) (s : Int32) : CM n (up2 σ 8 0 s) L := h
theorem PStold : PS_told Inv := by
  intro n hn σ hI a1 a2
  obtain ⟨N, M, K, L, w, r, c⟩ := id hI
  rcases rw_c w r c a1 with ⟨j, hjM, hj, rfl, hne, e, em⟩ | ⟨e, em⟩
  · have V := w.w hj
    have r0 : RQ (up2 σ 8 0 0) σ := r.c
    have c0 := c.c 0
    have sl := r0.sl w c0 hj
    obtain ⟨t1, t2, t3, t4, t5⟩ := tw w r0 c0 hj
    have hx : f_X4_told σ (nI (j + 1)) a2 = if 0 ≤ a2 ∧ a2 ≤ 6 then f_X4_told_28 σ (nI (j + 1)) a2 0 else f_X4_told_28 σ (nI (j + 1)) a2 2 := by
      rw [f_X4_told, em, ri_s, if_neg (by decide), in_m, ri_s]
      by_cases q : 0 ≤ a2 ∧ a2 ≤ 6
      · rw [if_pos q, if_pos q, if_neg (by decide)]
      · rw [if_neg q, if_neg q, if_pos rfl]
    have in7 : ∀ k : Int32, (k = 0 ∨ k = 1 ∨ k = 2 ∨ k = 3 ∨ k = 4 ∨ k = 5 ∨ k = 6) → 0 ≤ k ∧ k ≤ 6 := by
      intro k hk
      rcases hk with q | q | q | q | q | q | q <;> subst q <;> decide
    by_cases k0 : a2 = 0
    · subst k0
      refine ⟨_, 0, _, up2 σ 8 0 0, by rw [f_X3_told, e, qp_p, if_pos (kd_w hj), if_pos rfl, se_cc w.z V.1, ri_s], ?_, AgI.s, rfl, hI.q 0⟩
      rw [hx, if_pos (by decide), f_X4_told_28, c8, if_pos (by decide), if_pos rfl, t3, ri_s]
    by_cases k1 : a2 = 1
    · subst k1
      refine ⟨_, 0, _, up2 σ 8 0 0, by rw [f_X3_told, e, qp_p, if_pos (kd_w hj), if_neg (by decide), if_pos rfl, so_c w.z V.1, ri_s], ?_, AgI.s, rfl, hI.q 0⟩
      rw [hx, if_pos (by decide), f_X4_told_28, c8, if_pos (by decide), if_neg (by decide), if_pos rfl, t2, ri_s]
    by_cases k2 : a2 = 2
    · subst k2
      refine ⟨_, 0, _, up2 σ 8 0 0, by rw [f_X3_told, e, qp_p, if_pos (kd_w hj), if_neg (by decide), if_neg (by decide), if_pos rfl, V.1.1], ?_, AgI.s, rfl, hI.q 0⟩
      rw [hx, if_pos (by decide), f_X4_told_28, c8, if_pos (by decide), if_neg (by decide), if_neg (by decide), if_pos rfl, t1, ri_s]
    by_cases k3 : a2 = 3
    · subst k3
      refine ⟨_, 0, _, up2 σ 8 0 0, by rw [f_X3_told, e, qp_p, if_pos (kd_w hj), if_neg (by decide), if_neg (by decide), if_neg (by decide), if_pos rfl, du_cc V.1, ri_s], ?_, AgI.s, rfl, hI.q 0⟩
      have := to_m (r0.n w) w.1.2 r0.1 (nI (j + 1)) 3 N 0 40 100000 0 (by omega) (by have := w.1.2; omega)
      rw [if_pos rfl, fdu_perm sl.perm] at this
      rw [hx, if_pos (by decide), f_X4_told_28, c8, if_pos (by decide), if_neg (by decide), if_neg (by decide), if_neg (by decide), if_neg (by decide), if_neg (by decide)]
      exact this
    by_cases k4 : a2 = 4
    · subst k4
      refine ⟨_, 0, _, up2 σ 8 0 0, by rw [f_X3_told, e, qp_p, if_pos (kd_w hj), if_neg (by decide), if_neg (by decide), if_neg (by decide), if_neg (by decide), if_pos rfl], ?_, AgI.s, rfl, hI.q 0⟩
      obtain ⟨x, l', hl⟩ : ∃ x l', L j = x :: l' := List.exists_cons_of_ne_nil hne
      have hx0 : x ∈ L j := by rw [hl]; simp
      have hx16 : x < 16 := V.1.2.2.2 x hx0
      have hm := t4 0 (by omega)
      rw [hl] at hm
      have hm : f_X4_memberAt (up2 σ 8 0 0) (nI (j + 1)) 0 = some (iv (nI x)) := hm
      rw [hx, if_pos (by decide), f_X4_told_28, c8, if_pos (by decide), if_neg (by decide), if_neg (by decide), if_neg (by decide), if_pos rfl, hm, ri_s, if_neg (pz_in hx16 (by omega)), pz_N (by omega), (r0.1.2.1 x hx16).2.2.2.1, V.2.2.2 x hx0]
    by_cases k5 : a2 = 5
    · subst k5
      refine ⟨iv (if σ (58 + 2 * j) 3 = 0 then 0 else 1), 0, _, up2 σ 8 0 0, ?_, ?_, AgI.s, rfl, hI.q 0⟩
      · rw [f_X3_told, e, qp_p, if_pos (kd_w hj), if_neg (by decide), if_neg (by decide), if_neg (by decide), if_neg (by decide), if_neg (by decide), if_pos rfl]
        split <;> rfl
      · rw [hx, if_pos (by decide), f_X4_told_28, c8, if_pos (by decide), if_neg (by decide), if_neg (by decide), if_neg (by decide), if_neg (by decide), if_pos rfl, if_neg (pz_in (by omega) (by omega)), pz_N (by omega), r0.1.2.2.2 j hj]
        split <;> rfl
    by_cases k6 : a2 = 6
    · subst k6
      refine ⟨_, 0, _, up2 σ 8 0 0, by rw [f_X3_told, e, qp_p, if_pos (kd_w hj), if_neg (by decide), if_neg (by decide), if_neg (by decide), if_neg (by decide), if_neg (by decide), if_neg (by decide), if_pos rfl, fi_cc V.1, ri_s], ?_, AgI.s, rfl, hI.q 0⟩
      have := to_m (r0.n w) w.1.2 r0.1 (nI (j + 1)) 6 N 0 40 100000 0 (by omega) (by have := w.1.2; omega)
      rw [if_neg (by decide), ffi_perm sl.perm] at this
      rw [hx, if_pos (by decide), f_X4_told_28, c8, if_pos (by decide), if_neg (by decide), if_neg (by decide), if_neg (by decide), if_neg (by decide), if_neg (by decide)]
      exact this
    · have hno : ¬ (0 ≤ a2 ∧ a2 ≤ 6) := by
        rintro ⟨q1, q2⟩
        obtain ⟨k, hk, rfl⟩ := pz_ex (x := a2) (by grind)
        have hk6 : k ≤ 6 := (pz_le hk (by decide : 6 < 2147483648)).mp q2
        have : k = 0 ∨ k = 1 ∨ k = 2 ∨ k = 3 ∨ k = 4 ∨ k = 5 ∨ k = 6 := by omega
        rcases this with q | q | q | q | q | q | q <;> subst q
        · exact k0 rfl
        · exact k1 rfl
        · exact k2 rfl
        · exact k3 rfl
        · exact k4 rfl
        · exact k5 rfl
        · exact k6 rfl
      refine ⟨eA, 2, 0, up2 σ 8 0 2, ?_, ?_, AgI.e (by decide) (by decide), rfl, hI.q 2⟩
      · rw [f_X3_told, e, qp_p, if_pos (kd_w hj), if_neg k0, if_neg k1, if_neg k2, if_neg k3, if_neg k4, if_neg k5, if_neg k6]
      · rw [hx, if_neg hno]; rfl
  · refine ⟨eN, 1, 0, up2 σ 8 0 1, ?_, ?_, AgI.e (by decide) (by decide), rfl, hI.q 1⟩
    · rw [f_X3_told, e, qp_e]
    · rw [f_X4_told, em, ri_s]; rfl
theorem PSmember : PS_member Inv := by
  intro n hn σ hI a1 a2
  obtain ⟨N, M, K, L, w, r, c⟩ := id hI
  have two : ∀ k : Int32, Inv (n + 4) (up2 (up2 σ 8 0 0) 8 0 k) := fun k => by
    rw [show up2 (up2 σ 8 0 0) 8 0 k = up2 σ 8 0 k by funext p k; grind [up2_d]]; exact hI.q k
  rcases rw_c w r c a1 with ⟨j, hjM, hj, rfl, hne, e, em⟩ | ⟨e, em⟩
  · have V := w.w hj
    have r0 : RQ (up2 σ 8 0 0) σ := r.c
    obtain ⟨t1, t2, t3, t4, t5⟩ := tw w r0 (c.c 0) hj
    have hl := V.1.2.1
    by_cases h : a2 < 0
    · refine ⟨eN, 1, 0, up2 σ 8 0 1, ?_, ?_, AgI.e (by decide) (by decide), rfl, hI.q 1⟩
      · rw [f_X3_member, e, qp_p, if_pos (kd_w hj), if_pos h]
      · rw [f_X4_member, em, ri_s, if_neg (by decide), if_neg (by grind)]; rfl
    · obtain ⟨i, hi, rfl⟩ := pz_ex h
      have hm := t4 i hi
      by_cases h2 : i < (L j).length
      · have hg : (L j)[i]? = some (L j)[i] := List.getElem?_eq_getElem h2
        have hx16 := V.1.2.2.2 _ (List.getElem_mem h2)
        rw [hg] at hm
        refine ⟨iv (nI (L j)[i]), 0, nI (L j)[i], up2 (up2 σ 8 0 0) 8 0 0, ?_, ?_, AgI.s, rfl, two 0⟩
        · rw [f_X3_member, e, qp_p, if_pos (kd_w hj), if_neg h, V.1.1, if_pos ((pz_lt hi (by omega)).mpr h2), if_neg (pz_in (by omega) (by omega)), pz_N hi, V.1.2.2.1 _ _ hg]
        · rw [f_X4_member, em, ri_s, if_neg (by decide), if_pos (by grind), f_X4_member_18, c8, if_pos (by decide), hm]
          simp only [ri_s, Option.elim]
          rw [if_neg (pz_m1 (by omega))]; rfl
      · have hg : (L j)[i]? = none := List.getElem?_eq_none (by omega)
        rw [hg] at hm
        refine ⟨eN, 1, 0, up2 (up2 σ 8 0 0) 8 0 1, ?_, ?_, AgI.e (by decide) (by decide), rfl, two 1⟩
        · rw [f_X3_member, e, qp_p, if_pos (kd_w hj), if_neg h, V.1.1, if_neg (fun q => h2 ((pz_lt hi (by omega)).mp q))]
        · rw [f_X4_member, em, ri_s, if_neg (by decide), if_pos (by grind), f_X4_member_18, c8, if_pos (by decide), hm]; rfl
  · refine ⟨eN, 1, 0, up2 σ 8 0 1, ?_, ?_, AgI.e (by decide) (by decide), rfl, hI.q 1⟩
    · rw [f_X3_member, e, qp_e]
    · rw [f_X4_member, em, ri_s]; rfl
