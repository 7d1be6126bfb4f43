/-! what is lacking -/
theorem fits_eq {α σ : St} (h1 : σ 8 12 = α 1 3) (h2 : ∀ k, k < 10 → σ 17 k = α 2 k ∧ σ 18 k = α 3 k ∧ σ 19 k = α 4 k ∧ σ 21 k = α 5 k) (c t : Int32) : ∀ n x, f_X4_fits_2 σ c t n x = f_X0_have_2 α c t n x := by
  intro n
  induction n with
  | zero => intro x; rfl
  | succ n ih =>
    intro x
    simp only [f_X4_fits_2, f_X0_have_2, h1, ih]
    by_cases hg : x < 0 ∨ 10 ≤ x.toNatClampNeg
    · simp only [hg, if_true]
    · have := h2 _ (pz_un hg).2
      simp only [this.1, this.2.1, this.2.2.1]
theorem ft_m {σ α : St} (h : R0 σ α) (hk : KK α) {i : Nat} (hi : i < 16) : f_X4_fits σ (σ 12 i) (σ 9 i) = some (iv (hv α i)) := by
  rw [(h.2.1 i hi).2.2.2.1, (h.2.1 i hi).1, ← (hv_s α hk i).1]
  exact fits_eq h.1.2.2 h.2.2.1 _ _ 40 0
section
variable {σ α : St} {N M K n0 : Nat} {L : Nat → List Nat}
theorem lk_1 (w : WF α N M K L) (r : RQ σ α) (cm : CM n0 σ L) {j g : Nat} (hj : j < 16) (hg : g < 10) : ∀ d k n s, k + d = M → d < n → ∃ v, f_X3_lackOf_10 α (nI (j + 1)) (nI g) n s (nI k) = some (iv v) ∧ f_X4_lackOf_10 σ (nI (j + 1)) (nI g) n s (nI (k + 1)) = some (iv v) ∧ 0 ≤ v := by
  have hM := w.2.1.2
  have em : nI (j + 1) - 1 = nI j := by rw [← pz_s]; grind
  intro d
  induction d with
  | zero =>
    intro k n s hk hn
    obtain ⟨n, rfl⟩ : ∃ m, n = m + 1 := ⟨n - 1, by omega⟩
    simp only [f_X3_lackOf_10, f_X4_lackOf_10]
    rw [if_pos (show α 0 6 ≤ nI k by rw [w.2.1.1, pz_le (by omega) (by omega)]; omega), if_pos (show σ 8 16 < nI (k + 1) by rw [r.m w, pz_lt (by omega) (by omega)]; omega), em, if_neg (pz_in hj (by omega)), pz_N (by omega), wa_cc hg (w.w hj).1]
    simp only [ri_s, f_X4_lackOf_64, (tw w r cm hj).2.2.2.2 g hg]
    generalize fwa α g (L j) 0 = t
    refine ⟨_, rfl, ?_, ?_⟩
    · (repeat' split) <;> first | rfl | grind
    · (repeat' split) <;> grind
  | succ d ih =>
    intro k n s hk hn
    obtain ⟨n, rfl⟩ : ∃ m, n = m + 1 := ⟨n - 1, by omega⟩
    have hk16 : k < 16 := by omega
    simp only [f_X3_lackOf_10, f_X4_lackOf_10]
    rw [if_neg (show ¬ α 0 6 ≤ nI k by rw [w.2.1.1, pz_le (by omega) (by omega)]; omega), if_neg (show ¬ σ 8 16 < nI (k + 1) by rw [r.m w, pz_lt (by omega) (by omega)]; omega), em, pz_s, pz_s, show s - 0 = s by grind]
    by_cases e : k = j
    · subst e
      rw [if_pos rfl, if_pos rfl]
      exact ih (k + 1) n s (by omega) (by omega)
    · rw [if_neg (show ¬ nI k = nI j by rw [pz_eq (by omega) (by omega)]; exact e), if_neg (show ¬ nI (k + 1) = nI (j + 1) by rw [pz_eq (by omega) (by omega)]; omega), if_neg (pz_in hk16 (by omega)), if_neg (pz_in (b := 17) (k := k + 1) (by omega) (by omega)), pz_N (by omega), pz_N (by omega), r.1.2.2.2 k hk16, wa_cc hg (w.w hk16).1, (tw w r cm hk16).2.2.2.2 g hg]
      simp only [ri_s]
      by_cases q : α (58 + 2 * k) 3 = 0
      · rw [if_pos q, if_pos q]; exact ih (k + 1) n s (by omega) (by omega)
      · rw [if_neg q, if_neg q]; exact ih (k + 1) n _ (by omega) (by omega)
theorem lk_x (w : WF α N M K L) (r : RQ σ α) (cm : CM n0 σ L) {j g : Nat} (hj : j < 16) (hg : g < 10) : ∃ v, f_X3_lackOf α (nI (j + 1)) (nI g) = some (iv v) ∧ f_X4_lackOf σ (nI (j + 1)) (nI g) = some (iv v) ∧ 0 ≤ v := by
  have := lk_1 w r cm hj hg M 0 40 (α 5 g) (by omega) (by have := w.2.1.2; omega)
  rw [f_X3_lackOf, f_X4_lackOf, if_neg (pz_in hg (by omega)), if_neg (pz_in hg (by omega)), pz_N (by omega), (r.1.2.2.1 g hg).2.2.2]
  exact this
theorem lg_1 (w : WF α N M K L) (r : RQ σ α) (cm : CM n0 σ L) {j : Nat} (hj : j < 16) (x : Int32) : ∀ d k n s, k + d = 10 → d < n → ∃ v, f_X3_lackedGood_5 α (nI (j + 1)) x n s (nI k) = some (iv v) ∧ f_X4_replenish_39 σ (nI (j + 1)) n (x - s) (nI k) = some (iv v, σ) := by
  intro d
  induction d with
  | zero =>
    intro k n s hk hn
    obtain ⟨n, rfl⟩ : ∃ m, n = m + 1 := ⟨n - 1, by omega⟩
    have : k = 10 := by omega
    subst this
    exact ⟨_, rfl, rfl⟩
  | succ d ih =>
    intro k n s hk hn
    obtain ⟨n, rfl⟩ : ∃ m, n = m + 1 := ⟨n - 1, by omega⟩
    simp only [f_X3_lackedGood_5, f_X4_replenish_39]
    obtain ⟨v, e1, e2, e3⟩ := lk_x w r cm hj (g := k) (by omega)
    have c10 : ¬ (10 : Int32) ≤ nI k := by rw [show (10 : Int32) = nI 10 from rfl, pz_le (by omega) (by omega)]; omega
    rw [if_neg c10, if_neg c10, e1, e2, ri_s, ri_s, pz_s]
    by_cases q : v = 0
    · rw [if_pos q, if_pos q]; exact ih (k + 1) n s (by omega) (by omega)
    · rw [if_neg q, if_neg q]
      by_cases e : s = x
      · rw [if_pos e, if_pos (show x - s = 0 by grind)]; exact ⟨_, rfl, rfl⟩
      · rw [if_neg e, if_neg (show ¬ x - s = 0 by grind), show x - s + -1 = x - (s + 1) by grind]
        exact ih (k + 1) n (s + 1) (by omega) (by omega)
theorem rl_1 (w : WF α N M K L) (r : RQ σ α) (cm : CM n0 σ L) {j : Nat} (hj : j < 16) : ∀ d k n, k + d = 10 → d < n → ∃ v, f_X3_lackedGood_5 α (nI (j + 1)) 0 n 0 (nI k) = some (iv v) ∧ ((v = -1 ∧ f_X4_release_100 (nI (j + 1)) n σ (nI k) = some (iv 0, up2 σ 20 (j + 1) 1)) ∨ (v ≠ -1 ∧ f_X4_release_100 (nI (j + 1)) n σ (nI k) = some (iv 2, σ))) := by
  intro d
  induction d with
  | zero =>
    intro k n hk hn
    obtain ⟨n, rfl⟩ : ∃ m, n = m + 1 := ⟨n - 1, by omega⟩
    have : k = 10 := by omega
    subst this
    refine ⟨-1, rfl, Or.inl ⟨rfl, ?_⟩⟩
    simp only [f_X4_release_100]
    rw [if_pos (by decide), if_neg (pz_in (by omega) (by omega)), pz_N (by omega)]
  | succ d ih =>
    intro k n hk hn
    obtain ⟨n, rfl⟩ : ∃ m, n = m + 1 := ⟨n - 1, by omega⟩
    simp only [f_X3_lackedGood_5, f_X4_release_100]
    obtain ⟨v, e1, e2, e3⟩ := lk_x w r cm hj (g := k) (by omega)
    have c10 : ¬ (10 : Int32) ≤ nI k := by rw [show (10 : Int32) = nI 10 from rfl, pz_le (by omega) (by omega)]; omega
    rw [if_neg c10, if_neg c10, e1, e2, ri_s, ri_s, pz_s]
    by_cases q : v = 0
    · rw [if_pos q, if_pos (show v ≤ 0 by grind)]; exact ih (k + 1) n (by omega) (by omega)
    · rw [if_neg q, if_neg (show ¬ v ≤ 0 by grind), if_pos trivial]
      exact ⟨_, rfl, Or.inr ⟨pz_m1 (by omega), rfl⟩⟩
theorem rf_1 (w : WF α N M K L) (r : RQ σ α) (hk : KK α) (x : Int32) : ∀ d k n, k + d = N → d < n → f_X4_release_53 x n σ (nI k) = if ∃ i ∈ Fw (σ 13) x k d, hv α i = 0 then some (iv 1, σ) else f_X4_release_100 x 40 σ 0 := by
  have hN := r.n w
  have hN2 := w.1.2
  intro d
  induction d with
  | zero =>
    intro k n hk hn
    obtain ⟨n, rfl⟩ : ∃ m, n = m + 1 := ⟨n - 1, by omega⟩
    simp only [f_X4_release_53]
    rw [if_pos (show σ 8 2 ≤ nI k by rw [hN, pz_le (by omega) (by omega)]; omega)]
    simp [Fw_0]
  | succ d ih =>
    intro k n hk' hn
    obtain ⟨n, rfl⟩ : ∃ m, n = m + 1 := ⟨n - 1, by omega⟩
    simp only [f_X4_release_53]
    rw [if_neg (show ¬ σ 8 2 ≤ nI k by rw [hN, pz_le (by omega) (by omega)]; omega), if_neg (pz_in (by omega) (by omega)), pz_N (by omega), pz_s, ft_m r.1 hk (by omega), ri_s, ih (k + 1) n (by omega) (by omega)]
    by_cases e : σ 13 k = x
    · rw [if_pos e, Fw_p e]
      by_cases q : hv α k = 0
      · rw [if_pos q, if_pos (show ∃ i ∈ k :: Fw (σ 13) x (k + 1) d, hv α i = 0 from ⟨k, by simp, q⟩)]
      · rw [if_neg q]; simp [q]
    · rw [if_neg e, Fw_n e]
end
theorem PSlacks : PS_lacks Inv := by
  intro n hn σ hI a1 a2
  obtain ⟨N, M, K, L, w, r, c⟩ := id hI
  rcases rw_c w r c a1 with ⟨j, hjM, hj, rfl, hne, e, em⟩ | ⟨e, em⟩
  · by_cases h : 0 ≤ a2 ∧ a2 ≤ 9
    · obtain ⟨g, hg, rfl⟩ := pz_ex (x := a2) (by grind)
      have hg : g < 10 := by have := (pz_le hg (by decide : 9 < 2147483648)).mp h.2; omega
      obtain ⟨v, e1, e2, e3⟩ := lk_x (σ := up2 σ 8 0 0) w r.c (c.c 0) hj hg
      refine ⟨iv v, 0, v, up2 σ 8 0 0, ?_, ?_, AgI.s, rfl, hI.q 0⟩
      · rw [f_X3_lacks, e, qp_p, if_pos (kd_w hj), rr_c, if_pos h, qv_n, e1, ri_s]
      · rw [f_X4_lacks, em, ri_s, if_neg (by decide), in_m, if_pos h, ri_s, if_neg (by decide), f_X4_lacks_28, c8, if_pos (by decide), e2, ri_s]
    · refine ⟨eA, 2, 0, up2 σ 8 0 2, ?_, ?_, AgI.e (by decide) (by decide), rfl, hI.q 2⟩
      · rw [f_X3_lacks, e, qp_p, if_pos (kd_w hj), rr_c, if_neg h, qv_e]
      · rw [f_X4_lacks, em, ri_s, if_neg (by decide), in_m, if_neg h]; rfl
  · refine ⟨eN, 1, 0, up2 σ 8 0 1, ?_, ?_, AgI.e (by decide) (by decide), rfl, hI.q 1⟩
    · rw [f_X3_lacks, e, qp_e]
    · rw [f_X4_lacks, em, ri_s]; rfl
theorem PSreplenish : PS_replenish Inv := by
  intro n hn σ hI a1 a2
  obtain ⟨N, M, K, L, w, r, c⟩ := id hI
  rcases rw_c w r c a1 with ⟨j, hjM, hj, rfl, hne, e, em⟩ | ⟨e, em⟩
  · by_cases h : 0 ≤ a2
    · obtain ⟨v, e1, e2⟩ := lg_1 (σ := up2 σ 8 0 0) w r.c (c.c 0) hj a2 10 0 40 0 (by omega) (by omega)
      rw [show a2 - 0 = a2 by grind] at e2
      refine ⟨iv v, 0, v, up2 σ 8 0 0, ?_, ?_, AgI.s, rfl, hI.q 0⟩
      · rw [f_X3_replenish, e, qp_p, if_pos (kd_w hj), f_X3_requireNotNegative, if_pos h, qv_n, f_X3_lackedGood, show (0 : Int32) = nI 0 from rfl]
        rw [show (0 : Int32) = nI 0 from rfl] at e1
        rw [e1, ri_s]
      · rw [f_X4_replenish, em, ri_s, if_neg (by decide), if_pos h, f_X4_replenish_22, c8, if_pos (by decide)]; exact e2
    · refine ⟨eA, 2, 0, up2 σ 8 0 2, ?_, ?_, AgI.e (by decide) (by decide), rfl, hI.q 2⟩
      · rw [f_X3_replenish, e, qp_p, if_pos (kd_w hj), f_X3_requireNotNegative, if_neg h, qv_e]
      · rw [f_X4_replenish, em, ri_s, if_neg (by decide), if_neg h]; rfl
  · refine ⟨eN, 1, 0, up2 σ 8 0 1, ?_, ?_, AgI.e (by decide) (by decide), rfl, hI.q 1⟩
    · rw [f_X3_replenish, e, qp_e]
    · rw [f_X4_replenish, em, ri_s]; rfl
theorem PSrelease : PS_release Inv := by
  intro n hn σ hI a1
  obtain ⟨N, M, K, L, w, r, c⟩ := id hI
  have two : ∀ k : Int32, Inv (n + 4) (up2 (up2 σ 8 0 0) 8 0 k) := fun k => by
    rw [show up2 (up2 σ 8 0 0) 8 0 k = up2 σ 8 0 k by funext p k; grind [up2_d]]; exact hI.q k
  rcases rw_c w r c a1 with ⟨j, hjM, hj, rfl, hne, e, em⟩ | ⟨e, em⟩
  · have V := w.w hj
    by_cases h : σ (58 + 2 * j) 3 = 0
    · have hfc := af_cc w.k V.1
      let τ0 := up2 (up2 σ 8 0 0) 8 0 0
      have r0 : RQ τ0 σ := (r.c (s := 0)).c (s := 0)
      have c0 : CM n τ0 L := (c.c 0).c 0
      have hfm := rf_1 w r0 w.k (nI (j + 1)) N 0 40 (by omega) (by have := w.1.2; omega)
      have hiff : (∃ i ∈ Fw (τ0 13) (nI (j + 1)) 0 N, hv σ i = 0) ↔ ∃ x ∈ L j, hv σ x = 0 := by
        have p := (r0.sl w c0 hj).perm
        constructor
        · rintro ⟨i, q1, q2⟩; exact ⟨i, p.mem_iff.mp q1, q2⟩
        · rintro ⟨i, q1, q2⟩; exact ⟨i, p.mem_iff.mpr q1, q2⟩
      simp only [hiff] at hfm
      have cls : f_X3_release σ (nI (j + 1)) = if ∃ x ∈ L j, hv σ x = 0 then some (iv 1, σ) else ri (f_X3_lackedGood σ (nI (j + 1)) 0) (fun x5_ => if x5_ = (-1) then some (iv 0, (up2 σ (58 + 2 * j) 3 1)) else some (iv 2, σ)) := by
        rw [f_X3_release, e, qp_p, if_pos (kd_w hj), f_X3_requirePlanned, if_pos h, qv_n, hfc, ri_s]
        by_cases q : ∃ x ∈ L j, hv σ x = 0
        · rw [if_pos q, if_pos q, if_pos rfl]
        · rw [if_neg q, if_neg q, if_neg (by decide)]
      have mdl : ∀ τ : St, RQ τ σ → f_X4_isWave τ (nI (j + 1)) = some (iv 1) → f_X4_release τ (nI (j + 1)) = f_X4_release_53 (nI (j + 1)) 40 (up2 (up2 τ 8 0 0) 8 0 0) 0 := by
        intro τ rt et
        rw [f_X4_release, et, ri_s, if_neg (by decide), f_X4_release_14, c8, if_pos rfl, if_neg (pz_in (by omega) (by omega)), pz_N (by omega), up2_ap (by decide), rt.1.2.2.2 j hj, if_pos h, f_X4_release_39, f_X4_release_42, c8, if_pos (by decide)]
      by_cases hf : ∃ x ∈ L j, hv σ x = 0
      · refine ⟨iv 1, σ, 0, 1, τ0, ?_, ?_, AgI.s, rfl, two 0⟩
        · rw [cls, if_pos hf]
        · rw [mdl σ r em]
          rw [if_pos hf] at hfm; exact hfm
      · rw [if_neg hf] at hfm cls
        obtain ⟨v, e1, e2⟩ := rl_1 w r0 c0 hj 10 0 40 (by omega) (by omega)
        have e1' : f_X3_lackedGood σ (nI (j + 1)) 0 = some (iv v) := e1
        rw [e1', ri_s] at cls
        rcases e2 with ⟨hv1, e2⟩ | ⟨hv1, e2⟩
        · rw [if_pos hv1] at cls
          let σ1 := up2 σ (58 + 2 * j) 3 1
          have em1 : eM σ σ1 := eM.up (by omega)
          -- the reference runs where the class has written
          have w1 : WF σ1 N M K L := by
            obtain ⟨w1, w2, w3, w4, w5, w6, w7⟩ := w
            have og : ∀ p, p < 58 → σ1 p = σ p := fun p hp => up2_ne (by omega)
            refine ⟨by rw [og 0 (by omega)]; exact w1, by rw [og 0 (by omega)]; exact w2, by rw [og 1 (by omega)]; exact w3, by rw [og 0 (by omega)]; exact w4, fun i hi => ?_, by rw [og 5 (by omega)]; exact w6, fun k hk => ?_⟩
            · unfold OW; rw [og _ (by omega), og _ (by omega)]; exact w5 i hi
            · obtain ⟨v1, v2, v3, v4⟩ := w7 k hk
              refine ⟨⟨?_, v1.2.1, ?_, v1.2.2.2⟩, v2, fun i => ?_, fun i hi => ?_⟩
              · show up2 σ (58 + 2 * j) 3 1 (58 + 2 * k) 1 = _
                rw [up2_ak (by decide)]; exact v1.1
              · show ∀ q x, (L k)[q]? = some x → up2 σ (58 + 2 * j) 3 1 (58 + 2 * k + 1) q = nI x
                intro q x hq
                rw [up2_ap (by omega)]; exact v1.2.2.1 q x hq
              · have hi16 : i < 16 ∨ 16 ≤ i := by omega
                rcases hi16 with q | q
                · rw [og _ (by omega)]; exact v3 i
                · constructor
                  · intro hm; have := v1.2.2.2 i hm; omega
                  · rintro ⟨q1, _⟩; omega
              · have := v1.2.2.2 i hi
                rw [og _ (by omega)]
                show _ = up2 σ (58 + 2 * j) 3 1 (58 + 2 * k) 2
                rw [up2_ak (by decide)]; exact v4 i hi
          let σ2 := up2 (up2 (up2 σ1 8 0 0) 8 0 0) 20 (j + 1) 1
          have hr2 : RQ σ2 σ1 := by
            show RQ (up2 (up2 (up2 (up2 σ (58 + 2 * j) 3 1) 8 0 0) 8 0 0) 20 (j + 1) 1) (up2 σ (58 + 2 * j) 3 1)
            obtain ⟨⟨⟨ra1, ra2, ra3⟩, rb, rd, re⟩, rf, rg⟩ := id r
            refine ⟨⟨⟨?_, ?_, ?_⟩, fun i9 hi9 => ?_, fun k9 hk9 => ?_, fun j9 hj9 => ?_⟩, ?_, fun i9 hi9 => ?_⟩
            · first | assumption | (simp (disch := omega) only [up2_at, up2_ap, up2_ak]; done) | (simp (disch := omega) only [up2_at, up2_ap, up2_ak]; assumption)
            · first | assumption | (simp (disch := omega) only [up2_at, up2_ap, up2_ak]; done) | (simp (disch := omega) only [up2_at, up2_ap, up2_ak]; assumption)
            · first | assumption | (simp (disch := omega) only [up2_at, up2_ap, up2_ak]; done) | (simp (disch := omega) only [up2_at, up2_ap, up2_ak]; assumption)
            · obtain ⟨b1, b2, b3, b4, b5, b6⟩ := rb i9 hi9
              by_cases hio : i9 = j
              · subst hio
                refine ⟨?_, ?_, ?_, ?_, ?_, fun g' hg' => ?_⟩
                · first | assumption | (simp (disch := omega) only [up2_at, up2_ap, up2_ak]; done) | (simp (disch := omega) only [up2_at, up2_ap, up2_ak]; assumption)
                · first | assumption | (simp (disch := omega) only [up2_at, up2_ap, up2_ak]; done) | (simp (disch := omega) only [up2_at, up2_ap, up2_ak]; assumption)
                · first | assumption | (simp (disch := omega) only [up2_at, up2_ap, up2_ak]; done) | (simp (disch := omega) only [up2_at, up2_ap, up2_ak]; assumption)
                · first | assumption | (simp (disch := omega) only [up2_at, up2_ap, up2_ak]; done) | (simp (disch := omega) only [up2_at, up2_ap, up2_ak]; assumption)
                · first | assumption | (simp (disch := omega) only [up2_at, up2_ap, up2_ak]; done) | (simp (disch := omega) only [up2_at, up2_ap, up2_ak]; assumption)
                · have := b6 g' hg'
                  first | assumption | (simp (disch := omega) only [up2_at, up2_ap, up2_ak]; done) | (simp (disch := omega) only [up2_at, up2_ap, up2_ak]; assumption)
              · refine ⟨?_, ?_, ?_, ?_, ?_, fun g' hg' => ?_⟩
                · first | assumption | (simp (disch := omega) only [up2_at, up2_ap, up2_ak]; done) | (simp (disch := omega) only [up2_at, up2_ap, up2_ak]; assumption)
                · first | assumption | (simp (disch := omega) only [up2_at, up2_ap, up2_ak]; done) | (simp (disch := omega) only [up2_at, up2_ap, up2_ak]; assumption)
                · first | assumption | (simp (disch := omega) only [up2_at, up2_ap, up2_ak]; done) | (simp (disch := omega) only [up2_at, up2_ap, up2_ak]; assumption)
                · first | assumption | (simp (disch := omega) only [up2_at, up2_ap, up2_ak]; done) | (simp (disch := omega) only [up2_at, up2_ap, up2_ak]; assumption)
                · first | assumption | (simp (disch := omega) only [up2_at, up2_ap, up2_ak]; done) | (simp (disch := omega) only [up2_at, up2_ap, up2_ak]; assumption)
                · have := b6 g' hg'
                  first | assumption | (simp (disch := omega) only [up2_at, up2_ap, up2_ak]; done) | (simp (disch := omega) only [up2_at, up2_ap, up2_ak]; assumption)
            · obtain ⟨d1, d2, d3, d4⟩ := rd k9 hk9
              by_cases hio : k9 = j
              · subst hio
                refine ⟨?_, ?_, ?_, ?_⟩
                · first | assumption | (simp (disch := omega) only [up2_at, up2_ap, up2_ak]; done) | (simp (disch := omega) only [up2_at, up2_ap, up2_ak]; assumption)
                · first | assumption | (simp (disch := omega) only [up2_at, up2_ap, up2_ak]; done) | (simp (disch := omega) only [up2_at, up2_ap, up2_ak]; assumption)
                · first | assumption | (simp (disch := omega) only [up2_at, up2_ap, up2_ak]; done) | (simp (disch := omega) only [up2_at, up2_ap, up2_ak]; assumption)
                · first | assumption | (simp (disch := omega) only [up2_at, up2_ap, up2_ak]; done) | (simp (disch := omega) only [up2_at, up2_ap, up2_ak]; assumption)
              · refine ⟨?_, ?_, ?_, ?_⟩
                · first | assumption | (simp (disch := omega) only [up2_at, up2_ap, up2_ak]; done) | (simp (disch := omega) only [up2_at, up2_ap, up2_ak]; assumption)
                · first | assumption | (simp (disch := omega) only [up2_at, up2_ap, up2_ak]; done) | (simp (disch := omega) only [up2_at, up2_ap, up2_ak]; assumption)
                · first | assumption | (simp (disch := omega) only [up2_at, up2_ap, up2_ak]; done) | (simp (disch := omega) only [up2_at, up2_ap, up2_ak]; assumption)
                · first | assumption | (simp (disch := omega) only [up2_at, up2_ap, up2_ak]; done) | (simp (disch := omega) only [up2_at, up2_ap, up2_ak]; assumption)
            · have := re j9 hj9
              by_cases hio : j9 = j
              · subst hio
                first | assumption | (simp (disch := omega) only [up2_at, up2_ap, up2_ak]; done) | (simp (disch := omega) only [up2_at, up2_ap, up2_ak]; assumption)
              · first | assumption | (simp (disch := omega) only [up2_at, up2_ap, up2_ak]; done) | (simp (disch := omega) only [up2_at, up2_ap, up2_ak]; assumption)
            · first | assumption | (simp (disch := omega) only [up2_at, up2_ap, up2_ak]; done) | (simp (disch := omega) only [up2_at, up2_ap, up2_ak]; assumption)
            · have := rg i9 hi9
              by_cases hio : i9 = j
              · subst hio
                first | assumption | (simp (disch := omega) only [up2_at, up2_ap, up2_ak]; done) | (simp (disch := omega) only [up2_at, up2_ap, up2_ak]; assumption)
              · first | assumption | (simp (disch := omega) only [up2_at, up2_ap, up2_ak]; done) | (simp (disch := omega) only [up2_at, up2_ap, up2_ak]; assumption)
          refine ⟨iv 0, σ1, 0, 0, σ2, cls, ?_, AgI.s, rfl, Inv.mk' w1 (((eC.up (by decide) (by decide)).tr (eC.up (by decide) (by decide))).tr (eC.up (by decide) (by decide))) hr2 (c.f ?_ ?_)⟩
          · have r1 : RQ σ1 σ := r.l em1
            have c1 : CM n σ1 L := by
              unfold CM; rw [em1 8 (by decide) (by decide), em1 14 (by decide) (by decide)]; exact c
            have is1 : f_X4_isWave σ1 (nI (j + 1)) = some (iv 1) := by
              rcases rw_c w r1 c1 (nI (j + 1)) with ⟨_, _, _, _, _, _, q⟩ | ⟨q, _⟩
              · exact q
              · rw [e] at q; exact absurd q (by simp)
            rw [mdl σ1 r1 is1]
            let τ1 := up2 (up2 σ1 8 0 0) 8 0 0
            have r1' : RQ τ1 σ := (r1.c (s := 0)).c (s := 0)
            have c1' : CM n τ1 L := (c1.c 0).c 0
            have hfm1 := rf_1 w r1' w.k (nI (j + 1)) N 0 40 (by omega) (by have := w.1.2; omega)
            have hiff1 : (∃ i ∈ Fw (τ1 13) (nI (j + 1)) 0 N, hv σ i = 0) ↔ ∃ x ∈ L j, hv σ x = 0 := by
              have p := (r1'.sl w c1' hj).perm
              constructor
              · rintro ⟨i, q1, q2⟩; exact ⟨i, p.mem_iff.mp q1, q2⟩
              · rintro ⟨i, q1, q2⟩; exact ⟨i, p.mem_iff.mpr q1, q2⟩
            rw [if_neg (fun q => hf (hiff1.mp q))] at hfm1
            obtain ⟨v', e1'', e2'⟩ := rl_1 w r1' c1' hj 10 0 40 (by omega) (by omega)
            have ev : v' = v := by
              have := e1''.symm.trans e1
              simpa [iv] using this
            rcases e2' with ⟨_, q⟩ | ⟨q, _⟩
            · exact hfm1.trans q
            · exact absurd (ev.trans hv1) q
          · show σ1 8 11 = _
            rw [em1 8 (by decide) (by decide)]
          · show σ1 14 = _
            rw [em1 14 (by decide) (by decide)]
        · rw [if_neg hv1] at cls
          refine ⟨iv 2, σ, 0, 2, τ0, cls, ?_, AgI.s, rfl, two 0⟩
          rw [mdl σ r em]
          exact hfm.trans e2
    · refine ⟨eS, σ, 2, 0, up2 (up2 σ 8 0 0) 8 0 2, ?_, ?_, AgI.e (by decide) (by decide), rfl, two 2⟩
      · rw [f_X3_release, e, qp_p, if_pos (kd_w hj), f_X3_requirePlanned, if_neg h, qv_e]
      · rw [f_X4_release, em, ri_s, if_neg (by decide), f_X4_release_14, c8, if_pos rfl, if_neg (pz_in (by omega) (by omega)), pz_N (by omega), up2_ap (by decide), r.1.2.2.2 j hj, if_neg h]; rfl
  · refine ⟨eN, σ, 1, 0, up2 σ 8 0 1, ?_, ?_, AgI.e (by decide) (by decide), rfl, hI.q 1⟩
    · rw [f_X3_release, e, qp_e]
    · rw [f_X4_release, em, ri_s]; rfl
