theorem to_r {μ σ τ : St} {o : Nat} {v : Int32} (ho : o < 16) (r : RQ μ σ) (t : TO σ τ o v) : RQ (up2 μ 13 o v) τ := by
  obtain ⟨⟨⟨ra1, ra2, ra3⟩, rb, rd, re⟩, rf, rg⟩ := r
  obtain ⟨t1, t2, t3, t4, t5'⟩ := t
  refine ⟨⟨⟨?_, ?_, ?_⟩, fun i hi => ?_, fun k hk => ?_, fun j hj => ?_⟩, ?_, fun i hi => ?_⟩
  · rw [t4 0 (by omega)]; exact ra1
  · rw [t4 0 (by omega)]; exact ra2
  · rw [t4 1 (by omega)]; exact ra3
  · rw [t1 i 0 hi (by omega), t1 i 1 hi (by omega), t1 i 2 hi (by omega), t1 i 3 hi (by omega), t1 i 7 hi (by omega), t3 i hi]; exact rb i hi
  · rw [t4 2 (by omega), t4 3 (by omega), t4 4 (by omega), t4 5 (by omega)]; exact rd k hk
  · rw [t5' j 3 (by decide)]; exact re j hj
  · rw [t4 0 (by omega)]; exact rf
  · by_cases q : i = o
    · subst q; rw [up2_at, t2]
    · rw [up2_ak q, t1 i 6 hi (Or.inl q)]; exact rg i hi
theorem to_cm {μ : St} {n o : Nat} {v : Int32} {L : Nat → List Nat} (c : CM n μ L) : CM n (up2 μ 13 o v) (fun j => wo o (L j)) := by
  obtain ⟨cc, h1, h2⟩ := c
  refine ⟨cc, h1, fun j hj => ⟨List.Pairwise.sublist List.filter_sublist (h2 j hj).1, fun i hi => (h2 j hj).2 i (wo_mem.mp hi).1⟩⟩
theorem TO.eM {σ τ : St} {o : Nat} {v : Int32} (t : TO σ τ o v) : eM σ τ := fun p _ h => t.2.2.2.1 p (by omega)
theorem PSchange : PS_change Inv := by
  intro n hn σ hI a1 a2
  obtain ⟨N, M, K, L, w, r, c⟩ := id hI
  have hm := io_m (r.n w) w.1.2 a1
  have hN := w.1.2
  rcases ro_c w.1.1 w.1.2 a1 with ⟨o, ho, rfl, e⟩ | ⟨hno, e⟩
  · have ho16 : o < 16 := by omega
    rw [if_pos ⟨o, ho, rfl⟩] at hm
    have two : ∀ k : Int32, Inv (n + 4) (up2 (up2 σ 8 0 0) 8 0 k) := fun k => by
      rw [show up2 (up2 σ 8 0 0) 8 0 k = up2 σ 8 0 k by funext p k; grind [up2_d]]; exact hI.q k
    by_cases h2 : 0 ≤ a2 ∧ a2 ≤ 100000
    · by_cases h3 : σ (26 + 2 * o) 6 = -1
      · refine ⟨eS, σ, 3, 0, up2 (up2 σ 8 0 0) 8 0 3, ?_, ?_, AgI.e (by decide) (by decide), rfl, two 3⟩
        · rw [f_X3_change, e, qp_p, if_pos (kd_o ho16), rr_c, if_pos h2, qv_n, if_pos h3]
        · rw [f_X4_change, hm, ri_s, if_neg (by decide), ti_m, if_pos h2, ri_s, if_neg (by decide), f_X4_change_25, c8, if_pos rfl, if_neg (pz_in ho16 (by omega)), pz_N (by omega), up2_ap (by decide), r.2.2 o ho16, if_pos h3]; rfl
      · by_cases h4 : σ (26 + 2 * o) 7 = 0
        · -- the due time is set
          let σa := up2 σ (26 + 2 * o) 0 a2
          have ema : eM σ σa := eM.up (by omega)
          have wa : WF σa N M K L := by
            show WF (up2 σ (26 + 2 * o) 0 a2) N M K L
            obtain ⟨w1, w2, w3, w4, w5, w6, w7⟩ := w
            refine ⟨by rw [up2_ap (by omega)]; exact w1, by rw [up2_ap (by omega)]; exact w2, by rw [up2_ap (by omega)]; exact w3, by rw [up2_ap (by omega)]; exact w4, fun i hi => ?_, by rw [up2_ne (by omega)]; exact w6, fun j hj => ?_⟩
            · unfold OW; rw [up2_ak (by decide), up2_ak (by decide), up2_ne (show 26 + 2 * i + 1 ≠ 26 + 2 * o by omega), up2_ak (by decide), up2_ak (by decide)]; exact w5 i hi
            · obtain ⟨v1, v2, v3, v4⟩ := w7 j hj
              exact ⟨v1.f (up2_ne (by omega)) (up2_ne (by omega)), v2, fun i => by rw [up2_ak (by decide)]; exact v3 i, fun i hi => by rw [up2_ak (by decide), up2_ap (by omega)]; exact v4 i hi⟩
          have p6 : σa (26 + 2 * o) 6 = σ (26 + 2 * o) 6 := up2_ak (by decide)
          have p3 : σa (26 + 2 * o) 3 = σ (26 + 2 * o) 3 := up2_ak (by decide)
          have p0 : σa (26 + 2 * o) 0 = a2 := up2_at
          -- the reference, behind any state of the class
          have mdl : ∀ τ : St, eM σ τ → RQ (up2 (up2 (up2 τ 8 0 0) 8 0 0) 9 o a2) σa ∧ CM n (up2 (up2 (up2 τ 8 0 0) 8 0 0) 9 o a2) L ∧ f_X4_change τ (nI o) a2 = f_X4_change_63 (up2 (up2 τ 8 0 0) 8 0 0) (nI o) a2 := by
            intro τ et
            have rt : RQ τ σ := r.l et
            have hmt := io_m (rt.n w) w.1.2 (nI o)
            rw [if_pos ⟨o, ho, rfl⟩] at hmt
            refine ⟨?_, ?_, ?_⟩
            · obtain ⟨⟨⟨ra1, ra2, ra3⟩, rb, rd, re⟩, rf, rg⟩ := id rt
              refine ⟨⟨⟨?_, ?_, ?_⟩, fun i hi => ?_, fun k hk => ?_, fun j hj => ?_⟩, ?_, fun i hi => ?_⟩
              · exact ra1.trans (up2_ap (by omega)).symm
              · exact ra2.trans (up2_ap (by omega)).symm
              · exact ra3.trans (up2_ap (by omega)).symm
              · obtain ⟨b1, b2, b3, b4, b5, b6⟩ := rb i hi
                refine ⟨?_, b2.trans (up2_ak (by decide)).symm, b3.trans (up2_ak (by decide)).symm, b4.trans (up2_ak (by decide)).symm, b5.trans (up2_ak (by decide)).symm, fun g hg => (b6 g hg).trans (up2_ap (by omega)).symm⟩
                by_cases q : i = o
                · subst q; rw [up2_at, p0]
                · rw [up2_ak q]
                  exact b1.trans (up2_ap (by omega)).symm
              · obtain ⟨d1, d2, d3, d4⟩ := rd k hk
                exact ⟨d1.trans (up2_ap (by omega)).symm, d2.trans (up2_ap (by omega)).symm, d3.trans (up2_ap (by omega)).symm, d4.trans (up2_ap (by omega)).symm⟩
              · exact (re j hj).trans (up2_ap (by omega)).symm
              · exact rf.trans (up2_ap (by omega)).symm
              · exact (rg i hi).trans (up2_ak (by decide)).symm
            · have : CM n τ L := by
                unfold CM; rw [et 8 (by decide) (by decide), et 14 (by decide) (by decide)]; exact c
              exact this
            · rw [f_X4_change, hmt, ri_s, if_neg (by decide), ti_m, if_pos h2, ri_s, if_neg (by decide), f_X4_change_25, c8, if_pos rfl, if_neg (pz_in ho16 (by omega)), pz_N (by omega), up2_ap (by decide), rt.2.2 o ho16, if_neg h3, up2_ap (by decide), (rt.1.2.1 o ho16).2.2.2.2.1, if_pos h4, f_X4_change_60]
          have cls : f_X3_change σ (nI o) a2 = (if σ (26 + 2 * o) 6 = 0 then f_X3_change_70 σa (nI o) else ri (f_X3_isReleased σa (26 + 2 * o)) (fun x6_ => if x6_ = 0 then ri (f_X3_fits σa (26 + 2 * o)) (fun x8_ => if x8_ = 0 then nv (f_X3_takeOut σa (nI o) 0) (fun σ11 => some (iv 1, σ11)) else f_X3_change_70 σa (nI o)) else f_X3_change_70 σa (nI o))) := by
            rw [f_X3_change, e, qp_p, if_pos (kd_o ho16), rr_c, if_pos h2, qv_n, if_neg h3, if_pos h4]
            have : up2 σ (26 + 2 * o) 0 a2 (26 + 2 * o) 6 = σ (26 + 2 * o) 6 := up2_ak (by decide)
            rw [this]
          have stay : ∀ μ : St, μ = up2 (up2 (up2 σa 8 0 0) 8 0 0) 9 o a2 → Inv (n + 4) μ := by
            intro μ hμ
            obtain ⟨m1, m2, m3⟩ := mdl σa ema
            subst hμ
            refine Inv.mk' wa (((eC.up (by decide) (by decide)).tr (eC.up (by decide) (by decide))).tr (eC.up (by decide) (by decide))) m1 ?_
            obtain ⟨cc, h1, h2⟩ := m2
            exact ⟨cc, ⟨h1.1, by omega⟩, h2⟩
          obtain ⟨m1, m2, m3⟩ := mdl σa ema
          have m4 : f_X4_change_63 (up2 (up2 σa 8 0 0) 8 0 0) (nI o) a2 = (if σ (26 + 2 * o) 6 ≤ 0 then f_X4_change_133 (up2 (up2 (up2 σa 8 0 0) 8 0 0) 9 o a2) (nI o) else f_X4_change_111 (up2 (up2 (up2 σa 8 0 0) 8 0 0) 9 o a2) (nI o) a2 (σ (26 + 2 * o) 6)) := by
            rw [f_X4_change_63, c8, if_pos (by decide), if_neg (pz_in ho16 (by omega)), pz_N (by omega), m1.2.2 o ho16, p6]
            by_cases q : σ (26 + 2 * o) 6 ≤ 0
            · rw [if_pos q, if_pos q]
            · rw [if_neg q, if_neg q, if_neg q]
          rcases ir_c wa ho16 with ⟨j, hjM, hj, hp, hir⟩ | ⟨hp, hir⟩
          · rw [p6] at hp
            have hp0 : ¬ σ (26 + 2 * o) 6 = 0 := by rw [hp]; intro q; exact absurd ((pz_eq (a := j + 1) (b := 0) (by omega) (by omega)).mp q) (by omega)
            have hp1 : ¬ σ (26 + 2 * o) 6 ≤ 0 := by rw [hp]; intro q; exact absurd ((pz_le (a := j + 1) (b := 0) (by omega) (by omega)).mp q) (by omega)
            rw [if_neg hp0, hir, ri_s] at cls
            rw [if_neg hp1, hp] at m4
            have rj : σa (58 + 2 * j) 3 = σ (58 + 2 * j) 3 := up2_ap (by omega)
            have hfm : f_X4_fits (up2 (up2 (up2 σa 8 0 0) 8 0 0) 9 o a2) (up2 (up2 (up2 σa 8 0 0) 8 0 0) 9 o a2 12 o) a2 = some (iv (hv σa o)) := by
              have := ft_m m1.1 wa.k ho16
              rw [show up2 (up2 (up2 σa 8 0 0) 8 0 0) 9 o a2 9 o = a2 from up2_at] at this
              exact this
            have m5 : f_X4_change_111 (up2 (up2 (up2 σa 8 0 0) 8 0 0) 9 o a2) (nI o) a2 (nI (j + 1)) = if σa (58 + 2 * j) 3 = 0 then (if hv σa o = 0 then f_X4_change_134 (up2 (up2 (up2 σa 8 0 0) 8 0 0) 9 o a2) (nI o) 1 else f_X4_change_133 (up2 (up2 (up2 σa 8 0 0) 8 0 0) 9 o a2) (nI o)) else f_X4_change_133 (up2 (up2 (up2 σa 8 0 0) 8 0 0) 9 o a2) (nI o) := by
              rw [f_X4_change_111, if_neg (pz_in (by omega) (by omega)), pz_N (by omega), m1.1.2.2.2 j hj, if_neg (pz_in ho16 (by omega)), pz_N (by omega), hfm, ri_s]
            by_cases q1 : σa (58 + 2 * j) 3 = 0
            · rw [if_pos q1] at cls m5
              rw [if_pos rfl, ft_c σa wa.k o, ri_s] at cls
              by_cases q2 : hv σa o = 0
              · rw [if_pos q2] at m5 cls
                obtain ⟨σ1, t1, t2, t3⟩ := to_c wa ho (v := 0) (Or.inr rfl)
                rw [t1, nv_s] at cls
                have em1 : eM σ σ1 := ema.tr t3.eM
                obtain ⟨m1', m2', m3'⟩ := mdl σ1 em1
                let μ1 := up2 (up2 (up2 σ1 8 0 0) 8 0 0) 9 o a2
                have hfm' : f_X4_fits μ1 (μ1 12 o) a2 = some (iv (hv σa o)) := by
                  have := ft_m m1'.1 wa.k ho16
                  rw [show up2 (up2 (up2 σ1 8 0 0) 8 0 0) 9 o a2 9 o = a2 from up2_at] at this
                  exact this
                refine ⟨iv 1, σ1, 0, 1, up2 μ1 13 o 0, cls, ?_, AgI.s, rfl, Inv.mk' t2 ((((eC.up (by decide) (by decide)).tr (eC.up (by decide) (by decide))).tr (eC.up (by decide) (by decide))).tr (eC.up (by decide) (by decide))) (to_r ho16 m1' t3) ?_⟩
                · rw [m3', f_X4_change_63, c8, if_pos (by decide), if_neg (pz_in ho16 (by omega)), pz_N (by omega), m1'.2.2 o ho16, p6, if_neg hp1, if_neg hp1, hp, f_X4_change_111, if_neg (pz_in (by omega) (by omega)), pz_N (by omega), m1'.1.2.2.2 j hj, if_pos q1, if_neg (pz_in ho16 (by omega)), pz_N (by omega), hfm', ri_s, if_pos q2, f_X4_change_134, if_neg (by decide), if_neg (pz_in ho16 (by omega)), pz_N (by omega)]; rfl
                · obtain ⟨cc, h1, h2⟩ := to_cm (o := o) (v := 0) m2'
                  exact ⟨cc, ⟨h1.1, by omega⟩, h2⟩
              · rw [if_neg q2] at m5 cls
                refine ⟨iv 0, σa, 0, 0, _, cls, ?_, AgI.s, rfl, stay _ rfl⟩
                rw [m3, m4, m5]; rfl
            · rw [if_neg q1] at cls m5
              rw [if_neg (by decide)] at cls
              refine ⟨iv 0, σa, 0, 0, _, cls, ?_, AgI.s, rfl, stay _ rfl⟩
              rw [m3, m4, m5]; rfl
          · rw [p6] at hp
            have hp0 : σ (26 + 2 * o) 6 = 0 := by rcases hp with q | q; exact absurd q h3; exact q
            rw [if_pos hp0] at cls
            rw [if_pos (by rw [hp0]; decide)] at m4
            refine ⟨iv 0, σa, 0, 0, _, cls, ?_, AgI.s, rfl, stay _ rfl⟩
            rw [m3, m4]; rfl
        · refine ⟨eS, σ, 3, 0, up2 (up2 σ 8 0 0) 8 0 3, ?_, ?_, AgI.e (by decide) (by decide), rfl, two 3⟩
          · rw [f_X3_change, e, qp_p, if_pos (kd_o ho16), rr_c, if_pos h2, qv_n, if_neg h3, if_neg h4]
          · rw [f_X4_change, hm, ri_s, if_neg (by decide), ti_m, if_pos h2, ri_s, if_neg (by decide), f_X4_change_25, c8, if_pos rfl, if_neg (pz_in ho16 (by omega)), pz_N (by omega), up2_ap (by decide), r.2.2 o ho16, if_neg h3, up2_ap (by decide), (r.1.2.1 o ho16).2.2.2.2.1, if_neg h4]; rfl
    · refine ⟨eA, σ, 2, 0, up2 σ 8 0 2, ?_, ?_, AgI.e (by decide) (by decide), rfl, hI.q 2⟩
      · rw [f_X3_change, e, qp_p, if_pos (kd_o ho16), rr_c, if_neg h2, qv_e]
      · rw [f_X4_change, hm, ri_s, if_neg (by decide), ti_m, if_neg h2]; rfl
  · refine ⟨eN, σ, 1, 0, up2 σ 8 0 1, ?_, ?_, AgI.e (by decide) (by decide), rfl, hI.q 1⟩
    · rw [f_X3_change, e, qp_e]
    · rw [f_X4_change, hm, if_neg hno]; rfl
theorem cu_1 {N M K n0 : Nat} (x1 x2 : Int32) : ∀ d k n s τ μ L, k + d = N → d < n → WF τ N M K L → RQ μ τ → CM n0 μ L → ∃ v τ' μ' L', f_X3_cutoff_18 x1 x2 n τ s (nI k) = some (iv v, τ') ∧ f_X4_cutoff_39 x1 x2 n μ s (nI k) = some (iv v, μ') ∧ WF τ' N M K L' ∧ RQ μ' τ' ∧ CM n0 μ' L' ∧ eM τ τ' ∧ eC μ μ' ∧ μ' 8 = μ 8 := by
  intro d
  induction d with
  | zero =>
    intro k n s τ μ L hk hn w r c
    have hN := w.1.2
    obtain ⟨n, rfl⟩ : ∃ m, n = m + 1 := ⟨n - 1, by omega⟩
    simp only [f_X3_cutoff_18, f_X4_cutoff_39]
    rw [if_pos (show τ 0 4 ≤ nI k by rw [w.1.1, pz_le (by omega) (by omega)]; omega), if_pos (show μ 8 2 ≤ nI k by rw [r.n w, pz_le (by omega) (by omega)]; omega)]
    exact ⟨s, τ, μ, L, rfl, rfl, w, r, c, eM.rf, eC.rf, rfl⟩
  | succ d ih =>
    intro k n s τ μ L hk hn w r c
    have hN := w.1.2
    obtain ⟨n, rfl⟩ : ∃ m, n = m + 1 := ⟨n - 1, by omega⟩
    have hk16 : k < 16 := by omega
    have go := ih (k + 1) n s τ μ L (by omega) (by omega) w r c
    have g : ¬ (nI k < 0 ∨ 16 ≤ k) := by have := pz_in (b := 16) (k := k) (by omega) (by omega); rwa [pz_N (by omega)] at this
    simp only [f_X3_cutoff_18, f_X4_cutoff_39]
    rw [if_neg (show ¬ τ 0 4 ≤ nI k by rw [w.1.1, pz_le (by omega) (by omega)]; omega), if_neg (show ¬ μ 8 2 ≤ nI k by rw [r.n w, pz_le (by omega) (by omega)]; omega)]
    simp only [pz_s, pz_N (show k < 2147483648 by omega), if_neg g, r.2.2 k hk16, (r.1.2.1 k hk16).2.2.2.1, (r.1.2.1 k hk16).1]
    by_cases q1 : τ (26 + 2 * k) 3 = x1
    · simp only [if_pos q1]
      by_cases q2 : x2 < τ (26 + 2 * k) 0
      · simp only [if_pos q2]; exact go
      · simp only [if_neg q2]
        by_cases q3 : τ (26 + 2 * k) 6 = -1
        · simp only [if_pos q3]; exact go
        · simp only [if_neg q3]
          obtain ⟨τ1, t1, t2, t3⟩ := to_c w (o := k) (by omega) (v := -1) (Or.inl rfl)
          have out : ∃ v τ' μ' L', f_X3_cutoff_18 x1 x2 n τ1 (s + 1) (nI (k + 1)) = some (iv v, τ') ∧ f_X4_cutoff_39 x1 x2 n (up2 μ 13 k (-1)) (s + 1) (nI (k + 1)) = some (iv v, μ') ∧ WF τ' N M K L' ∧ RQ μ' τ' ∧ CM n0 μ' L' ∧ eM τ τ' ∧ eC μ μ' ∧ μ' 8 = μ 8 := by
            obtain ⟨v, τ', μ', L', a1, a2, a3, a4, a5, a6, a7, a8⟩ := ih (k + 1) n (s + 1) τ1 (up2 μ 13 k (-1)) (fun j => wo k (L j)) (by omega) (by omega) t2 (to_r hk16 r t3) (to_cm c)
            exact ⟨v, τ', μ', L', a1, a2, a3, a4, a5, t3.eM.tr a6, (eC.up (by decide) (by decide)).tr a7, a8⟩
          rcases ir_c w hk16 with ⟨j, hjM, hj, hp, hir⟩ | ⟨hp, hir⟩
          · have hp1 : ¬ τ (26 + 2 * k) 6 ≤ 0 := by rw [hp]; intro q; exact absurd ((pz_le (a := j + 1) (b := 0) (by omega) (by omega)).mp q) (by omega)
            simp only [if_neg hp1, hir, ri_s]
            rw [hp, if_neg (show ¬ (nI (j + 1) < 0 ∨ 17 ≤ (nI (j + 1)).toNatClampNeg) from pz_in (by omega) (by omega)), pz_N (show j + 1 < 2147483648 by omega), r.1.2.2.2 j hj]
            by_cases q4 : τ (58 + 2 * j) 3 = 0
            · simp only [if_pos q4, if_true, t1, nv_s]; exact out
            · simp only [if_neg q4, if_neg (show ¬ (1 : Int32) = 0 by decide)]; exact go
          · have hp0 : τ (26 + 2 * k) 6 = 0 := by rcases hp with q | q; exact absurd q q3; exact q
            have hp1 : τ (26 + 2 * k) 6 ≤ 0 := by rw [hp0]; decide
            simp only [if_pos hp1, hir, ri_s, if_true, t1, nv_s]; exact out
    · simp only [if_neg q1]; exact go
theorem PScutoff : PS_cutoff Inv := by
  intro n hn σ hI a1 a2
  obtain ⟨N, M, K, L, w, r, c⟩ := id hI
  have hN := w.1.2
  by_cases h1 : 0 ≤ a1 ∧ a1 ≤ 3
  · by_cases h2 : 0 ≤ a2 ∧ a2 ≤ 100000
    · obtain ⟨v, σ1, _, _, b1, _, _, _, _, b6, _, _⟩ := cu_1 a1 a2 N 0 40 0 σ (up2 σ 8 0 0) L (by omega) (by omega) w r.c (c.c 0)
      have r1 : RQ (up2 σ1 8 0 0) σ := (r.l b6).c
      have c1 : CM n (up2 σ1 8 0 0) L := by
        have : CM n σ1 L := by
          unfold CM; rw [b6 8 (by decide) (by decide), b6 14 (by decide) (by decide)]; exact c
        exact this.c 0
      obtain ⟨v', σ1', μ', L', a1', a2', a3, a4, a5, a6, a7, a8⟩ := cu_1 a1 a2 N 0 40 0 σ (up2 σ1 8 0 0) L (by omega) (by omega) w r1 c1
      have := a1'.symm.trans b1
      simp only [Option.some.injEq, Prod.mk.injEq, Sum.inl.injEq] at this
      obtain ⟨e1, e2⟩ := this
      subst e1; subst e2
      refine ⟨iv v', σ1', 0, v', μ', ?_, ?_, AgI.s, by rw [a8]; rfl, Inv.mk' a3 ((eC.up (by decide) (by decide)).tr a7) a4 ?_⟩
      · rw [f_X3_cutoff, rr_c, if_pos h1, qv_n, rr_c, if_pos h2, qv_n]; exact a1'
      · rw [f_X4_cutoff, in_m, if_pos h1, ri_s, if_neg (by decide), ti_m, if_pos h2, ri_s, if_neg (by decide), f_X4_cutoff_22, c8, if_pos (by decide)]; exact a2'
      · obtain ⟨cc, z1, z2⟩ := a5
        exact ⟨cc, ⟨z1.1, by omega⟩, z2⟩
    · refine ⟨eA, σ, 1, 0, up2 σ 8 0 1, ?_, ?_, AgI.e (by decide) (by decide), rfl, hI.q 1⟩
      · rw [f_X3_cutoff, rr_c, if_pos h1, qv_n, rr_c, if_neg h2, qv_e]
      · rw [f_X4_cutoff, in_m, if_pos h1, ri_s, if_neg (by decide), ti_m, if_neg h2]; rfl
  · refine ⟨eA, σ, 1, 0, up2 σ 8 0 1, ?_, ?_, AgI.e (by decide) (by decide), rfl, hI.q 1⟩
    · rw [f_X3_cutoff, rr_c, if_neg h1, qv_e]
    · rw [f_X4_cutoff, in_m, if_neg h1]; rfl
