theorem PSorder : PS_order Inv := by
  intro n hn σ hI a1 a2 a3
  obtain ⟨N, M, K, L, w, r, c⟩ := id hI
  have hN := w.1.2
  have fail : ¬ ((0 ≤ a1 ∧ a1 ≤ 100000) ∧ (0 ≤ a2 ∧ a2 ≤ 7) ∧ (1 ≤ a3 ∧ a3 ≤ 10000)) → f_X3_order σ a1 a2 a3 = some (eA, σ) ∧ f_X4_order σ a1 a2 a3 = some (iv 0, up2 σ 8 0 1) := by
    intro h
    simp only [f_X3_order, f_X4_order, rr_c, ti_m, in_m, ri_s]
    by_cases h1 : 0 ≤ a1 ∧ a1 ≤ 100000
    · by_cases h2 : 0 ≤ a2 ∧ a2 ≤ 7
      · have h3 : ¬ (1 ≤ a3 ∧ a3 ≤ 10000) := fun q => h ⟨h1, h2, q⟩
        rw [if_pos h1, if_pos h2, if_neg h3, if_pos h1, if_pos h2, if_neg h3]; exact ⟨rfl, rfl⟩
      · rw [if_pos h1, if_neg h2, if_pos h1, if_neg h2]; exact ⟨rfl, rfl⟩
    · rw [if_neg h1, if_neg h1]; exact ⟨rfl, rfl⟩
  by_cases h : (0 ≤ a1 ∧ a1 ≤ 100000) ∧ (0 ≤ a2 ∧ a2 ≤ 7) ∧ (1 ≤ a3 ∧ a3 ≤ 10000)
  · obtain ⟨h1, h2, h3⟩ := h
    by_cases h4 : N < 16
    · obtain ⟨z, hz, rfl⟩ := pz_ex (x := a2) (by grind)
      obtain ⟨s, hs, rfl⟩ := pz_ex (x := a3) (by grind)
      have hz : z < 8 := by have := (pz_le hz (by decide : 7 < 2147483648)).mp h2.2; omega
      have hs : s ≤ 10000 := (pz_le hs (by decide : 10000 < 2147483648)).mp h3.2
      have hN2 : σ 8 2 = nI N := r.n w
      let σ1 := up2 (up2 (up2 (up2 σ (26 + 2 * N) 0 a1) (26 + 2 * N) 1 (nI z)) (26 + 2 * N) 2 (nI s)) 0 4 (nI (N + 1))
      have e1 : f_X3_order σ a1 (nI z) (nI s) = some (iv (nI N), σ1) := by
        simp only [f_X3_order, rr_c]
        rw [if_pos h1, if_pos h2, if_pos h3]
        simp only [qv_n, w.1.1]
        rw [if_pos (show nI N < 16 from (pz_lt (by omega) (by decide : 16 < 2147483648)).mpr h4), if_neg (pz_in h4 (by omega)), pz_N (by omega), up2_at, up2_ap (by omega), up2_ap (by omega), up2_ap (by omega), w.1.1, pz_s]
        rw [show nI (N + 1) - 1 = nI N by rw [← pz_s]; grind]
      have hM2 : σ1 8 2 = nI N := by
        show up2 (up2 (up2 σ (26 + 2 * N) 0 a1) (26 + 2 * N) 1 (nI z)) (26 + 2 * N) 2 (nI s) 8 2 = _
        rw [up2_ap (by omega), up2_ap (by omega), up2_ap (by omega), hN2]
      let σ2 := up2 (up2 (up2 (up2 (up2 σ1 8 0 0) 9 N a1) 10 N (nI z)) 11 N (nI s)) 8 2 (nI (N + 1))
      have e2 : f_X4_order σ1 a1 (nI z) (nI s) = some (iv (nI N), σ2) := by
        simp only [f_X4_order, ti_m, in_m, ri_s]
        rw [if_pos h1, if_pos h2, if_pos h3, if_neg (by decide), if_neg (by decide), if_neg (by decide), hM2, if_neg (fun q => by rw [show (16 : Int32) = nI 16 from rfl, pz_eq (by omega) (by decide)] at q; omega), f_X4_order_47, c8, if_pos (by decide)]
        have q1 : up2 σ1 8 0 0 8 2 = nI N := hM2
        rw [q1, pz_N (by omega)]
        have q2 : up2 (up2 σ1 8 0 0) 9 N a1 8 2 = nI N := hM2
        rw [q2, pz_N (by omega)]
        have q3 : up2 (up2 (up2 σ1 8 0 0) 9 N a1) 10 N (nI z) 8 2 = nI N := hM2
        rw [q3, pz_N (by omega)]
        have q4 : up2 (up2 (up2 (up2 σ1 8 0 0) 9 N a1) 10 N (nI z)) 11 N (nI s) 8 2 = nI N := hM2
        rw [q4, if_neg (show ¬ (nI N < 0 ∨ 16 ≤ N) by have := pz_in h4 (by omega : 16 ≤ 1000); rw [pz_N (by omega)] at this; exact this), up2_at, pz_s]
        simp only [if_neg (show ¬ (nI N < 0 ∨ 16 ≤ N) by have := pz_in h4 (by omega : 16 ≤ 1000); rw [pz_N (by omega)] at this; exact this)]
        rw [show nI (N + 1) - 1 = nI N by rw [← pz_s]; grind]
      refine ⟨_, σ1, 0, _, σ2, e1, e2, AgI.s, rfl, Inv.mk' (N := N + 1) (M := M) (K := K) (L := L) (σ := σ1) ?_ (((((eC.up (by decide) (by decide)).tr (eC.up (by decide) (by decide))).tr (eC.up (by decide) (by decide))).tr (eC.up (by decide) (by decide))).tr (eC.up (by decide) (by decide))) ?_ (c.f ?_ ?_)⟩
      · obtain ⟨w1, w2, w3, w4, w5, w6, w7⟩ := w
        have o6 : ∀ i, σ1 (26 + 2 * i) 6 = σ (26 + 2 * i) 6 := fun i => by grind [up2_d]
        have o3 : ∀ i, σ1 (26 + 2 * i) 3 = σ (26 + 2 * i) 3 := fun i => by grind [up2_d]
        have o4 : ∀ i, σ1 (26 + 2 * i) 4 = σ (26 + 2 * i) 4 := fun i => by grind [up2_d]
        have ow : ∀ i, σ1 (26 + 2 * i + 1) = σ (26 + 2 * i + 1) := fun i => by
          show up2 (up2 (up2 (up2 σ (26 + 2 * N) 0 a1) (26 + 2 * N) 1 (nI z)) (26 + 2 * N) 2 (nI s)) 0 4 (nI (N + 1)) (26 + 2 * i + 1) = _
          rw [up2_ne (by omega), up2_ne (by omega), up2_ne (by omega), up2_ne (by omega)]
        have og : ∀ p, 58 ≤ p → σ1 p = σ p := fun p hp => by
          show up2 (up2 (up2 (up2 σ (26 + 2 * N) 0 a1) (26 + 2 * N) 1 (nI z)) (26 + 2 * N) 2 (nI s)) 0 4 (nI (N + 1)) p = _
          rw [up2_ne (by omega), up2_ne (by omega), up2_ne (by omega), up2_ne (by omega)]
        refine ⟨⟨by grind [up2_d], by omega⟩, by grind [up2_d], by grind [up2_d], by obtain ⟨cc, c1, c2⟩ := w4; exact ⟨cc, c1, by grind [up2_d]⟩, fun i hi => ?_, fun g hg => ?_, fun j hj => ?_⟩
        · obtain ⟨a, b, cc, d, e, f⟩ := w5 i hi
          unfold OW
          rw [o6, o4, ow]
          refine ⟨?_, ?_, cc, d, e, fun q => f (by omega)⟩
          · by_cases q : i = N
            · subst q; exact ⟨z, hz, by grind [up2_d]⟩
            · obtain ⟨z', q1, q2⟩ := a; exact ⟨z', q1, by grind [up2_d]⟩
          · by_cases q : i = N
            · subst q; exact ⟨s, hs, by grind [up2_d]⟩
            · obtain ⟨z', q1, q2⟩ := b; exact ⟨z', q1, by grind [up2_d]⟩
        · obtain ⟨t, t1, t2⟩ := w6 g hg
          exact ⟨t, t1, by grind [up2_d]⟩
        · obtain ⟨v1, v2, v3, v4⟩ := w7 j hj
          refine ⟨v1.f (og _ (by omega)) (og _ (by omega)), v2, fun i => ?_, fun i hi => ?_⟩
          · rw [o6, v3 i]
            constructor
            · rintro ⟨q1, q2⟩; exact ⟨by omega, q2⟩
            · rintro ⟨q1, q2⟩
              refine ⟨?_, q2⟩
              rcases Nat.lt_or_ge i N with q | q
              · exact q
              · have := (w5 i (by omega)).2.2.2.2.2 q
                rw [this] at q2
                exact absurd ((pz_eq (a := 0) (b := j + 1) (by omega) (by omega)).mp q2) (by omega)
          · rw [o3, og _ (by omega)]; exact v4 i hi
      · show RQ (up2 (up2 (up2 (up2 (up2 (up2 (up2 (up2 (up2 σ (26 + 2 * N) 0 a1) (26 + 2 * N) 1 (nI z)) (26 + 2 * N) 2 (nI s)) 0 4 (nI (N + 1))) 8 0 0) 9 N a1) 10 N (nI z)) 11 N (nI s)) 8 2 (nI (N + 1))) (up2 (up2 (up2 (up2 σ (26 + 2 * N) 0 a1) (26 + 2 * N) 1 (nI z)) (26 + 2 * N) 2 (nI s)) 0 4 (nI (N + 1)))
        obtain ⟨⟨⟨ra1, ra2, ra3⟩, rb, rd, re⟩, rf, rg⟩ := id r
        refine ⟨⟨⟨?_, ?_, ?_⟩, fun i9 hi9 => ?_, fun k9 hk9 => ?_, fun j9 hj9 => ?_⟩, ?_, fun i9 hi9 => ?_⟩
        · first | assumption | (simp (disch := omega) only [up2_at, up2_ap, up2_ak]; done) | (simp (disch := omega) only [up2_at, up2_ap, up2_ak]; assumption)
        · first | assumption | (simp (disch := omega) only [up2_at, up2_ap, up2_ak]; done) | (simp (disch := omega) only [up2_at, up2_ap, up2_ak]; assumption)
        · first | assumption | (simp (disch := omega) only [up2_at, up2_ap, up2_ak]; done) | (simp (disch := omega) only [up2_at, up2_ap, up2_ak]; assumption)
        · obtain ⟨b1, b2, b3, b4, b5, b6⟩ := rb i9 hi9
          by_cases hio : i9 = N
          · subst hio
            refine ⟨?_, ?_, ?_, ?_, ?_, fun g' hg' => ?_⟩
            · first | assumption | (simp (disch := omega) only [up2_at, up2_ap, up2_ak]; done) | (simp (disch := omega) only [up2_at, up2_ap, up2_ak]; assumption)
            · first | assumption | (simp (disch := omega) only [up2_at, up2_ap, up2_ak]; done) | (simp (disch := omega) only [up2_at, up2_ap, up2_ak]; assumption)
            · first | assumption | (simp (disch := omega) only [up2_at, up2_ap, up2_ak]; done) | (simp (disch := omega) only [up2_at, up2_ap, up2_ak]; assumption)
            · first | assumption | (simp (disch := omega) only [up2_at, up2_ap, up2_ak]; done) | (simp (disch := omega) only [up2_at, up2_ap, up2_ak]; assumption)
            · first | assumption | (simp (disch := omega) only [up2_at, up2_ap, up2_ak]; done) | (simp (disch := omega) only [up2_at, up2_ap, up2_ak]; assumption)
            · have := b6 g' hg'
              first | assumption | (simp (disch := omega) only [up2_at, up2_ap, up2_ak]; done) | (simp (disch := omega) only [up2_at, up2_ap, up2_ak]; assumption)
          · refine ⟨?_, ?_, ?_, ?_, ?_, fun g' hg' => ?_⟩
            · first | assumption | (simp (disch := omega) only [up2_at, up2_ap, up2_ak]; done) | (simp (disch := omega) only [up2_at, up2_ap, up2_ak]; assumption)
            · first | assumption | (simp (disch := omega) only [up2_at, up2_ap, up2_ak]; done) | (simp (disch := omega) only [up2_at, up2_ap, up2_ak]; assumption)
            · first | assumption | (simp (disch := omega) only [up2_at, up2_ap, up2_ak]; done) | (simp (disch := omega) only [up2_at, up2_ap, up2_ak]; assumption)
            · first | assumption | (simp (disch := omega) only [up2_at, up2_ap, up2_ak]; done) | (simp (disch := omega) only [up2_at, up2_ap, up2_ak]; assumption)
            · first | assumption | (simp (disch := omega) only [up2_at, up2_ap, up2_ak]; done) | (simp (disch := omega) only [up2_at, up2_ap, up2_ak]; assumption)
            · have := b6 g' hg'
              first | assumption | (simp (disch := omega) only [up2_at, up2_ap, up2_ak]; done) | (simp (disch := omega) only [up2_at, up2_ap, up2_ak]; assumption)
        · obtain ⟨d1, d2, d3, d4⟩ := rd k9 hk9
          by_cases hio : k9 = N
          · subst hio
            refine ⟨?_, ?_, ?_, ?_⟩
            · first | assumption | (simp (disch := omega) only [up2_at, up2_ap, up2_ak]; done) | (simp (disch := omega) only [up2_at, up2_ap, up2_ak]; assumption)
            · first | assumption | (simp (disch := omega) only [up2_at, up2_ap, up2_ak]; done) | (simp (disch := omega) only [up2_at, up2_ap, up2_ak]; assumption)
            · first | assumption | (simp (disch := omega) only [up2_at, up2_ap, up2_ak]; done) | (simp (disch := omega) only [up2_at, up2_ap, up2_ak]; assumption)
            · first | assumption | (simp (disch := omega) only [up2_at, up2_ap, up2_ak]; done) | (simp (disch := omega) only [up2_at, up2_ap, up2_ak]; assumption)
          · refine ⟨?_, ?_, ?_, ?_⟩
            · first | assumption | (simp (disch := omega) only [up2_at, up2_ap, up2_ak]; done) | (simp (disch := omega) only [up2_at, up2_ap, up2_ak]; assumption)
            · first | assumption | (simp (disch := omega) only [up2_at, up2_ap, up2_ak]; done) | (simp (disch := omega) only [up2_at, up2_ap, up2_ak]; assumption)
            · first | assumption | (simp (disch := omega) only [up2_at, up2_ap, up2_ak]; done) | (simp (disch := omega) only [up2_at, up2_ap, up2_ak]; assumption)
            · first | assumption | (simp (disch := omega) only [up2_at, up2_ap, up2_ak]; done) | (simp (disch := omega) only [up2_at, up2_ap, up2_ak]; assumption)
        · have := re j9 hj9
          by_cases hio : j9 = N
          · subst hio
            first | assumption | (simp (disch := omega) only [up2_at, up2_ap, up2_ak]; done) | (simp (disch := omega) only [up2_at, up2_ap, up2_ak]; assumption)
          · first | assumption | (simp (disch := omega) only [up2_at, up2_ap, up2_ak]; done) | (simp (disch := omega) only [up2_at, up2_ap, up2_ak]; assumption)
        · first | assumption | (simp (disch := omega) only [up2_at, up2_ap, up2_ak]; done) | (simp (disch := omega) only [up2_at, up2_ap, up2_ak]; assumption)
        · have := rg i9 hi9
          by_cases hio : i9 = N
          · subst hio
            first | assumption | (simp (disch := omega) only [up2_at, up2_ap, up2_ak]; done) | (simp (disch := omega) only [up2_at, up2_ap, up2_ak]; assumption)
          · first | assumption | (simp (disch := omega) only [up2_at, up2_ap, up2_ak]; done) | (simp (disch := omega) only [up2_at, up2_ap, up2_ak]; assumption)
      · show up2 (up2 (up2 σ (26 + 2 * N) 0 a1) (26 + 2 * N) 1 (nI z)) (26 + 2 * N) 2 (nI s) 8 11 = _
        rw [up2_ap (by omega), up2_ap (by omega), up2_ap (by omega)]
      · show up2 (up2 (up2 σ (26 + 2 * N) 0 a1) (26 + 2 * N) 1 (nI z)) (26 + 2 * N) 2 (nI s) 14 = _
        rw [up2_ne (by omega), up2_ne (by omega), up2_ne (by omega)]
    · have : N = 16 := by omega
      subst this
      refine ⟨eU, σ, 2, 0, up2 σ 8 0 2, ?_, ?_, AgI.e (by decide) (by decide), rfl, hI.q 2⟩
      · simp only [f_X3_order, rr_c]
        rw [if_pos h1, if_pos h2, if_pos h3]
        simp only [qv_n, w.1.1]
        rfl
      · simp only [f_X4_order, ti_m, in_m, ri_s]
        rw [if_pos h1, if_pos h2, if_pos h3, r.n w]
        rfl
  · exact ⟨eA, σ, 1, 0, _, (fail h).1, (fail h).2, AgI.e (by decide) (by decide), rfl, hI.q 1⟩
/-! lines -/
theorem li_m {σ α : St} (h : R0 σ α) {o : Nat} (ho : o < 16) : ∀ d k n s, k + d = 10 → d < n → f_X4_lines_4 σ (nI o) n s (nI k) = some (iv (fsz ((List.range' k d).filter (fun g => decide (0 < α (26 + 2 * o + 1) g))) s)) := by
  intro d
  induction d with
  | zero =>
    intro k n s hk hn
    obtain ⟨n, rfl⟩ : ∃ m, n = m + 1 := ⟨n - 1, by omega⟩
    have : k = 10 := by omega
    subst this
    rfl
  | succ d ih =>
    intro k n s hk hn
    obtain ⟨n, rfl⟩ : ∃ m, n = m + 1 := ⟨n - 1, by omega⟩
    simp only [f_X4_lines_4]
    rw [if_neg (by rw [show (10 : Int32) = nI 10 from rfl, pz_le (by omega) (by omega)]; omega), pz_10 ho (by omega), if_neg (pz_in (by omega) (by omega)), pz_s, pz_N (by omega), (h.2.1 o ho).2.2.2.2.2 k (by omega)]
    simp only [ih (k + 1) n _ (by omega) (by omega)]
    rw [List.range'_succ, List.filter_cons]
    by_cases h1 : α (26 + 2 * o + 1) k ≤ 0
    · rw [if_pos h1, if_neg (show ¬ (decide (0 < α (26 + 2 * o + 1) k) = true) by simp only [decide_eq_true_eq]; grind)]; simp
    · rw [if_neg h1, if_pos (show (decide (0 < α (26 + 2 * o + 1) k) = true) by simp only [decide_eq_true_eq]; grind)]; rfl
theorem li_mm {σ α : St} (h : R0 σ α) {o : Nat} (ho : o < 16) : f_X4_lines σ (nI o) = some (iv (nI (lcn (α (26 + 2 * o + 1))))) := by
  have := li_m h ho 10 0 40 0 (by omega) (by omega)
  rw [fsz_0] at this; exact this
theorem lcn_up {u : Nat → Int32} {g : Nat} {x : Int32} (hg : g < 10) (hu : ¬ 0 < u g) (hx : 0 < x) : lcn (upd u g x) = lcn u + 1 := by
  have : ((List.range' 0 10).filter (fun k => decide (0 < upd u g x k))).Perm (g :: (List.range' 0 10).filter (fun k => decide (0 < u k))) := by
    refine (List.perm_ext_iff_of_nodup (List.Nodup.sublist List.filter_sublist (List.nodup_range')) (List.nodup_cons.mpr ⟨?_, List.Nodup.sublist List.filter_sublist (List.nodup_range')⟩)).mpr fun k => ?_
    · simp [hu]
    · simp only [List.mem_filter, List.mem_range'_1, decide_eq_true_eq, List.mem_cons, upd]
      by_cases e : k = g
      · subst e; simp [hx, hg]
      · simp [e]
  exact this.length_eq
theorem PSline : PS_line Inv := by
  intro n hn σ hI a1 a2 a3
  obtain ⟨N, M, K, L, w, r, c⟩ := id hI
  have hm := io_m (r.n w) w.1.2 a1
  have hN := w.1.2
  rcases ro_c w.1.1 w.1.2 a1 with ⟨o, ho, rfl, e⟩ | ⟨hno, e⟩
  · have ho16 : o < 16 := by omega
    have O := w.o ho16
    rw [if_pos ⟨o, ho, rfl⟩] at hm
    by_cases h2 : 0 ≤ a2 ∧ a2 ≤ 9
    · by_cases h3 : 1 ≤ a3 ∧ a3 ≤ 100
      · obtain ⟨g, hg, rfl⟩ := pz_ex (x := a2) (by grind)
        have hg : g < 10 := by have := (pz_le hg (by decide : 9 < 2147483648)).mp h2.2; omega
        obtain ⟨t, ht, rfl⟩ := pz_ex (x := a3) (by grind)
        have ht2 : t ≤ 100 := (pz_le ht (by decide : 100 < 2147483648)).mp h3.2
        have ht1 : 1 ≤ t := (pz_le (by decide : 1 < 2147483648) ht).mp h3.1
        have two : ∀ k : Int32, Inv (n + 4) (up2 (up2 σ 8 0 0) 8 0 k) := fun k => by
          rw [show up2 (up2 σ 8 0 0) 8 0 k = up2 σ 8 0 k by funext p k; grind [up2_d]]; exact hI.q k
        by_cases h4 : σ (26 + 2 * o) 6 = 0
        · by_cases h5 : σ (26 + 2 * o + 1) g ≤ 0
          · by_cases h6 : lcn (σ (26 + 2 * o + 1)) < 4
            · have hu : up2 σ (26 + 2 * o + 1) g (nI t) (26 + 2 * o + 1) = upd (σ (26 + 2 * o + 1)) g (nI t) := by simp [up2]
              have hlc : lcn (upd (σ (26 + 2 * o + 1)) g (nI t)) = lcn (σ (26 + 2 * o + 1)) + 1 := lcn_up hg (by grind) ((pz_lt (by decide : 0 < 2147483648) (by omega)).mpr (by omega))
              let σ1 := up2 (up2 σ (26 + 2 * o + 1) g (nI t)) (26 + 2 * o) 4 (nI (lcn (σ (26 + 2 * o + 1)) + 1))
              have hw1 : σ1 (26 + 2 * o + 1) = upd (σ (26 + 2 * o + 1)) g (nI t) := by
                show up2 (up2 σ (26 + 2 * o + 1) g (nI t)) (26 + 2 * o) 4 (nI (lcn (σ (26 + 2 * o + 1)) + 1)) (26 + 2 * o + 1) = _
                rw [up2_ne (by omega), hu]
              let σ2 := up2 (up2 (up2 σ1 8 0 0) 8 0 0) 16 (10 * o + g) (nI t)
              have em : eM σ σ1 := (eM.up (by omega)).tr (eM.up (by omega))
              have hr1 : RQ σ2 σ1 := by
                show RQ (up2 (up2 (up2 (up2 (up2 σ (26 + 2 * o + 1) g (nI t)) (26 + 2 * o) 4 (nI (lcn (σ (26 + 2 * o + 1)) + 1))) 8 0 0) 8 0 0) 16 (10 * o + g) (nI t)) (up2 (up2 σ (26 + 2 * o + 1) g (nI t)) (26 + 2 * o) 4 (nI (lcn (σ (26 + 2 * o + 1)) + 1)))
                obtain ⟨⟨⟨ra1, ra2, ra3⟩, rb, rd, re⟩, rf, rg⟩ := id r
                refine ⟨⟨⟨?_, ?_, ?_⟩, fun i9 hi9 => ?_, fun k9 hk9 => ?_, fun j9 hj9 => ?_⟩, ?_, fun i9 hi9 => ?_⟩
                · grind [up2_d]
                · grind [up2_d]
                · grind [up2_d]
                · obtain ⟨b1, b2, b3, b4, b5, b6⟩ := rb i9 hi9
                  refine ⟨?_, ?_, ?_, ?_, ?_, fun g' hg' => ?_⟩
                  · grind [up2_d]
                  · grind [up2_d]
                  · grind [up2_d]
                  · grind [up2_d]
                  · grind [up2_d]
                  · have := b6 g' hg'
                    grind [up2_d]
                · have := rd k9 hk9
                  grind [up2_d]
                · have := re j9 hj9
                  grind [up2_d]
                · grind [up2_d]
                · have := rg i9 hi9
                  grind [up2_d]
              refine ⟨_, σ1, 0, nI (lcn (σ (26 + 2 * o + 1)) + 1), σ2, ?_, ?_, AgI.s, rfl, ?_⟩
              · rw [f_X3_line, e, qp_p, if_pos (kd_o ho16), rr_c, if_pos h2, qv_n, rr_c, if_pos h3, qv_n, f_X3_requireFree, if_pos h4, qv_n, if_neg (pz_in hg (by omega)), pz_N (by omega), if_pos h5, O.2.2.2.1.1, if_pos (show nI (lcn (σ (26 + 2 * o + 1))) < 4 from (pz_lt (by omega) (by decide : 4 < 2147483648)).mpr h6), up2_at, up2_ap (by omega), O.2.2.2.1.1, pz_s]
              · have hm1 := io_m (σ := σ1) ((r.l em).n w) w.1.2 (nI o)
                rw [if_pos ⟨o, ho, rfl⟩] at hm1
                have hl1 : f_X4_lines (up2 σ1 8 0 0) (nI o) = _ := li_mm (((r.l em).1).c (s := 0)) ho16
                have hl2 : f_X4_lines σ2 (nI o) = _ := li_mm hr1.1 ho16
                rw [hw1, hlc] at hl2
                rw [f_X4_line, hm1, ri_s, if_neg (by decide), in_m, if_pos h2, ri_s, if_neg (by decide), in_m, if_pos h3, ri_s, if_neg (by decide), f_X4_line_38, c8, if_pos rfl, if_neg (pz_in ho16 (by omega)), pz_N (by omega), up2_ap (by decide), (r.l em).2.2 o ho16, if_pos h4, pz_10 ho16 hg, if_neg (pz_in (by omega) (by omega)), pz_N (by omega), up2_ap (by decide), ((r.l em).1.2.1 o ho16).2.2.2.2.2 g hg, if_pos h5, hl1, ri_s, if_neg (fun q => by rw [show (4 : Int32) = nI 4 from rfl, pz_eq (by omega) (by decide)] at q; omega), f_X4_line_90, f_X4_line_93, c8, if_pos (by decide), pz_10 ho16 hg, if_neg (pz_in (by omega) (by omega)), pz_N (by omega), hl2, ri_s]
              · refine Inv.mk' (N := N) (M := M) (K := K) (L := L) (σ := σ1) ?_ (((eC.up (by decide) (by decide)).tr (eC.up (by decide) (by decide))).tr (eC.up (by decide) (by decide))) hr1 (c.f ?_ ?_)
                · obtain ⟨w1, w2, w3, w4, w5, w6, w7⟩ := w
                  have og : ∀ p, 58 ≤ p → σ1 p = σ p := fun p hp => by
                    show up2 (up2 σ (26 + 2 * o + 1) g (nI t)) (26 + 2 * o) 4 (nI (lcn (σ (26 + 2 * o + 1)) + 1)) p = _
                    rw [up2_ne (by omega), up2_ne (by omega)]
                  have ok : ∀ i k, k ≠ 4 → σ1 (26 + 2 * i) k = σ (26 + 2 * i) k := fun i k hk => by
                    show up2 (up2 σ (26 + 2 * o + 1) g (nI t)) (26 + 2 * o) 4 (nI (lcn (σ (26 + 2 * o + 1)) + 1)) (26 + 2 * i) k = _
                    rw [up2_ak hk, up2_ap (by omega)]
                  refine ⟨by grind [up2_d], by grind [up2_d], by grind [up2_d], by obtain ⟨cc, c1, c2⟩ := w4; exact ⟨cc, c1, by grind [up2_d]⟩, fun i hi => ?_, fun g hg => ?_, fun j hj => ?_⟩
                  · obtain ⟨a, b, cc, d, e', f⟩ := w5 i hi
                    unfold OW
                    rw [ok i 1 (by decide), ok i 2 (by decide), ok i 6 (by decide)]
                    by_cases q : i = o
                    · subst q
                      rw [hw1, hlc]
                      refine ⟨a, b, fun g' hg' => ?_, ⟨by grind [up2_d], by omega⟩, e', f⟩
                      by_cases q2 : g' = g
                      · subst q2; exact ⟨t, ht2, by simp [upd]⟩
                      · simp only [upd, if_neg q2]; exact cc g' hg'
                    · have ow : σ1 (26 + 2 * i + 1) = σ (26 + 2 * i + 1) := by
                        show up2 (up2 σ (26 + 2 * o + 1) g (nI t)) (26 + 2 * o) 4 (nI (lcn (σ (26 + 2 * o + 1)) + 1)) (26 + 2 * i + 1) = _
                        rw [up2_ne (by omega), up2_ne (by omega)]
                      have o4 : σ1 (26 + 2 * i) 4 = σ (26 + 2 * i) 4 := by
                        show up2 (up2 σ (26 + 2 * o + 1) g (nI t)) (26 + 2 * o) 4 (nI (lcn (σ (26 + 2 * o + 1)) + 1)) (26 + 2 * i) 4 = _
                        rw [up2_ap (by omega), up2_ap (by omega)]
                      rw [ow, o4]
                      exact ⟨a, b, cc, d, e', f⟩
                  · obtain ⟨t, t1, t2⟩ := w6 g hg
                    exact ⟨t, t1, by grind [up2_d]⟩
                  · obtain ⟨v1, v2, v3, v4⟩ := w7 j hj
                    refine ⟨v1.f (og _ (by omega)) (og _ (by omega)), v2, fun i => by rw [ok i 6 (by decide)]; exact v3 i, fun i hi => by rw [ok i 3 (by decide), og _ (by omega)]; exact v4 i hi⟩
                · show σ1 8 11 = _
                  rw [em 8 (by decide) (by decide)]
                · show σ1 14 = _
                  rw [em 14 (by decide) (by decide)]
            · have h7 : lcn (σ (26 + 2 * o + 1)) = 4 := by have := O.2.2.2.1.2; omega
              have hl : f_X4_lines (up2 σ 8 0 0) (nI o) = _ := li_mm ((r.1).c (s := 0)) ho16
              refine ⟨eU, σ, 4, 0, up2 (up2 σ 8 0 0) 8 0 4, ?_, ?_, AgI.e (by decide) (by decide), rfl, two 4⟩
              · rw [f_X3_line, e, qp_p, if_pos (kd_o ho16), rr_c, if_pos h2, qv_n, rr_c, if_pos h3, qv_n, f_X3_requireFree, if_pos h4, qv_n, if_neg (pz_in hg (by omega)), pz_N (by omega), if_pos h5, O.2.2.2.1.1, h7]; rfl
              · rw [f_X4_line, hm, ri_s, if_neg (by decide), in_m, if_pos h2, ri_s, if_neg (by decide), in_m, if_pos h3, ri_s, if_neg (by decide), f_X4_line_38, c8, if_pos rfl, if_neg (pz_in ho16 (by omega)), pz_N (by omega), up2_ap (by decide), r.2.2 o ho16, if_pos h4, pz_10 ho16 hg, if_neg (pz_in (by omega) (by omega)), pz_N (by omega), up2_ap (by decide), (r.1.2.1 o ho16).2.2.2.2.2 g hg, if_pos h5, hl, h7]; rfl
          · refine ⟨eS, σ, 3, 0, up2 (up2 σ 8 0 0) 8 0 3, ?_, ?_, AgI.e (by decide) (by decide), rfl, two 3⟩
            · rw [f_X3_line, e, qp_p, if_pos (kd_o ho16), rr_c, if_pos h2, qv_n, rr_c, if_pos h3, qv_n, f_X3_requireFree, if_pos h4, qv_n, if_neg (pz_in hg (by omega)), pz_N (by omega), if_neg h5]
            · rw [f_X4_line, hm, ri_s, if_neg (by decide), in_m, if_pos h2, ri_s, if_neg (by decide), in_m, if_pos h3, ri_s, if_neg (by decide), f_X4_line_38, c8, if_pos rfl, if_neg (pz_in ho16 (by omega)), pz_N (by omega), up2_ap (by decide), r.2.2 o ho16, if_pos h4, pz_10 ho16 hg, if_neg (pz_in (by omega) (by omega)), pz_N (by omega), up2_ap (by decide), (r.1.2.1 o ho16).2.2.2.2.2 g hg, if_neg h5]; rfl
        · refine ⟨eS, σ, 3, 0, up2 (up2 σ 8 0 0) 8 0 3, ?_, ?_, AgI.e (by decide) (by decide), rfl, two 3⟩
          · rw [f_X3_line, e, qp_p, if_pos (kd_o ho16), rr_c, if_pos h2, qv_n, rr_c, if_pos h3, qv_n, f_X3_requireFree, if_neg h4, qv_e]
          · rw [f_X4_line, hm, ri_s, if_neg (by decide), in_m, if_pos h2, ri_s, if_neg (by decide), in_m, if_pos h3, ri_s, if_neg (by decide), f_X4_line_38, c8, if_pos rfl, if_neg (pz_in ho16 (by omega)), pz_N (by omega), up2_ap (by decide), r.2.2 o ho16, if_neg h4]; rfl
      · refine ⟨eA, σ, 2, 0, up2 σ 8 0 2, ?_, ?_, AgI.e (by decide) (by decide), rfl, hI.q 2⟩
        · rw [f_X3_line, e, qp_p, if_pos (kd_o ho16), rr_c, if_pos h2, qv_n, rr_c, if_neg h3, qv_e]
        · rw [f_X4_line, hm, ri_s, if_neg (by decide), in_m, if_pos h2, ri_s, if_neg (by decide), in_m, if_neg h3]; rfl
    · refine ⟨eA, σ, 2, 0, up2 σ 8 0 2, ?_, ?_, AgI.e (by decide) (by decide), rfl, hI.q 2⟩
      · rw [f_X3_line, e, qp_p, if_pos (kd_o ho16), rr_c, if_neg h2, qv_e]
      · rw [f_X4_line, hm, ri_s, if_neg (by decide), in_m, if_neg h2]; rfl
  · refine ⟨eN, σ, 1, 0, up2 σ 8 0 1, ?_, ?_, AgI.e (by decide) (by decide), rfl, hI.q 1⟩
    · rw [f_X3_line, e, qp_e]
    · rw [f_X4_line, hm, if_neg hno]; rfl
