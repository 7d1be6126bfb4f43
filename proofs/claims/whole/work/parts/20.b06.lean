/-! calls that set something -/
theorem AgI.e {ns : List String} {E : String} {k v : Int32} (h : cdx ns 1 E = some k) (hk : k ≠ 0) : AgI ns (.inr E) k v := Or.inr ⟨E, rfl, h, hk⟩
theorem AgI.s {ns : List String} {v : Int32} : AgI ns (iv v) 0 v := Or.inl ⟨rfl, rfl⟩
theorem AgV.e {ns : List String} {E : String} {k : Int32} (h : cdx ns 1 E = some k) : AgV ns (.inr E) k := Or.inr ⟨E, rfl, h⟩
theorem AgV.s {ns : List String} : AgV ns (.inl none) 0 := Or.inl ⟨rfl, rfl⟩
theorem Inv.mk' {n N M K : Nat} {σ τ : St} {L : Nat → List Nat} (w : WF σ N M K L) (e : eC σ τ) (r : RQ τ σ) (c : CM (n + 4) τ L) : Inv (n + 4) τ := ⟨N, M, K, L, w.f e, r.r e, c⟩
abbrev eA : RV := .inr "java/lang/IllegalArgumentException"
abbrev eU : RV := .inr "java/lang/UnsupportedOperationException"
abbrev eN : RV := .inr "java/util/NoSuchElementException"
abbrev eS : RV := .inr "java/lang/IllegalStateException"
theorem c8 {σ : St} {s : Int32} : up2 σ 8 0 s 8 0 = s := rfl
theorem PSwave : PS_wave Inv := by
  intro n hn σ hI a
  obtain ⟨N, M, K, L, w, r, c⟩ := id hI
  have hm := io_m (r.n w) w.1.2 a
  have hN := w.1.2
  rcases ro_c w.1.1 w.1.2 a with ⟨o, ho, rfl, e⟩ | ⟨hno, e⟩
  · refine ⟨_, 0, _, up2 σ 8 0 0, by rw [f_X3_wave, e, qp_p, if_pos (kd_o (by omega))], ?_, AgI.s, rfl, hI.q 0⟩
    rw [f_X4_wave, hm, if_pos ⟨o, ho, rfl⟩, ri_s, if_neg (by decide), f_X4_wave_14, c8, if_pos (by decide), if_neg (pz_in (by omega) (by omega)), pz_N (by omega), up2_ap (by decide), r.2.2 o (by omega)]
  · refine ⟨eN, 1, 0, up2 σ 8 0 1, by rw [f_X3_wave, e, qp_e], ?_, AgI.e (by decide) (by decide), rfl, hI.q 1⟩
    rw [f_X4_wave, hm, if_neg hno, ri_s, if_pos rfl, f_X4_wave_14]; rfl
theorem PSstock : PS_stock Inv := by
  intro n hn σ hI a1 a2
  obtain ⟨N, M, K, L, w, r, c⟩ := id hI
  by_cases h1 : 0 ≤ a1 ∧ a1 ≤ 9
  · by_cases h2 : 0 ≤ a2 ∧ a2 ≤ 10000
    · obtain ⟨g, hg, rfl⟩ := pz_ex (x := a1) (by grind)
      obtain ⟨t, ht, rfl⟩ := pz_ex (x := a2) (by grind)
      have hg : g < 10 := by have := (pz_le hg (by decide : 9 < 2147483648)).mp h1.2; omega
      have ht : t ≤ 10000 := (pz_le ht (by decide : 10000 < 2147483648)).mp h2.2
      refine ⟨_, up2 σ 5 g (nI t), 0, up2 (up2 (up2 σ 5 g (nI t)) 8 0 0) 21 g (nI t), ?_, ?_, AgV.s, rfl, ?_⟩
      · rw [f_X3_stock, rr_c, rr_c, if_pos h1, if_pos h2, qv_n, qv_n, if_neg (pz_in hg (by omega)), pz_N (by omega)]
      · rw [f_X4_stock, in_m, in_m, if_pos h1, if_pos h2, ri_s, ri_s, if_neg (by decide), if_neg (by decide), f_X4_stock_27, c8, if_pos rfl, if_neg (pz_in hg (by omega)), pz_N (by omega)]
      · refine Inv.mk' (σ := up2 σ 5 g (nI t)) (N := N) (M := M) (K := K) (L := L) ?_ ((eC.up (by decide) (by decide)).tr (eC.up (by decide) (by decide))) ?_ (c.f rfl rfl)
        · obtain ⟨w1, w2, w3, w4, w5, w6, w7⟩ := w
          refine ⟨w1, w2, w3, w4, fun i hi => ?_, fun g' hg' => ?_, fun j hj => ?_⟩
          · unfold OW; rw [up2_ne (by omega), up2_ne (by omega)]; exact w5 i hi
          · by_cases e : g' = g
            · subst e; exact ⟨t, ht, up2_at⟩
            · rw [up2_ak e]; exact w6 g' hg'
          · obtain ⟨v1, v2, v3, v4⟩ := w7 j hj
            exact ⟨v1.f (up2_ne (by omega)) (up2_ne (by omega)), v2, fun i => by rw [up2_ne (by omega)]; exact v3 i, fun i hi => by rw [up2_ne (by omega), up2_ne (by omega)]; exact v4 i hi⟩
        · have hh : g < 10 := hg
          obtain ⟨⟨⟨ra1, ra2, ra3⟩, rb, rd, re⟩, rf, rg⟩ := id r
          refine ⟨⟨⟨?_, ?_, ?_⟩, fun i9 hi9 => ?_, fun k9 hk9 => ?_, fun j9 hj9 => ?_⟩, ?_, fun i9 hi9 => ?_⟩
          · grind [up2_d]
          · grind [up2_d]
          · grind [up2_d]
          · obtain ⟨b1, b2, b3, b4, b5, b6⟩ := rb i9 hi9
            refine ⟨?_, ?_, ?_, ?_, ?_, fun g' hg' => ?_⟩
            · grind [up2_d]
            · grind [up2_d]
            · grind [up2_d]
            · grind [up2_d]
            · grind [up2_d]
            · have := b6 g' hg'
              grind [up2_d]
          · have := rd k9 hk9
            grind [up2_d]
          · have := re j9 hj9
            grind [up2_d]
          · grind [up2_d]
          · have := rg i9 hi9
            grind [up2_d]
    · refine ⟨eA, σ, 1, up2 σ 8 0 1, ?_, ?_, AgV.e (by decide), rfl, hI.q 1⟩
      · rw [f_X3_stock, rr_c, rr_c, if_pos h1, if_neg h2, qv_n, qv_e]
      · rw [f_X4_stock, in_m, in_m, if_pos h1, if_neg h2, ri_s, ri_s, if_neg (by decide), if_pos rfl]; rfl
  · refine ⟨eA, σ, 1, up2 σ 8 0 1, ?_, ?_, AgV.e (by decide), rfl, hI.q 1⟩
    · rw [f_X3_stock, rr_c, if_neg h1, qv_e]
    · rw [f_X4_stock, in_m, if_neg h1, ri_s, if_pos rfl]; rfl
theorem PScarrier : PS_carrier Inv := by
  intro n hn σ hI a1 a2
  obtain ⟨N, M, K, L, w, r, c⟩ := id hI
  have hm := io_m (r.n w) w.1.2 a1
  have hN := w.1.2
  rcases ro_c w.1.1 w.1.2 a1 with ⟨o, ho, rfl, e⟩ | ⟨hno, e⟩
  · have ho16 : o < 16 := by omega
    by_cases h2 : 0 ≤ a2 ∧ a2 ≤ 3
    · by_cases h3 : σ (26 + 2 * o) 6 = 0
      · refine ⟨_, up2 σ (26 + 2 * o) 3 a2, 0, up2 (up2 (up2 (up2 σ (26 + 2 * o) 3 a2) 8 0 0) 8 0 0) 12 o a2, ?_, ?_, AgV.s, rfl, ?_⟩
        · rw [f_X3_carrier, e, qp_p, if_pos (kd_o ho16), rr_c, if_pos h2, qv_n, f_X3_requireFree, if_pos h3, qv_n]
        · have hm' := io_m (σ := up2 σ (26 + 2 * o) 3 a2) (by rw [up2_ap (by omega)]; exact r.n w) w.1.2 (nI o)
          rw [f_X4_carrier, hm', if_pos ⟨o, ho, rfl⟩, ri_s, if_neg (by decide), in_m, if_pos h2, ri_s, if_neg (by decide), f_X4_carrier_27, c8, if_pos rfl, if_neg (pz_in ho16 (by omega)), pz_N (by omega), up2_ap (by decide), up2_ap (by omega), r.2.2 o ho16, if_pos h3, f_X4_carrier_52, c8, if_pos rfl, if_neg (pz_in ho16 (by omega)), pz_N (by omega)]
        · refine Inv.mk' (σ := up2 σ (26 + 2 * o) 3 a2) (N := N) (M := M) (K := K) (L := L) ?_ (((eC.up (by decide) (by decide)).tr (eC.up (by decide) (by decide))).tr (eC.up (by decide) (by decide))) ?_ (c.f ?_ ?_)
          · obtain ⟨w1, w2, w3, w4, w5, w6, w7⟩ := w
            refine ⟨by rw [up2_ap (by omega)]; exact w1, by rw [up2_ap (by omega)]; exact w2, by rw [up2_ap (by omega)]; exact w3, by rw [up2_ap (by omega)]; exact w4, fun i hi => ?_, by rw [up2_ne (by omega)]; exact w6, fun j hj => ?_⟩
            · unfold OW; rw [up2_ak (by decide), up2_ak (by decide), up2_ne (show 26 + 2 * i + 1 ≠ 26 + 2 * o by omega), up2_ak (by decide), up2_ak (by decide)]; exact w5 i hi
            · obtain ⟨v1, v2, v3, v4⟩ := w7 j hj
              refine ⟨v1.f (up2_ne (by omega)) (up2_ne (by omega)), v2, fun i => by rw [up2_ak (by decide)]; exact v3 i, fun i hi => ?_⟩
              have hi2 := ((v3 i).mp hi).2
              have : i ≠ o := by
                intro q; subst q
                rw [h3] at hi2
                exact absurd ((pz_eq (a := 0) (b := j + 1) (by omega) (by omega)).mp hi2) (by omega)
              rw [up2_ap (by omega), up2_ap (by omega)]; exact v4 i hi
          · obtain ⟨⟨⟨ra1, ra2, ra3⟩, rb, rd, re⟩, rf, rg⟩ := id r
            refine ⟨⟨⟨?_, ?_, ?_⟩, fun i9 hi9 => ?_, fun k9 hk9 => ?_, fun j9 hj9 => ?_⟩, ?_, fun i9 hi9 => ?_⟩
            · grind [up2_d]
            · grind [up2_d]
            · grind [up2_d]
            · obtain ⟨b1, b2, b3, b4, b5, b6⟩ := rb i9 hi9
              refine ⟨?_, ?_, ?_, ?_, ?_, fun g' hg' => ?_⟩
              · grind [up2_d]
              · grind [up2_d]
              · grind [up2_d]
              · grind [up2_d]
              · grind [up2_d]
              · have := b6 g' hg'
                grind [up2_d]
            · have := rd k9 hk9
              grind [up2_d]
            · have := re j9 hj9
              grind [up2_d]
            · grind [up2_d]
            · have := rg i9 hi9
              grind [up2_d]
          · show up2 σ (26 + 2 * o) 3 a2 8 11 = _
            rw [up2_ap (by omega)]
          · show up2 σ (26 + 2 * o) 3 a2 14 = _
            rw [up2_ne (by omega)]
      · refine ⟨eS, σ, 3, up2 (up2 σ 8 0 0) 8 0 3, ?_, ?_, AgV.e (by decide), rfl, ?_⟩
        · rw [f_X3_carrier, e, qp_p, if_pos (kd_o ho16), rr_c, if_pos h2, qv_n, f_X3_requireFree, if_neg h3, qv_e]
        · rw [f_X4_carrier, hm, if_pos ⟨o, ho, rfl⟩, ri_s, if_neg (by decide), in_m, if_pos h2, ri_s, if_neg (by decide), f_X4_carrier_27, c8, if_pos rfl, if_neg (pz_in ho16 (by omega)), pz_N (by omega), up2_ap (by decide), r.2.2 o ho16, if_neg h3, f_X4_carrier_52, c8]; rfl
        · have := hI.q 3
          rw [show up2 (up2 σ 8 0 0) 8 0 3 = up2 σ 8 0 3 by funext p k; grind [up2_d]]; exact this
    · refine ⟨eA, σ, 2, up2 σ 8 0 2, ?_, ?_, AgV.e (by decide), rfl, hI.q 2⟩
      · rw [f_X3_carrier, e, qp_p, if_pos (kd_o ho16), rr_c, if_neg h2, qv_e]
      · rw [f_X4_carrier, hm, if_pos ⟨o, ho, rfl⟩, ri_s, if_neg (by decide), in_m, if_neg h2, ri_s, if_pos rfl, f_X4_carrier_27]; rfl
  · refine ⟨eN, σ, 1, up2 σ 8 0 1, ?_, ?_, AgV.e (by decide), rfl, hI.q 1⟩
    · rw [f_X3_carrier, e, qp_e]
    · rw [f_X4_carrier, hm, if_neg hno, ri_s, if_pos rfl, f_X4_carrier_27]; rfl
