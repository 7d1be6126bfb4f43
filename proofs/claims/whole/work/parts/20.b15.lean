theorem two_len {A B : List Nat} {N : Nat} (hA : A.Nodup) (hB : B.Nodup) (hd : ∀ i ∈ A, i ∉ B) (h : ∀ i ∈ A ++ B, i < N) : A.length + B.length ≤ N := by
  have : (A ++ B).Nodup := List.nodup_append.mpr ⟨hA, hB, fun a ha b hb e => hd a ha (e ▸ hb)⟩
  have h2 := List.Nodup.length_le_of_subset this (l₂ := List.range N) (fun i hi => List.mem_range.mpr (h i hi))
  simpa using h2
theorem PSjoin : PS_join Inv := by
  intro n hn σ hI a1 a2
  obtain ⟨N, M, K, L, w, r, c⟩ := id hI
  have hN := w.1.2
  have hM := w.2.1.2
  have two : ∀ k : Int32, Inv (n + 4) (up2 (up2 σ 8 0 0) 8 0 k) := fun k => by
    rw [show up2 (up2 σ 8 0 0) 8 0 k = up2 σ 8 0 k by funext p k; grind [up2_d]]; exact hI.q k
  rcases rw_c w r c a1 with ⟨j1, hjM1, hj1, rfl, hne1, e1, em1⟩ | ⟨e1, em1⟩
  · rcases rw_c w r c a2 with ⟨j2, hjM2, hj2, rfl, hne2, e2, em2⟩ | ⟨e2, em2⟩
    · have V1 := w.w hj1
      have V2 := w.w hj2
      have r0 : RQ (up2 σ 8 0 0) σ := r.c
      have c0 := c.c 0
      obtain ⟨x1, l1, hl1⟩ : ∃ x l', L j1 = x :: l' := List.exists_cons_of_ne_nil hne1
      obtain ⟨x2, l2, hl2⟩ : ∃ x l', L j2 = x :: l' := List.exists_cons_of_ne_nil hne2
      have hx1 : x1 ∈ L j1 := by rw [hl1]; simp
      have hx2 : x2 ∈ L j2 := by rw [hl2]; simp
      have hx116 := V1.1.2.2.2 x1 hx1
      have hx216 := V2.1.2.2.2 x2 hx2
      have mdl : ∀ τ : St, eM σ τ → f_X4_join τ (nI (j1 + 1)) (nI (j2 + 1)) = if j1 ≠ j2 ∧ σ (58 + 2 * j1) 3 = 0 ∧ σ (58 + 2 * j2) 3 = 0 ∧ σ (58 + 2 * j1) 2 = σ (58 + 2 * j2) 2 then f_X4_join_100 (nI (j1 + 1)) (nI (j2 + 1)) 40 (up2 (up2 τ 8 0 0) 8 0 0) 0 else some (iv 0, up2 (up2 τ 8 0 0) 8 0 2) := by
        intro τ et
        have rt : RQ τ σ := r.l et
        have ct : CM n τ L := by
          unfold CM; rw [et 8 (by decide) (by decide), et 14 (by decide) (by decide)]; exact c
        have i1 : f_X4_isWave τ (nI (j1 + 1)) = some (iv 1) := by
          rcases rw_c w rt ct (nI (j1 + 1)) with ⟨_, _, _, _, _, _, q⟩ | ⟨q, _⟩
          · exact q
          · rw [e1] at q; exact absurd q (by simp)
        have i2 : f_X4_isWave τ (nI (j2 + 1)) = some (iv 1) := by
          rcases rw_c w rt ct (nI (j2 + 1)) with ⟨_, _, _, _, _, _, q⟩ | ⟨q, _⟩
          · exact q
          · rw [e2] at q; exact absurd q (by simp)
        have rt0 : RQ (up2 τ 8 0 0) σ := rt.c
        have m1 := (tw w rt0 (ct.c 0) hj1).2.2.2.1 0 (by omega)
        have m2 := (tw w rt0 (ct.c 0) hj2).2.2.2.1 0 (by omega)
        rw [hl1] at m1
        rw [hl2] at m2
        have m1 : f_X4_memberAt (up2 τ 8 0 0) (nI (j1 + 1)) 0 = some (iv (nI x1)) := m1
        have m2 : f_X4_memberAt (up2 τ 8 0 0) (nI (j2 + 1)) 0 = some (iv (nI x2)) := m2
        rw [f_X4_join, i1, ri_s, if_neg (by decide), i2, ri_s, if_neg (by decide), f_X4_join_22, c8, if_pos rfl]
        by_cases q1 : j1 = j2
        · subst q1
          rw [if_pos rfl, if_neg (fun z => z.1 rfl)]; rfl
        · rw [if_neg (show ¬ nI (j1 + 1) = nI (j2 + 1) from fun z => by rw [pz_eq (by omega) (by omega)] at z; omega), if_neg (show ¬ (nI (j1 + 1) < 0 ∨ 17 ≤ (nI (j1 + 1)).toNatClampNeg) from pz_in (by omega) (by omega)), pz_N (show j1 + 1 < 2147483648 by omega), rt0.1.2.2.2 j1 hj1]
          by_cases q2 : σ (58 + 2 * j1) 3 = 0
          · rw [if_pos q2, if_neg (show ¬ (nI (j2 + 1) < 0 ∨ 17 ≤ (nI (j2 + 1)).toNatClampNeg) from pz_in (by omega) (by omega)), pz_N (show j2 + 1 < 2147483648 by omega), rt0.1.2.2.2 j2 hj2]
            by_cases q3 : σ (58 + 2 * j2) 3 = 0
            · rw [if_pos q3, m1, ri_s, if_neg (pz_in hx116 (by omega)), m2, ri_s, if_neg (pz_in hx216 (by omega)), pz_N (by omega), pz_N (by omega), (rt0.1.2.1 x1 hx116).2.2.2.1, (rt0.1.2.1 x2 hx216).2.2.2.1, V1.2.2.2 x1 hx1, V2.2.2.2 x2 hx2]
              by_cases q4 : σ (58 + 2 * j1) 2 = σ (58 + 2 * j2) 2
              · rw [if_pos q4, if_pos ⟨q1, q2, q3, q4⟩]; rfl
              · rw [if_neg q4, if_neg (fun z => q4 z.2.2.2)]; rfl
            · rw [if_neg q3, if_neg (fun z => q3 z.2.2.1)]; rfl
          · rw [if_neg q2, if_neg (fun z => q2 z.2.1)]; rfl
      by_cases hok : j1 ≠ j2 ∧ σ (58 + 2 * j1) 3 = 0 ∧ σ (58 + 2 * j2) 3 = 0 ∧ σ (58 + 2 * j1) 2 = σ (58 + 2 * j2) 2
      · simp only [if_pos hok] at mdl
        obtain ⟨q1, q2, q3, q4⟩ := hok
        have dis : ∀ i ∈ L j1, i ∉ L j2 := fun i h h' => q1 (by
          have h1 := ((V1.2.2.1 i).mp h).2
          have h2 := ((V2.2.2.1 i).mp h').2
          have := (pz_eq (a := j1 + 1) (b := j2 + 1) (by omega) (by omega)).mp (h1.symm.trans h2)
          omega)
        have hlen : (L j1).length + (L j2).length ≤ 16 := Nat.le_trans (two_len V1.2.1 V2.2.1 dis (N := N) (fun i hi => by
          rcases List.mem_append.mp hi with z | z
          · exact ((V1.2.2.1 i).mp z).1
          · exact ((V2.2.2.1 i).mp z).1)) hN
        -- the trial
        obtain ⟨σ7, b1, b2, b3, b4⟩ := em_c (τ := σ) (q := 90)
        have R7a : Rp σ7 (58 + 2 * j1) (L j1) := V1.1.f (b3 _ (by omega)) (b3 _ (by omega))
        have R7b : Rp σ7 (58 + 2 * j2) (L j2) := V2.1.f (b3 _ (by omega)) (b3 _ (by omega))
        obtain ⟨σ8, d1, d2, d3, d4⟩ := al_cc (q0 := 90) (q1 := 58 + 2 * j1) (by omega) b2 R7a (by simp; omega)
        have R8b : Rp σ8 (58 + 2 * j2) (L j2) := R7b.f (d3 _ (by omega) (by omega)) (d3 _ (by omega) (by omega))
        obtain ⟨σ9, f1, f2, f3, f4⟩ := al_cc (q0 := 90) (q1 := 58 + 2 * j2) (by omega) d2 R8b (by simp; omega)
        have e9 : ∀ p, p < 90 → σ9 p = σ p := fun p hp => ((f3 p (by omega) (by omega)).trans (d3 p (by omega) (by omega))).trans (b3 p (by omega))
        have f2 : Rp σ9 90 (L j1 ++ L j2) := by simpa using f2
        have w9 : WF σ9 N M K L := by
          obtain ⟨w1, w2, w3, w4, w5, w6, w7⟩ := w
          refine ⟨by rw [e9 0 (by omega)]; exact w1, by rw [e9 0 (by omega)]; exact w2, by rw [e9 1 (by omega)]; exact w3, by rw [e9 0 (by omega)]; exact w4, fun i hi => ?_, by rw [e9 5 (by omega)]; exact w6, fun j hj => ?_⟩
          · unfold OW; rw [e9 _ (by omega), e9 _ (by omega)]; exact w5 i hi
          · obtain ⟨v1, v2, v3, v4⟩ := w7 j hj
            refine ⟨v1.f (e9 _ (by omega)) (e9 _ (by omega)), v2, fun i => ?_, fun i hi => by rw [e9 _ (by have := v1.2.2.2 i hi; omega), e9 _ (by omega)]; exact v4 i hi⟩
            rcases Nat.lt_or_ge i 16 with z | z
            · rw [e9 _ (by omega)]; exact v3 i
            · constructor
              · intro hm; have := v1.2.2.2 i hm; omega
              · rintro ⟨q1, _⟩; omega
        have em9 : eM σ σ9 := fun p _ h => e9 p (by omega)
        have rq9 : ∀ μ, RQ μ σ → RQ μ σ9 := by
          rintro μ ⟨⟨ra, rb, rd, re⟩, rf, rg⟩
          refine ⟨⟨by rw [e9 0 (by omega), e9 1 (by omega)]; exact ra, fun i hi => by rw [e9 _ (by omega), e9 _ (by omega)]; exact rb i hi, fun k hk => by rw [e9 2 (by omega), e9 3 (by omega), e9 4 (by omega), e9 5 (by omega)]; exact rd k hk, fun j hj => by rw [e9 _ (by omega)]; exact re j hj⟩, by rw [e9 0 (by omega)]; exact rf, fun i hi => by rw [e9 _ (by omega)]; exact rg i hi⟩
        have hsec := se_cc w9.z f2
        -- the reference, behind any state of the class
        have run : ∀ τ : St, eM σ τ → ∃ μ' : St, ∃ cc : Nat, f_X4_join τ (nI (j1 + 1)) (nI (j2 + 1)) = (if σ9 0 0 < fse σ9 (L j1 ++ L j2) 0 - so σ9 [] (L j1 ++ L j2) 0 then f_X4_join_217 40 μ' 0 else some (iv (fse σ9 (L j1 ++ L j2) 0 - so σ9 [] (L j1 ++ L j2) 0), μ')) ∧ R0 μ' σ9 ∧ μ' 8 16 = σ 0 6 ∧ (∀ i ∈ L j1 ++ L j2, ∃ m, m < cc ∧ μ' 14 i = nI m) ∧ (L j1 ++ L j2).Pairwise (fun a b => μ' 14 a < μ' 14 b) ∧ (μ' 8 11 = nI cc ∧ cc ≤ 4 * (n + 4)) ∧ (∃ c1, c1 ≤ cc ∧ σ 8 11 = nI c1) ∧ (∀ i, i ∈ L j2 → μ' 13 i = nI (j1 + 1)) ∧ (∀ i, i ∉ L j2 → μ' 13 i = σ 13 i ∧ μ' 14 i = σ 14 i) ∧ (∀ i, i < N → μ' 22 i = σ 13 i ∧ μ' 23 i = σ 14 i) ∧ μ' 8 0 = 0 ∧ μ' 8 2 = nI N ∧ eC τ μ' := by
          intro τ et
          let μ0 := up2 (up2 τ 8 0 0) 8 0 0
          have rt : RQ μ0 σ := ((r.l et).c (s := 0)).c (s := 0)
          have ct : CM n μ0 L := by
            have : CM n τ L := by
              unfold CM; rw [et 8 (by decide) (by decide), et 14 (by decide) (by decide)]; exact c
            exact (this.c 0).c 0
          obtain ⟨μ1, g1, g2, g3⟩ := js_m hN (nI (j1 + 1)) (nI (j2 + 1)) N 0 40 μ0 (rt.n w) (by omega) (by omega) (fun i hi => absurd hi (by omega))
          have g1 : f_X4_join_100 (nI (j1 + 1)) (nI (j2 + 1)) 40 μ0 0 = ri (f_X4_sizeOf μ1 (nI (j2 + 1))) (fun x2_ => f_X4_join_147 (nI (j1 + 1)) (nI (j2 + 1)) x2_ 40 μ1 0) := g1
          have rt1 : RQ μ1 σ := by
            unfold RQ R0 at rt ⊢
            rw [g2 8 (by decide) (by decide), g2 9 (by decide) (by decide), g2 10 (by decide) (by decide), g2 11 (by decide) (by decide), g2 12 (by decide) (by decide), g2 13 (by decide) (by decide), g2 15 (by decide) (by decide), g2 16 (by decide) (by decide), g2 17 (by decide) (by decide), g2 18 (by decide) (by decide), g2 19 (by decide) (by decide), g2 20 (by decide) (by decide), g2 21 (by decide) (by decide)]
            exact rt
          have ct1 : CM n μ1 L := by
            unfold CM; rw [g2 8 (by decide) (by decide), g2 14 (by decide) (by decide)]; exact ct
          have sA := rt1.sl w ct1 hj1
          have sB := rt1.sl w ct1 hj2
          obtain ⟨cc, ⟨hc1, hc2⟩, hc3⟩ := ct1
          have hsz := (tw w rt1 ⟨cc, ⟨hc1, hc2⟩, hc3⟩ hj2).1
          obtain ⟨μ2, k1, k2, k3, k4, k5, k6, k7, k8⟩ := jm_m hN (w := j1 + 1) (x := j2 + 1) (by omega) (by omega) (by omega) (L j2) (L j1) 0 40 μ1 cc (rt1.n w) sA sB (fun i hi => by
            rcases List.mem_append.mp hi with z | z
            · exact (hc3 j1 hj1).2 i z
            · exact (hc3 j2 hj2).2 i z) hc1 (by omega) hlen (by omega) (by omega)
          have r02 : R0 μ2 σ9 := by
            have hz := (rq9 _ rt1).1
            obtain ⟨ra, rb, rd, re⟩ := hz
            refine ⟨⟨(k5 1 (by decide)).trans ra.1, (k5 2 (by decide)).trans ra.2.1, (k5 12 (by decide)).trans ra.2.2⟩, ?_, ?_, ?_⟩
            · rw [k6 9 (by decide) (by decide) (by decide), k6 10 (by decide) (by decide) (by decide), k6 11 (by decide) (by decide) (by decide), k6 12 (by decide) (by decide) (by decide), k6 15 (by decide) (by decide) (by decide), k6 16 (by decide) (by decide) (by decide)]; exact rb
            · rw [k6 17 (by decide) (by decide) (by decide), k6 18 (by decide) (by decide) (by decide), k6 19 (by decide) (by decide) (by decide), k6 21 (by decide) (by decide) (by decide)]; exact rd
            · rw [k6 20 (by decide) (by decide) (by decide)]; exact re
          have h82 : μ2 8 2 = nI N := (k5 2 (by decide)).trans (rt1.n w)
          have hs2 := se_mm h82 hN r02 w9.z (nI (j1 + 1))
          rw [k2.so, fse_perm k2.perm] at hs2
          rw [hs2, ri_s] at k1
          simp only [ri_s] at k1
          have hcap : μ2 8 1 = σ9 0 0 := r02.1.1
          have t13 : ∀ i, μ1 13 i = σ 13 i := fun i => by
            rw [g2 13 (by decide) (by decide)]
            show τ 13 i = _
            rw [et 13 (by decide) (by decide)]
          have t14 : ∀ i, μ1 14 i = σ 14 i := fun i => by
            rw [g2 14 (by decide) (by decide)]
            show τ 14 i = _
            rw [et 14 (by decide) (by decide)]
          refine ⟨μ2, cc + (L j2).length, ?_, r02, ?_, k3, k2.2, ⟨k4, by omega⟩, ⟨cc, by omega, ?_⟩, k7, fun i hi => ⟨(k8 i hi).1.trans (t13 i), (k8 i hi).2.trans (t14 i)⟩, fun i hi => ?_, ?_, h82, ?_⟩
          · rw [mdl τ et]
            refine g1.trans ?_
            rw [hsz, ri_s]
            rw [show nI 0 = (0 : Int32) from rfl, Nat.zero_add] at k1
            rw [hcap] at k1
            exact k1
          · rw [k5 16 (by decide), rt1.2.1]
          · rw [← hc1, g2 8 (by decide) (by decide)]
            show _ = τ 8 11
            rw [et 8 (by decide) (by decide)]
          · rw [k6 22 (by decide) (by decide) (by decide), k6 23 (by decide) (by decide) (by decide)]
            obtain ⟨z1, z2⟩ := g3 i hi
            exact ⟨z1.trans (by show τ 13 i = _; rw [et 13 (by decide) (by decide)]), z2.trans (by show τ 14 i = _; rw [et 14 (by decide) (by decide)])⟩
          · rw [k5 0 (by decide), g2 8 (by decide) (by decide)]; rfl
          · intro p hp
            rw [k6 p (by omega) (by omega) (by omega), g2 p (by omega) (by omega)]
            exact ((eC.up (by decide) (by decide)).tr (eC.up (by decide) (by decide))) p hp
        have cls : f_X3_join σ (nI (j1 + 1)) (nI (j2 + 1)) = if fse σ9 (L j1 ++ L j2) 0 - so σ9 [] (L j1 ++ L j2) 0 ≤ σ9 0 0 then f_X3_join_105 (nI (j1 + 1)) (58 + 2 * j1) (58 + 2 * j2) (fse σ9 (L j1 ++ L j2) 0 - so σ9 [] (L j1 ++ L j2) 0) 40 σ9 0 else some (eS, σ9) := by
          rw [f_X3_join, e1, qp_p, if_pos (kd_w hj1), e2, qp_p, if_pos (kd_w hj2), f_X3_requirePlanned, if_pos q2, qv_n, f_X3_requirePlanned, if_pos q3, qv_n, if_neg (show ¬ nI (j1 + 1) = nI (j2 + 1) from fun z => by rw [pz_eq (by omega) (by omega)] at z; omega), if_pos q4, b1, nv_s, d1, nv_s, f1, nv_s, hsec, ri_s]
        generalize fse σ9 (L j1 ++ L j2) 0 - so σ9 [] (L j1 ++ L j2) 0 = sec at cls run hsec
        by_cases hcap : sec ≤ σ9 0 0
        · rw [if_pos hcap] at cls
          simp only [if_neg (show ¬ σ9 0 0 < sec by grind)] at run
          have R9a : Rp σ9 (58 + 2 * j1) (L j1) := (w9.w hj1).1
          have R9b : Rp σ9 (58 + 2 * j2) (L j2) := (w9.w hj2).1
          obtain ⟨τ1, h1, h2, h3⟩ := jp_c (q3 := 58 + 2 * j1) (q4 := 58 + 2 * j2) (fun i hi => by omega) (nI (j1 + 1)) sec (L j2) [] 40 σ9 rfl (by omega) R9b
          have h1 : f_X3_join_105 (nI (j1 + 1)) (58 + 2 * j1) (58 + 2 * j2) sec 40 σ9 0 = nv (f_X2_addAll τ1 (58 + 2 * j1) (58 + 2 * j2)) (fun σ2 => nv (f_X2_empty σ2 (58 + 2 * j2)) (fun σ3 => some (iv sec, σ3))) := h1
          have h3p : ∀ p, (∀ i ∈ L j2, p ≠ 26 + 2 * i) → τ1 p = σ9 p := fun p hp => funext fun k => h3 p k (Or.inl hp)
          have h3b : ∀ p, p < 26 ∨ 58 ≤ p ∨ p % 2 = 1 → τ1 p = σ9 p := fun p hp => h3p p (fun i hi => by have := V2.1.2.2.2 i hi; omega)
          obtain ⟨τ2, i1, i2, i3, i4⟩ := al_cc (q0 := 58 + 2 * j1) (q1 := 58 + 2 * j2) (by omega) (R9a.f (h3b _ (by omega)) (h3b _ (by omega))) (R9b.f (h3b _ (by omega)) (h3b _ (by omega))) hlen
          obtain ⟨σ1, o1, o2, o3, o4⟩ := em_c (τ := τ2) (q := 58 + 2 * j2)
          rw [h1, i1, nv_s, o1, nv_s] at cls
          have hlo : ∀ p, p < 58 → σ1 p = τ1 p := fun p hp => (o3 p (by omega)).trans (i3 p (by omega) (by omega))
          have em1' : eM σ σ1 := fun p _ hp => (hlo p (by omega)).trans ((h3b p (by omega)).trans (e9 p (by omega)))
          have pl2 : ∀ i, i ∈ L j2 → σ1 (26 + 2 * i) 6 = nI (j1 + 1) := fun i hi => by
            have := V2.1.2.2.2 i hi
            rw [hlo _ (by omega)]; exact h2 i hi
          have plo : ∀ i k, i < 16 → i ∉ L j2 ∨ k ≠ 6 → σ1 (26 + 2 * i) k = σ (26 + 2 * i) k := fun i k hi h => by
            rw [hlo _ (by omega)]
            rw [h3 _ _ (by
              rcases h with h | h
              · exact Or.inl fun i' hi' z => h (by have : i = i' := by omega
                                                   subst this; exact hi')
              · exact Or.inr h), e9 _ (by omega)]
          have plw : ∀ i, i < 16 → σ1 (26 + 2 * i + 1) = σ (26 + 2 * i + 1) := fun i hi => by
            rw [hlo _ (by omega), h3b _ (by omega), e9 _ (by omega)]
          have low : ∀ p, p < 26 → σ1 p = σ p := fun p hp => by
            rw [hlo _ (by omega), h3b _ (by omega), e9 _ (by omega)]
          have wv : ∀ j k, j < 16 → k ≠ 1 → σ1 (58 + 2 * j) k = σ (58 + 2 * j) k := fun j k hj hk => by
            by_cases z1 : j = j2
            · subst z1
              rw [o4 k hk, i3 _ (by omega) (by omega), h3b _ (by omega), e9 _ (by omega)]
            · rw [o3 _ (by omega)]
              by_cases z2 : j = j1
              · subst z2
                rw [i4 k hk, h3b _ (by omega), e9 _ (by omega)]
              · rw [i3 _ (by omega) (by omega), h3b _ (by omega), e9 _ (by omega)]
          let L' : Nat → List Nat := fun j => if j = j1 then L j1 ++ L j2 else if j = j2 then [] else L j
          have w1 : WF σ1 N M K L' := by
            obtain ⟨w1, w2, w3, w4, w5, w6, w7⟩ := id w
            refine ⟨by rw [low 0 (by omega)]; exact w1, by rw [low 0 (by omega)]; exact w2, by rw [low 1 (by omega)]; exact w3, by rw [low 0 (by omega)]; exact w4, fun i hi => ?_, by rw [low 5 (by omega)]; exact w6, fun j hj => ?_⟩
            · obtain ⟨a, b, cc, d, e, f⟩ := w5 i hi
              unfold OW
              rw [plo i 1 hi (by omega), plo i 2 hi (by omega), plo i 4 hi (by omega), plw i hi]
              refine ⟨a, b, cc, d, ?_⟩
              by_cases z : i ∈ L j2
              · rw [pl2 i z]
                refine ⟨Or.inr ⟨j1 + 1, by omega, rfl⟩, fun z2 => ?_⟩
                have := ((V2.2.2.1 i).mp z).1
                omega
              · rw [plo i 6 hi (Or.inl z)]; exact ⟨e, f⟩
            · by_cases z1 : j = j1
              · subst z1
                have eL : L' j = L j ++ L j2 := if_pos rfl
                unfold VW
                rw [eL]
                refine ⟨i2.f (o3 _ (by omega)) (o3 _ (by omega)), List.nodup_append.mpr ⟨V1.2.1, V2.2.1, fun a ha b hb e => dis a ha (e ▸ hb)⟩, fun i => ?_, fun i hi => ?_⟩
                · rw [List.mem_append]
                  by_cases z : i ∈ L j2
                  · have := ((V2.2.2.1 i).mp z).1
                    rw [pl2 i z]; simp [z, this]
                  · constructor
                    · rintro (q | q)
                      · have := (V1.2.2.1 i).mp q
                        exact ⟨this.1, by rw [plo i 6 (by omega) (Or.inl z)]; exact this.2⟩
                      · exact absurd q z
                    · rintro ⟨q, q'⟩
                      rw [plo i 6 (by omega) (Or.inl z)] at q'
                      exact Or.inl ((V1.2.2.1 i).mpr ⟨q, q'⟩)
                · rcases List.mem_append.mp hi with q | q
                  · rw [plo i 3 (V1.1.2.2.2 i q) (by omega), wv j 2 hj (by decide)]; exact V1.2.2.2 i q
                  · rw [plo i 3 (V2.1.2.2.2 i q) (by omega), wv j 2 hj (by decide), q4]; exact V2.2.2.2 i q
              · by_cases z2 : j = j2
                · subst z2
                  have eL : L' j = [] := (if_neg z1).trans (if_pos rfl)
                  unfold VW
                  rw [eL]
                  refine ⟨o2, List.nodup_nil, fun i => ?_, fun i hi => by simp at hi⟩
                  constructor
                  · intro q; simp at q
                  · rintro ⟨q, q'⟩
                    by_cases z : i ∈ L j
                    · rw [pl2 i z, pz_eq (by omega) (by omega)] at q'; omega
                    · rw [plo i 6 (by omega) (Or.inl z)] at q'
                      exact absurd ((V2.2.2.1 i).mpr ⟨q, q'⟩) z
                · have eL : L' j = L j := (if_neg z1).trans (if_neg z2)
                  obtain ⟨v1, v2, v3, v4⟩ := w7 j hj
                  unfold VW
                  rw [eL]
                  have eq1 : ∀ p, p = 58 + 2 * j ∨ p = 58 + 2 * j + 1 → σ1 p = σ p := fun p hp => by
                    rw [o3 _ (by omega), i3 _ (by omega) (by omega), h3b _ (by omega), e9 _ (by omega)]
                  refine ⟨v1.f (eq1 _ (Or.inl rfl)) (eq1 _ (Or.inr rfl)), v2, fun i => ?_, fun i hi => by rw [plo i 3 (v1.2.2.2 i hi) (by omega), wv j 2 hj (by decide)]; exact v4 i hi⟩
                  rw [v3 i]
                  by_cases z : i ∈ L j2
                  · have hp2 := (V2.2.2.1 i).mp z
                    rw [pl2 i z, hp2.2]
                    constructor
                    · rintro ⟨_, q⟩; rw [pz_eq (by omega) (by omega)] at q; omega
                    · rintro ⟨_, q⟩; rw [pz_eq (by omega) (by omega)] at q; omega
                  · constructor
                    · rintro ⟨q, q'⟩; exact ⟨q, by rw [plo i 6 (by omega) (Or.inl z)]; exact q'⟩
                    · rintro ⟨q, q'⟩; exact ⟨q, by rw [← plo i 6 (by omega) (Or.inl z)]; exact q'⟩
          obtain ⟨μ', cc, u1, u2, u3, u4, u5, u6, ⟨cc1, u7a, u7b⟩, u8, u9, u10, u11, u12, u13⟩ := run σ1 em1'
          refine ⟨iv sec, σ1, 0, sec, μ', cls, u1, AgI.s, u11, Inv.mk' w1 u13 ?_ ?_⟩
          · obtain ⟨ra, rb, rd, re⟩ := u2
            refine ⟨⟨?_, fun i hi => ?_, fun k hk => ?_, fun j hj => ?_⟩, by rw [low 0 (by omega)]; exact u3, fun i hi => ?_⟩
            · rw [low 0 (by omega), low 1 (by omega), ← e9 0 (by omega), ← e9 1 (by omega)]; exact ra
            · rw [plo i 0 hi (by omega), plo i 1 hi (by omega), plo i 2 hi (by omega), plo i 3 hi (by omega), plo i 7 hi (by omega), plw i hi, ← e9 (26 + 2 * i) (by omega), ← e9 (26 + 2 * i + 1) (by omega)]; exact rb i hi
            · rw [low 2 (by omega), low 3 (by omega), low 4 (by omega), low 5 (by omega), ← e9 2 (by omega), ← e9 3 (by omega), ← e9 4 (by omega), ← e9 5 (by omega)]; exact rd k hk
            · rw [wv j 3 hj (by decide), ← e9 (58 + 2 * j) (by omega)]; exact re j hj
            · by_cases z : i ∈ L j2
              · rw [u8 i z, pl2 i z]
              · rw [(u9 i z).1, plo i 6 hi (Or.inl z)]; exact r.2.2 i hi
          · obtain ⟨co, ⟨hco1, hco2⟩, hco3⟩ := c
            have hle : co ≤ cc := by
              rw [hco1, pz_eq (by omega) (by omega)] at u7b
              omega
            refine ⟨cc, u6, fun j hj => ?_⟩
            by_cases z1 : j = j1
            · subst z1
              have eL : L' j = L j ++ L j2 := if_pos rfl
              rw [eL]; exact ⟨u5, u4⟩
            · by_cases z2 : j = j2
              · subst z2
                have eL : L' j = [] := (if_neg z1).trans (if_pos rfl)
                rw [eL]; exact ⟨List.Pairwise.nil, fun i hi => by simp at hi⟩
              · have eL : L' j = L j := (if_neg z1).trans (if_neg z2)
                rw [eL]
                have no2 : ∀ i ∈ L j, i ∉ L j2 := fun i hi hi2 => by
                  have z3 := (((w.w hj).2.2.1 i).mp hi).2
                  have z4 := ((V2.2.2.1 i).mp hi2).2
                  have := (pz_eq (a := j + 1) (b := j2 + 1) (by omega) (by omega)).mp (z3.symm.trans z4)
                  omega
                refine ⟨List.Pairwise.imp_of_mem ?_ (hco3 j hj).1, fun i hi => ?_⟩
                · intro a b ha hb hab
                  rw [(u9 a (no2 a ha)).2, (u9 b (no2 b hb)).2]; exact hab
                · obtain ⟨m, hm1, hm2⟩ := (hco3 j hj).2 i hi
                  exact ⟨m, by omega, by rw [(u9 i (no2 i hi)).2]; exact hm2⟩
        · rw [if_neg hcap] at cls
          simp only [if_pos (show σ9 0 0 < sec by grind)] at run
          obtain ⟨μ', cc, u1, u2, u3, u4, u5, u6, ⟨cc1, u7a, u7b⟩, u8, u9, u10, u11, u12, u13⟩ := run σ9 em9
          obtain ⟨μ2, s1, s2, s3, s4, s5, s6⟩ := jr_m hN N 0 40 μ' u12 (by omega) (by omega)
          have s1 : f_X4_join_217 40 μ' 0 = some (iv 0, μ2) := s1
          have p13 : ∀ i, i < 16 → μ2 13 i = σ 13 i := fun i hi => by
            rcases Nat.lt_or_ge i N with z | z
            · rw [(s5 i (by omega) z).1, (u10 i z).1]
            · rw [(s6 i (Or.inr z)).1, (u9 i (fun q => by have := ((V2.2.2.1 i).mp q).1; omega)).1]
          have p14 : ∀ i, i < N → μ2 14 i = σ 14 i := fun i hi => by
            rw [(s5 i (by omega) hi).2, (u10 i hi).2]
          refine ⟨eS, σ9, 2, 0, μ2, cls, u1.trans s1, AgI.e (by decide) (by decide), s3, Inv.mk' w9 (u13.tr fun p hp => s2 p (by omega) (by omega) (by omega)) ?_ ?_⟩
          · obtain ⟨ra, rb, rd, re⟩ := u2
            refine ⟨⟨⟨(s4 1 (by decide)).trans ra.1, (s4 2 (by decide)).trans ra.2.1, (s4 12 (by decide)).trans ra.2.2⟩, ?_, ?_, ?_⟩, ?_, fun i hi => ?_⟩
            · rw [s2 9 (by decide) (by decide) (by decide), s2 10 (by decide) (by decide) (by decide), s2 11 (by decide) (by decide) (by decide), s2 12 (by decide) (by decide) (by decide), s2 15 (by decide) (by decide) (by decide), s2 16 (by decide) (by decide) (by decide)]; exact rb
            · rw [s2 17 (by decide) (by decide) (by decide), s2 18 (by decide) (by decide) (by decide), s2 19 (by decide) (by decide) (by decide), s2 21 (by decide) (by decide) (by decide)]; exact rd
            · rw [s2 20 (by decide) (by decide) (by decide)]; exact re
            · rw [s4 16 (by decide), u3, e9 0 (by omega)]
            · rw [p13 i hi, e9 _ (by omega)]; exact r.2.2 i hi
          · obtain ⟨co, ⟨hco1, hco2⟩, hco3⟩ := c
            have hle : co ≤ cc := by
              rw [hco1, pz_eq (by omega) (by omega)] at u7b
              omega
            refine ⟨cc, ⟨(s4 11 (by decide)).trans u6.1, u6.2⟩, fun j hj => ⟨List.Pairwise.imp_of_mem ?_ (hco3 j hj).1, fun i hi => ?_⟩⟩
            · intro a b ha hb hab
              have h1 := (((w.w hj).2.2.1 a).mp ha).1
              have h2 := (((w.w hj).2.2.1 b).mp hb).1
              rw [p14 a h1, p14 b h2]; exact hab
            · obtain ⟨m, hm1, hm2⟩ := (hco3 j hj).2 i hi
              have h1 := (((w.w hj).2.2.1 i).mp hi).1
              exact ⟨m, by omega, by rw [p14 i h1]; exact hm2⟩
      · have hx := mdl σ eM.rf
        rw [if_neg hok] at hx
        refine ⟨eS, σ, 2, 0, up2 (up2 σ 8 0 0) 8 0 2, ?_, hx, AgI.e (by decide) (by decide), rfl, two 2⟩
        rw [f_X3_join, e1, qp_p, if_pos (kd_w hj1), e2, qp_p, if_pos (kd_w hj2)]
        simp only [f_X3_requirePlanned]
        by_cases q2 : σ (58 + 2 * j1) 3 = 0
        · rw [if_pos q2, qv_n]
          by_cases q3 : σ (58 + 2 * j2) 3 = 0
          · rw [if_pos q3, qv_n]
            by_cases q1 : j1 = j2
            · subst q1; rw [if_pos rfl]
            · rw [if_neg (show ¬ nI (j1 + 1) = nI (j2 + 1) from fun z => by rw [pz_eq (by omega) (by omega)] at z; omega), if_neg (fun z => hok ⟨q1, q2, q3, z⟩)]
          · rw [if_neg q3, qv_e]
        · rw [if_neg q2, qv_e]
    · refine ⟨eN, σ, 1, 0, up2 σ 8 0 1, ?_, ?_, AgI.e (by decide) (by decide), rfl, hI.q 1⟩
      · rw [f_X3_join, e1, qp_p, if_pos (kd_w hj1), e2, qp_e]
      · rw [f_X4_join, em1, ri_s, if_neg (by decide), em2]; rfl
  · refine ⟨eN, σ, 1, 0, up2 σ 8 0 1, ?_, ?_, AgI.e (by decide) (by decide), rfl, hI.q 1⟩
    · rw [f_X3_join, e1, qp_e]
    · rw [f_X4_join, em1]; rfl
