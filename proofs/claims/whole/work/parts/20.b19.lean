theorem pz_sub {a b : Nat} (h : b ≤ a) (ha : a < 1073741824) : nI a - nI b = nI (a - b) := by
  apply Int32.toInt_inj.mp
  rw [pk_sub_toInt (by omega) (by omega), nI_toInt (by omega)]; omega
theorem PR.len {μ τ : St} {N M0 j K C c : Nat} {L : Nat → List Nat} (P : PR μ τ N M0 (j + 1) K C L c) {b : Nat} (hb : b < N) (ho : opm μ τ b ≠ 0) : (L j).length < 16 := by
  obtain ⟨w, r0, hMM, np, lo, ⟨hc1, hc2⟩, s1, s2⟩ := id P
  have hN := w.1.2
  have hM := w.2.1.2
  obtain ⟨p6, p22, p13⟩ := P.op hb ho
  have V := w.w (j := j) (by omega)
  have nb : b ∉ L j := fun z => by
    have := ((V.2.2.1 b).mp z).2
    rw [p6] at this
    exact absurd ((pz_eq (a := 0) (b := j + 1) (by omega) (by omega)).mp this) (by omega)
  have := two_len (A := [b]) (B := L j) (N := N) (by simp) V.2.1 (fun i hi => by simp at hi; subst hi; exact nb) (fun i hi => by
    rcases List.mem_append.mp hi with z | z
    · simp at z; subst z; exact hb
    · exact ((V.2.2.1 i).mp z).1)
  simp at this; omega
/-- seconds and savings as numbers -/
theorem PR.num {μ τ : St} {N M0 M K C c : Nat} {L : Nat → List Nat} (P : PR μ τ N M0 M K C L c) {j : Nat} (hj : j < 16) {i : Nat} (hi : i < N) : ∃ s v, s ≤ 10000 ∧ v ≤ s ∧ τ (26 + 2 * i) 2 = nI s ∧ gsv τ i (L j) 0 = nI v := by
  have hN := P.1.1.2
  obtain ⟨s, h1, h2⟩ := (P.1.o (i := i) (by omega)).2.1
  obtain ⟨v, h3, h4⟩ := gsv_b h2 (by omega) (L j) 0 (fun x hx => (P.1.o ((P.1.w hj).1.2.2.2 x hx)).2.1) (by omega)
  exact ⟨s, v, h1, h3, h2, h4⟩
/-- the next order for the wave that is made -/
theorem nx_c {μ τ : St} {N M0 j K C c cp ld : Nat} {L : Nat → List Nat} (P : PR μ τ N M0 (j + 1) K C L c) (hj0 : M0 ≤ j) (hcp : cp ≤ 65536) (hcap : τ 0 0 = nI cp) (hld : ld ≤ cp) : ∃ v, f_X3_bestAddition τ (58 + 2 * j) (nI cp - nI ld) = some (iv v) ∧ f_X4_best μ (nI (j + 1)) (τ (58 + 2 * j) 2) (nI ld) = some (iv v) ∧ (v = -1 ∨ ∃ b, b < N ∧ v = nI b ∧ opm μ τ b ≠ 0 ∧ τ (26 + 2 * b) 3 = τ (58 + 2 * j) 2 ∧ (nI ld + τ (26 + 2 * b) 2) - gsv τ b (L j) 0 ≤ nI cp) := by
  have hM := P.1.2.1.2
  have hN := P.1.1.2
  have hj : j < 16 := by omega
  have fw := P.fw hj0 (Nat.lt_succ_self j)
  have h81 : μ 8 1 = nI cp := P.2.1.1.1.trans hcap
  obtain ⟨v, e1, e2⟩ := bt_tt P.n hN P.2.1 P.1.k P.1.z (nI (j + 1)) (τ (58 + 2 * j) 2) (nI ld)
  refine ⟨v, ?_, e1, e2.imp_right ?_⟩
  · rw [bt_cc P.n hN P.2.1 P.1.k P.1.z P.1.1.1 (fun i hi => P.mb hi) (P.1.w hj).1 fw (ld := nI ld) (fun i hi => ?_)]
    · exact e1
    · obtain ⟨s, v, h1, h2, h3, h4⟩ := P.num hj hi
      rw [h3, h4, h81, pz_sub h2 (by omega), pz_sub hld (by omega), nI_add, pz_sub (by omega) (by omega), pz_le (by omega) (by omega), pz_le (by omega) (by omega)]
      omega
  · rintro ⟨b, q1, q2, q3, q4, q5⟩
    rw [gsv_perm fw, h81] at q5
    exact ⟨b, q1, q2, q3, q4, q5⟩
theorem fj {N M0 j K C cp f : Nat} (hj0 : M0 ≤ j) (hC : C < 1073741824) (hcp : cp ≤ 65536) (hf : f < 16) : ∀ u μ τ L c ld s x n1 n2, PR μ τ N M0 (j + 1) K C L c → τ 0 0 = nI cp → μ 12 f = τ (58 + 2 * j) 2 → ld ≤ cp → cnt (opn μ) N ≤ u → u < n1 → u < n2 → (x = -1 ∨ ∃ b, b < N ∧ x = nI b ∧ opm μ τ b ≠ 0 ∧ τ (26 + 2 * b) 3 = τ (58 + 2 * j) 2 ∧ (nI ld + τ (26 + 2 * b) 2) - gsv τ b (L j) 0 ≤ nI cp) →
    ∃ τ' μ' L' c' s', f_X3_makeWave_44 (58 + 2 * j) n1 τ (nI cp - nI ld) x (nI (L j).length) = some (.inl none, τ') ∧ f_X4_fill_24 (nI f) (nI (j + 1)) n2 μ (nI ld) s x = some (iv s', μ') ∧ PR μ' τ' N M0 (j + 1) K C L' c' ∧ (∀ k, k ≠ j → L' k = L k) ∧ s' = s + (so τ [] (L' j) 0 - so τ [] (L j) 0) ∧ SE τ' τ ∧ (∀ p, p < 26 → τ' p = τ p) ∧ PF μ μ' ∧ μ' 24 = μ 24 := by
  intro u
  have stop : ∀ μ τ L c ld s n1 n2, PR μ τ N M0 (j + 1) K C L c → f_X3_makeWave_44 (58 + 2 * j) (n1 + 1) τ (nI cp - nI ld) (-1) (nI (L j).length) = some (.inl none, τ) ∧ f_X4_fill_24 (nI f) (nI (j + 1)) (n2 + 1) μ (nI ld) s (-1) = some (iv s, μ) := by
    intro μ τ L c ld s n1 n2 P
    refine ⟨?_, rfl⟩
    simp only [f_X3_makeWave_44]
    split
    · rfl
    · rfl
  induction u with
  | zero =>
    intro μ τ L c ld s x n1 n2 P hcap hca hld hu h1 h2 hx
    obtain ⟨n1, rfl⟩ : ∃ m, n1 = m + 1 := ⟨n1 - 1, by omega⟩
    obtain ⟨n2, rfl⟩ : ∃ m, n2 = m + 1 := ⟨n2 - 1, by omega⟩
    rcases hx with e | ⟨b, hb, e, ho, _⟩
    · subst e
      obtain ⟨e1, e2⟩ := stop μ τ L c ld s n1 n2 P
      exact ⟨τ, μ, L, c, s, e1, e2, P, fun _ _ => rfl, by grind, SE.rf, fun _ _ => rfl, PF.rf, rfl⟩
    · have := cnt_pos (p := opn μ) hb (decide_eq_true (opm_ne ho))
      omega
  | succ u ih =>
    intro μ τ L c ld s x n1 n2 P hcap hca hld hu h1 h2 hx
    obtain ⟨n1, rfl⟩ : ∃ m, n1 = m + 1 := ⟨n1 - 1, by omega⟩
    obtain ⟨n2, rfl⟩ : ∃ m, n2 = m + 1 := ⟨n2 - 1, by omega⟩
    rcases hx with e | ⟨b, hb, e, ho, hcb, hle⟩
    · subst e
      obtain ⟨e1, e2⟩ := stop μ τ L c ld s n1 n2 P
      exact ⟨τ, μ, L, c, s, e1, e2, P, fun _ _ => rfl, by grind, SE.rf, fun _ _ => rfl, PF.rf, rfl⟩
    · subst e
      have hM := P.1.2.1.2
      have hN := P.1.1.2
      have hj : j < 16 := by omega
      have hb16 : b < 16 := by omega
      have hlen := P.len hb ho
      have V := P.1.w hj
      obtain ⟨sb, v, g1, g2, g3, g4⟩ := P.num hj hb
      have hgs : f_X3_greatestSaving τ (26 + 2 * b) (58 + 2 * j) (τ (58 + 2 * j) 1) = some (iv (nI v)) := by
        rw [V.1.1, ← g4]; exact gs_cc P.1.z V.1 hb16 (L j) [] (by simp)
      obtain ⟨τ5, a1, P', se, a4, a5, a6⟩ := st_1 P hj0 hb ho hcb hC
      rw [g3, g4, nI_add, pz_sub (by omega) (by omega), pz_le (by omega) (by omega)] at hle
      have ld' : nI ld + (nI sb - nI v) = nI (ld + (sb - v)) := by rw [pz_sub g2 (by omega), nI_add]
      have hroom : nI cp - nI ld - (nI sb - nI v) = nI cp - nI (ld + (sb - v)) := by rw [← ld']; grind
      obtain ⟨x', b1, b2, b3⟩ := nx_c P' hj0 hcp (by rw [a5 0 (by omega)]; exact hcap) (show ld + (sb - v) ≤ cp by omega)
      have hmo : f_X4_most μ (nI b) (nI (j + 1)) = some (iv (nI v)) := by
        rw [mo_mm P.n hN P.2.1 P.1.z hb16, gsv_perm (P.fw hj0 (Nat.lt_succ_self j)), g4]
      have h11 : put μ b (nI (j + 1)) 11 b = nI sb := by
        show μ 11 b = _
        rw [(P.2.1.2.1 b hb16).2.2.1, g3]
      have h12 : put μ b (nI (j + 1)) 12 f = up2 τ5 (26 + 2 * b) 6 (τ5 0 6) (58 + 2 * j) 2 := by
        show μ 12 f = _
        rw [hca, a4]
      have gb : ¬ (nI b < 0 ∨ 16 ≤ b) := by have := pz_in (b := 16) (k := b) (by omega) (by omega); rwa [pz_N (by omega)] at this
      simp only [f_X3_makeWave_44, f_X4_fill_24]
      rw [if_neg (show ¬ (16 : Int32) ≤ nI (L j).length from fun z => by rw [show (16 : Int32) = nI 16 from rfl, pz_le (by omega) (by omega)] at z; omega), if_neg (pz_m1 (n := b) (by omega)), if_neg (pz_in hb16 (by omega)), pz_N (by omega), hgs, ri_s, a1, nv_s, g3, hroom, b1, ri_s, pz_s, hmo, ri_s, put_e hb16, nv_s, if_neg (pz_m1 (n := b) (by omega)), if_neg gb, if_neg (pz_in hf (by omega)), pz_N (by omega), h11, h12, ld', b2, ri_s]
      have hw : nI (j + 1) ≠ 0 := fun z => absurd ((pz_eq (a := j + 1) (b := 0) (by omega) (by omega)).mp z) (by omega)
      obtain ⟨τ', μ', L', c', s', c1, c2, c3, c4, c5, c6, c7, c8', c9⟩ := ih (put μ b (nI (j + 1))) (up2 τ5 (26 + 2 * b) 6 (τ5 0 6)) (fun k => if k = j then L j ++ [b] else L k) (c + 1) (ld + (sb - v)) (s + nI v) x' n1 n2 P' (by rw [a5 0 (by omega)]; exact hcap) h12 (by omega) (by have := put_o (N := N) hw hb ho; omega) (by omega) (by omega) b3
      simp only [if_true, List.length_append, List.length_singleton] at c1
      refine ⟨τ', μ', L', c', s', c1, c2, c3, fun k hk => (c4 k hk).trans (if_neg hk), ?_, c6.tr se, fun p hp => (c7 p hp).trans (a5 p hp), put_f.tr c8', c9.trans put_24⟩
      have hl16 : ∀ x ∈ L' j, x < 16 := (c3.1.w hj).1.2.2.2
      have hl16' : ∀ x ∈ L j ++ [b], x < 16 := fun x hx => by
        rcases List.mem_append.mp hx with q | q
        · exact V.1.2.2.2 x q
        · simp at q; subst q; exact hb16
      rw [c5]
      simp only [if_true]
      rw [se.so (L' j) [] 0 hl16 (fun x hx => by simp at hx), se.so (L j ++ [b]) [] 0 hl16' (fun x hx => by simp at hx), so_snoc, List.nil_append, g4]
      grind
