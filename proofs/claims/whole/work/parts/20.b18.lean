/-! planning: class and reference side by side -/
def NP (μ τ : St) (M0 M i : Nat) : Prop := (μ 22 i = 0 ∧ μ 13 i = τ (26 + 2 * i) 6 ∧ (τ (26 + 2 * i) 6 = -1 ∨ ∃ p, p ≤ M0 ∧ τ (26 + 2 * i) 6 = nI p)) ∨ (μ 13 i = 0 ∧ ∃ p, M0 < p ∧ p ≤ M ∧ μ 22 i = nI p ∧ τ (26 + 2 * i) 6 = nI p)
def PR (μ τ : St) (N M0 M K C : Nat) (L : Nat → List Nat) (c : Nat) : Prop :=
  WF τ N M K L ∧ R0 μ τ ∧ M0 ≤ M ∧ (∀ i, i < N → NP μ τ M0 M i) ∧ (∀ i, i < N → τ (26 + 2 * i) 8 = μ 24 i) ∧ (μ 8 11 = nI c ∧ c + cnt (opn μ) N ≤ C) ∧ (∀ j, j < M0 → (L j).Pairwise (fun a b => μ 14 a < μ 14 b) ∧ ∀ i ∈ L j, ∃ m, m < c ∧ μ 14 i = nI m) ∧ ∀ j, M0 ≤ j → j < M → (L j).Pairwise (fun a b => μ 23 a < μ 23 b) ∧ ∀ i ∈ L j, ∃ m, m < c ∧ μ 23 i = nI m
section
variable {μ τ : St} {N M0 M K C c : Nat} {L : Nat → List Nat}
theorem PR.n (P : PR μ τ N M0 M K C L c) : μ 8 2 = nI N := P.2.1.1.2.1.trans P.1.1.1
theorem PR.mb (P : PR μ τ N M0 M K C L c) {i : Nat} (hi : i < N) : f_X3_mayBePlanned τ (26 + 2 * i) = some (iv (opm μ τ i)) := by
  have hM := P.1.2.1.2
  have hN := P.1.1.2
  have hMM := P.2.2.1
  unfold f_X3_mayBePlanned opm
  rw [ft_c τ P.1.k, ri_s]
  rcases P.2.2.2.1 i hi with ⟨h1, h2, h3⟩ | ⟨h1, p, h2, h3, h4, h5⟩
  · rw [h1, h2, if_pos (show (0 : Int32) = 0 from rfl)]
    by_cases q : τ (26 + 2 * i) 6 = 0
    · rw [if_pos q, if_pos q]; split <;> rfl
    · rw [if_neg q, if_neg q]
  · have q : ¬ nI p = 0 := fun z => absurd ((pz_eq (a := p) (b := 0) (by omega) (by omega)).mp z) (by omega)
    rw [h1, h4, h5, if_neg q, if_pos (show (0 : Int32) = 0 from rfl), if_neg q]
theorem PR.op (P : PR μ τ N M0 M K C L c) {i : Nat} (hi : i < N) (h : opm μ τ i ≠ 0) : τ (26 + 2 * i) 6 = 0 ∧ μ 22 i = 0 ∧ μ 13 i = 0 := by
  obtain ⟨h1, h2⟩ := opm_ne h
  rcases P.2.2.2.1 i hi with ⟨q1, q2, q3⟩ | ⟨q1, p, q2, q3, q4, q5⟩
  · exact ⟨q2.symm.trans h1, h2, h1⟩
  · have hM := P.1.2.1.2
    exact absurd ((pz_eq (a := p) (b := 0) (by omega) (by omega)).mp (q4.symm.trans h2)) (by omega)
theorem PR.fw (P : PR μ τ N M0 M K C L c) {j : Nat} (h1 : M0 ≤ j) (h2 : j < M) : (Fw (μ 22) (nI (j + 1)) 0 N).Perm (L j) := by
  have hM := P.1.2.1.2
  have V := P.1.w (j := j) (by omega)
  refine (List.perm_ext_iff_of_nodup (Fw_nd _ _ _ _) V.2.1).mpr fun i => ?_
  rw [Fw_mem, V.2.2.1 i]
  refine and_congr_right fun hi => ?_
  rcases P.2.2.2.1 i hi with ⟨q1, q2, q3⟩ | ⟨q1, p, q2, q3, q4, q5⟩
  · rw [q1]
    constructor
    · intro z; exact absurd ((pz_eq (a := 0) (b := j + 1) (by omega) (by omega)).mp z) (by omega)
    · intro z
      rcases q3 with q | ⟨p, q, q'⟩
      · exact absurd (z.symm.trans q) (pz_m1 (by omega))
      · exact absurd ((pz_eq (a := p) (b := j + 1) (by omega) (by omega)).mp (q'.symm.trans z)) (by omega)
  · rw [q4, q5]
end
/-- an order more in the wave that is made -/
theorem st_1 {μ τ : St} {N M0 j K C c : Nat} {L : Nat → List Nat} (P : PR μ τ N M0 (j + 1) K C L c) (hj0 : M0 ≤ j) {b : Nat} (hb : b < N) (ho : opm μ τ b ≠ 0) (hca : τ (26 + 2 * b) 3 = τ (58 + 2 * j) 2) (hC : C < 1073741824) :
    ∃ τ5, f_X2_add τ (58 + 2 * j) (nI b) = some (.inl none, τ5) ∧ PR (put μ b (nI (j + 1))) (up2 τ5 (26 + 2 * b) 6 (τ5 0 6)) N M0 (j + 1) K C (fun k => if k = j then L j ++ [b] else L k) (c + 1) ∧ SE (up2 τ5 (26 + 2 * b) 6 (τ5 0 6)) τ ∧ (up2 τ5 (26 + 2 * b) 6 (τ5 0 6)) (58 + 2 * j) 2 = τ (58 + 2 * j) 2 ∧ (∀ p, p < 26 → (up2 τ5 (26 + 2 * b) 6 (τ5 0 6)) p = τ p) ∧ ∀ i k, i < 16 → k ≠ 6 → (up2 τ5 (26 + 2 * b) 6 (τ5 0 6)) (26 + 2 * i) k = τ (26 + 2 * i) k := by
  obtain ⟨w, r0, hMM, np, lo, ⟨hc1, hc2⟩, s1, s2⟩ := id P
  have hN := w.1.2
  have hM := w.2.1.2
  have hj : j < 16 := by omega
  have hb16 : b < 16 := by omega
  obtain ⟨p6, p22, p13⟩ := P.op hb ho
  have V := w.w hj
  have nb : b ∉ L j := fun z => by
    have := ((V.2.2.1 b).mp z).2
    rw [p6] at this
    exact absurd ((pz_eq (a := 0) (b := j + 1) (by omega) (by omega)).mp this) (by omega)
  have hl : (L j).length < 16 := by
    have := two_len (A := [b]) (B := L j) (N := N) (by simp) V.2.1 (fun i hi => by simp at hi; subst hi; exact nb) (fun i hi => by
      rcases List.mem_append.mp hi with z | z
      · simp at z; subst z; exact hb
      · exact ((V.2.2.1 i).mp z).1)
    simp at this; omega
  obtain ⟨τ5, a1, a2, a3, a4⟩ := ad_c V.1 hl hb16
  have e06 : τ5 0 6 = nI (j + 1) := by rw [a3 0 (by omega) (by omega)]; exact w.2.1.1
  refine ⟨τ5, a1, ?_⟩
  rw [e06]
  generalize hτ : up2 τ5 (26 + 2 * b) 6 (nI (j + 1)) = τ6
  have t6 : τ6 (26 + 2 * b) 6 = nI (j + 1) := by rw [← hτ]; exact up2_at
  have tlo : ∀ p, p < 26 → τ6 p = τ p := fun p hp => by rw [← hτ, up2_ne (by omega)]; exact a3 p (by omega) (by omega)
  have tk : ∀ i k, i < 16 → i ≠ b ∨ k ≠ 6 → τ6 (26 + 2 * i) k = τ (26 + 2 * i) k := fun i k hi h => by
    rw [← hτ]
    have : up2 τ5 (26 + 2 * b) 6 (nI (j + 1)) (26 + 2 * i) k = τ5 (26 + 2 * i) k := by
      rcases h with h | h
      · exact up2_ap (by omega)
      · exact up2_ak h
    rw [this, a3 _ (by omega) (by omega)]
  have tw' : ∀ i, i < 16 → τ6 (26 + 2 * i + 1) = τ (26 + 2 * i + 1) := fun i hi => by rw [← hτ, up2_ne (by omega)]; exact a3 _ (by omega) (by omega)
  have twv : ∀ k, k < 16 → k ≠ j → τ6 (58 + 2 * k) = τ (58 + 2 * k) ∧ τ6 (58 + 2 * k + 1) = τ (58 + 2 * k + 1) := fun k hk hkj => by
    rw [← hτ, up2_ne (by omega), up2_ne (by omega)]
    exact ⟨a3 _ (by omega) (by omega), a3 _ (by omega) (by omega)⟩
  have twk : ∀ k, k ≠ 1 → τ6 (58 + 2 * j) k = τ (58 + 2 * j) k := fun k hk => by rw [← hτ, up2_ap (by omega)]; exact a4 k hk
  have R6 : Rp τ6 (58 + 2 * j) (L j ++ [b]) := a2.f (by rw [← hτ]; exact up2_ne (by omega)) (by rw [← hτ]; exact up2_ne (by omega))
  have w6 : WF τ6 N (j + 1) K (fun k => if k = j then L j ++ [b] else L k) := by
    obtain ⟨w1, w2, w3, w4, w5, w6, w7⟩ := id w
    refine ⟨by rw [tlo 0 (by omega)]; exact w1, by rw [tlo 0 (by omega)]; exact w2, by rw [tlo 1 (by omega)]; exact w3, by rw [tlo 0 (by omega)]; exact w4, fun i hi => ?_, by rw [tlo 5 (by omega)]; exact w6, fun k hk => ?_⟩
    · obtain ⟨a, b', cc, d, e, f⟩ := w5 i hi
      unfold OW
      rw [tk i 1 hi (by omega), tk i 2 hi (by omega), tk i 4 hi (by omega), tw' i hi]
      refine ⟨a, b', cc, d, ?_⟩
      by_cases z : i = b
      · subst z
        rw [t6]
        exact ⟨Or.inr ⟨j + 1, by omega, rfl⟩, fun z => absurd hb (by omega)⟩
      · rw [tk i 6 hi (Or.inl z)]; exact ⟨e, f⟩
    · unfold VW
      by_cases z : k = j
      · subst z
        simp only [if_true]
        refine ⟨R6, List.nodup_append.mpr ⟨V.2.1, by simp, fun a ha b' hb' e => by simp at hb'; subst hb'; exact nb (e ▸ ha)⟩, fun i => ?_, fun i hi => ?_⟩
        · rw [List.mem_append, List.mem_singleton]
          by_cases z : i = b
          · subst z; rw [t6]; simp [hb]
          · simp only [z, or_false]
            rw [V.2.2.1 i]
            constructor
            · rintro ⟨q, q'⟩; exact ⟨q, by rw [tk i 6 (by omega) (Or.inl z)]; exact q'⟩
            · rintro ⟨q, q'⟩; exact ⟨q, by rw [← tk i 6 (by omega) (Or.inl z)]; exact q'⟩
        · rw [twk 2 (by decide)]
          rcases List.mem_append.mp hi with q | q
          · rw [tk i 3 (V.1.2.2.2 i q) (by omega)]; exact V.2.2.2 i q
          · simp at q; subst q
            rw [tk i 3 hb16 (by omega)]; exact hca
      · simp only [if_neg z]
        obtain ⟨v1, v2, v3, v4⟩ := w7 k hk
        obtain ⟨z1, z2⟩ := twv k hk z
        refine ⟨v1.f z1 z2, v2, fun i => ?_, fun i hi => by rw [tk i 3 (v1.2.2.2 i hi) (by omega), z1]; exact v4 i hi⟩
        rw [v3 i]
        by_cases y : i = b
        · subst y
          rw [t6, p6]
          constructor
          · rintro ⟨_, q⟩; exact absurd ((pz_eq (a := 0) (b := k + 1) (by omega) (by omega)).mp q) (by omega)
          · rintro ⟨_, q⟩; exact absurd ((pz_eq (a := j + 1) (b := k + 1) (by omega) (by omega)).mp q) (by omega)
        · constructor
          · rintro ⟨q, q'⟩; exact ⟨q, by rw [tk i 6 (by omega) (Or.inl y)]; exact q'⟩
          · rintro ⟨q, q'⟩; exact ⟨q, by rw [← tk i 6 (by omega) (Or.inl y)]; exact q'⟩
  refine ⟨⟨w6, ?_, hMM, fun i hi => ?_, fun i hi => ?_, ⟨?_, ?_⟩, fun k hk => ?_, fun k hk hk2 => ?_⟩, fun i hi => ⟨tk i 1 hi (by omega), tk i 2 hi (by omega), tw' i hi⟩, twk 2 (by decide), tlo, fun i k hi hk => tk i k hi (Or.inr hk)⟩
  · have := put_f (μ := μ) (b := b) (w := nI (j + 1)) |>.r0 r0
    obtain ⟨ra, rb, rd, re⟩ := this
    refine ⟨by rw [tlo 0 (by omega), tlo 1 (by omega)]; exact ra, fun i hi => ?_, fun k hk => by rw [tlo 2 (by omega), tlo 3 (by omega), tlo 4 (by omega), tlo 5 (by omega)]; exact rd k hk, fun k hk => ?_⟩
    · rw [tk i 0 hi (by omega), tk i 1 hi (by omega), tk i 2 hi (by omega), tk i 3 hi (by omega), tk i 7 hi (by omega), tw' i hi]; exact rb i hi
    · by_cases z : k = j
      · subst z; rw [twk 3 (by decide)]; exact re k hk
      · rw [(twv k hk z).1]; exact re k hk
  · unfold NP
    rw [put_13, put_22]
    by_cases z : i = b
    · subst z
      rw [if_pos rfl, t6]
      exact Or.inr ⟨p13, j + 1, by omega, by omega, rfl, rfl⟩
    · rw [if_neg z, tk i 6 (by omega) (Or.inl z)]; exact np i hi
  · rw [put_24, tk i 8 (by omega) (by omega)]; exact lo i hi
  · show up2 _ 8 11 (μ 8 11 + 1) 8 11 = _
    rw [up2_at, hc1, pz_s]
  · have := put_o (μ := μ) (τ := τ) (w := nI (j + 1)) (N := N) (fun z => absurd ((pz_eq (a := j + 1) (b := 0) (by omega) (by omega)).mp z) (by omega)) hb ho
    omega
  · rw [put_14]
    simp only [if_neg (show ¬ k = j by omega)]
    exact ⟨(s1 k hk).1, fun i hi => by obtain ⟨m, q, q'⟩ := (s1 k hk).2 i hi; exact ⟨m, by omega, q'⟩⟩
  · have nbk : ∀ i, i ∈ L k → i ≠ b := fun i hi z => by
      subst z
      have := (((w.w (j := k) (by omega)).2.2.1 i).mp hi).2
      rw [p6] at this
      exact absurd ((pz_eq (a := 0) (b := k + 1) (by omega) (by omega)).mp this) (by omega)
    have e23 : ∀ i, i ∈ L k → put μ b (nI (j + 1)) 23 i = μ 23 i := fun i hi => by rw [put_23, if_neg (nbk i hi)]
    have pk : (L k).Pairwise (fun a b' => put μ b (nI (j + 1)) 23 a < put μ b (nI (j + 1)) 23 b') := List.Pairwise.imp_of_mem (fun {x y} hx hy hxy => by rw [e23 x hx, e23 y hy]; exact hxy) (s2 k hk hk2).1
    have bk : ∀ i ∈ L k, ∃ m, m < c ∧ put μ b (nI (j + 1)) 23 i = nI m := fun i hi => by
      obtain ⟨m, q, q'⟩ := (s2 k hk hk2).2 i hi
      exact ⟨m, q, by rw [e23 i hi]; exact q'⟩
    by_cases z : k = j
    · subst z
      simp only [if_true]
      have eb : put μ b (nI (k + 1)) 23 b = nI c := by rw [put_23, if_pos rfl, hc1]
      refine ⟨List.pairwise_append.mpr ⟨pk, by simp, fun a ha b' hb' => ?_⟩, fun i hi => ?_⟩
      · simp at hb'; subst hb'
        obtain ⟨m, q, q'⟩ := bk a ha
        rw [eb, q', pz_lt (by omega) (by omega)]; exact q
      · rcases List.mem_append.mp hi with q | q
        · obtain ⟨m, y, y'⟩ := bk i q; exact ⟨m, by omega, y'⟩
        · simp at q; subst q; exact ⟨c, by omega, eb⟩
    · simp only [if_neg z]
      exact ⟨pk, fun i hi => by obtain ⟨m, y, y'⟩ := bk i hi; exact ⟨m, by omega, y'⟩⟩
