theorem PR.nil {μ τ : St} {N M0 M K C c : Nat} {L : Nat → List Nat} (P : PR μ τ N M0 M K C L c) {j : Nat} (h1 : M ≤ j) (h2 : j < 16) : L j = [] := by
  have hM := P.1.2.1.2
  have hN := P.1.1.2
  cases hl : L j with
  | nil => rfl
  | cons x r =>
    have := ((P.1.w h2).2.2.1 x).mp (by rw [hl]; simp)
    rcases (P.1.o (i := x) (by omega)).2.2.2.2.1 with q | ⟨p, q, q'⟩
    · exact absurd (this.2.symm.trans q) (pz_m1 (by omega))
    · exact absurd ((pz_eq (a := p) (b := j + 1) (by omega) (by omega)).mp (q'.symm.trans this.2)) (by omega)
theorem have_congr {α β : St} (h1 : β 1 = α 1) (h2 : β 2 = α 2) (h3 : β 3 = α 3) (h4 : β 4 = α 4) (c t : Int32) : ∀ n x, f_X0_have_2 β c t n x = f_X0_have_2 α c t n x := by
  intro n
  induction n with
  | zero => intro x; rfl
  | succ n ih => intro x; simp only [f_X0_have_2, h1, h2, h3, h4, ih]
theorem hv_congr {α β : St} (h : ∀ p, p < 26 → p ≠ 0 → β p = α p) {i : Nat} (h3 : β (26 + 2 * i) 3 = α (26 + 2 * i) 3) (h0 : β (26 + 2 * i) 0 = α (26 + 2 * i) 0) : hv β i = hv α i := by
  unfold hv
  rw [h3, h0]
  have := have_congr (h 1 (by decide) (by decide)) (h 2 (by decide) (by decide)) (h 3 (by decide) (by decide)) (h 4 (by decide) (by decide)) (α (26 + 2 * i) 3) (α (26 + 2 * i) 0) 40 0
  rw [show f_X0_have β (α (26 + 2 * i) 3) (α (26 + 2 * i) 0) = f_X0_have α (α (26 + 2 * i) 3) (α (26 + 2 * i) 0) from this]
/-- a new wave of one order, and what comes to it -/
theorem mw {μ τ : St} {N M0 M K C c cp b sb : Nat} {L : Nat → List Nat} (P : PR μ τ N M0 M K C L c) (hC : C < 1073741824) (hM : M < 16) (hcp : cp ≤ 65536) (hcap : τ 0 0 = nI cp) (hb : b < N) (ho : opm μ τ b ≠ 0) (hsb : τ (26 + 2 * b) 2 = nI sb) (hle : sb ≤ cp) :
    ∃ τ' μ' L' c' s', f_X3_makeWave τ (nI b) = some (.inl none, τ') ∧ f_X4_fill (put μ b (nI (M + 1))) (nI b) (nI (M + 1)) = some (iv s', μ') ∧ PR μ' τ' N M0 (M + 1) K C L' c' ∧ (∀ k, k ≠ M → L' k = L k) ∧ s' = so τ [] (L' M) 0 ∧ SE τ' τ ∧ τ' 0 0 = τ 0 0 ∧ (∀ p, p < 26 → p ≠ 0 → τ' p = τ p) ∧ PF (put μ b (nI (M + 1))) μ' ∧ μ' 24 = μ 24 := by
  obtain ⟨w, r0, hMM, np, lo, ⟨hc1, hc2⟩, s1, s2⟩ := id P
  have hN := w.1.2
  have hb16 : b < 16 := by omega
  have hnil : L M = [] := P.nil (Nat.le_refl _) hM
  -- the wave is opened
  generalize hτ : up2 (up2 τ 0 6 (nI (M + 1))) (58 + 2 * M) 2 (τ (26 + 2 * b) 3) = τa
  have t06 : τa 0 6 = nI (M + 1) := by rw [← hτ, up2_ap (by omega), up2_at]
  have t0 : ∀ k, k ≠ 6 → τa 0 k = τ 0 k := fun k hk => by rw [← hτ, up2_ap (by omega), up2_ak hk]
  have tp : ∀ p, p ≠ 0 → p ≠ 58 + 2 * M → τa p = τ p := fun p h1 h2 => by rw [← hτ, up2_ne h2, up2_ne h1]
  have tk : ∀ k, k ≠ 2 → τa (58 + 2 * M) k = τ (58 + 2 * M) k := fun k hk => by rw [← hτ, up2_ak hk, up2_ap (by omega)]
  have t2 : τa (58 + 2 * M) 2 = τ (26 + 2 * b) 3 := by rw [← hτ]; exact up2_at
  have wa : WF τa N (M + 1) K L := by
    obtain ⟨w1, w2, w3, w4, w5, w6, w7⟩ := id w
    refine ⟨by rw [t0 4 (by decide)]; exact w1, ⟨t06, by omega⟩, by rw [tp 1 (by omega) (by omega)]; exact w3, by rw [t0 0 (by decide)]; exact w4, fun i hi => ?_, by rw [tp 5 (by omega) (by omega)]; exact w6, fun k hk => ?_⟩
    · unfold OW
      rw [tp _ (by omega) (by omega), tp _ (by omega) (by omega)]
      obtain ⟨a, b', cc, d, e, f⟩ := w5 i hi
      refine ⟨a, b', cc, d, e.imp_right ?_, f⟩
      rintro ⟨p, q, q'⟩; exact ⟨p, by omega, q'⟩
    · obtain ⟨v1, v2, v3, v4⟩ := w7 k hk
      by_cases z : k = M
      · subst z
        rw [hnil] at v1 v2 v3 v4
        unfold VW
        rw [hnil]
        refine ⟨⟨by rw [tk 1 (by decide)]; exact v1.1, v1.2.1, by rw [tp _ (by omega) (by omega)]; exact v1.2.2.1, v1.2.2.2⟩, v2, fun i => ?_, fun i hi => by simp at hi⟩
        rcases Nat.lt_or_ge i 16 with z | z
        · rw [tp _ (by omega) (by omega)]; exact v3 i
        · constructor
          · intro q; simp at q
          · rintro ⟨q, _⟩; omega
      · refine ⟨v1.f (tp _ (by omega) (by omega)) (tp _ (by omega) (by omega)), v2, fun i => ?_, fun i hi => by rw [tp _ (by omega) (by have := v1.2.2.2 i hi; omega), tp _ (by omega) (by omega)]; exact v4 i hi⟩
        rcases Nat.lt_or_ge i 16 with z | z
        · rw [tp _ (by omega) (by omega)]; exact v3 i
        · constructor
          · intro q; have := v1.2.2.2 i q; omega
          · rintro ⟨q, _⟩; omega
  have ra : R0 μ τa := by
    obtain ⟨ra, rb, rd, re⟩ := r0
    refine ⟨by rw [t0 0 (by decide), t0 4 (by decide), tp 1 (by omega) (by omega)]; exact ra, fun i hi => by rw [tp _ (by omega) (by omega), tp _ (by omega) (by omega)]; exact rb i hi, fun k hk => by rw [tp 2 (by omega) (by omega), tp 3 (by omega) (by omega), tp 4 (by omega) (by omega), tp 5 (by omega) (by omega)]; exact rd k hk, fun k hk => ?_⟩
    by_cases z : k = M
    · subst z; rw [tk 3 (by decide)]; exact re k hk
    · rw [tp _ (by omega) (by omega)]; exact re k hk
  have Pa : PR μ τa N M0 (M + 1) K C L c := by
    refine ⟨wa, ra, by omega, fun i hi => ?_, fun i hi => by rw [tp _ (by omega) (by omega)]; exact lo i hi, ⟨hc1, hc2⟩, s1, fun j h1 h2 => ?_⟩
    · unfold NP
      rw [tp _ (by omega) (by omega)]
      refine (np i hi).imp_right ?_
      rintro ⟨q1, p, q2, q3, q4⟩; exact ⟨q1, p, q2, by omega, q4⟩
    · rcases Nat.lt_or_ge j M with z | z
      · exact s2 j h1 z
      · have : j = M := by omega
        subst this
        rw [hnil]; exact ⟨List.Pairwise.nil, fun i hi => by simp at hi⟩
  have hoa : opm μ τa b ≠ 0 := by
    have : hv τa b = hv τ b := hv_congr (fun p h1 h2 => tp p h2 (by omega)) (by rw [tp _ (by omega) (by omega)]) (by rw [tp _ (by omega) (by omega)])
    unfold opm at ho ⊢
    rw [this]; exact ho
  have hcb : τa (26 + 2 * b) 3 = τa (58 + 2 * M) 2 := by rw [t2, tp _ (by omega) (by omega)]
  have hcapa : τa 0 0 = nI cp := by rw [t0 0 (by decide)]; exact hcap
  have hsba : τa (26 + 2 * b) 2 = nI sb := by rw [tp _ (by omega) (by omega)]; exact hsb
  have sea : SE τa τ := fun i hi => by rw [tp _ (by omega) (by omega), tp _ (by omega) (by omega)]; exact ⟨rfl, rfl, rfl⟩
  have Va := wa.w hM
  have hgs : f_X3_greatestSaving τa (26 + 2 * b) (58 + 2 * M) (τa (58 + 2 * M) 1) = some (iv 0) := by
    rw [Va.1.1]
    have := gs_cc wa.z Va.1 hb16 (L M) [] (by simp)
    rw [hnil] at this ⊢; exact this
  obtain ⟨τ5, a1, P', se, a4, a5, a6⟩ := st_1 Pa (by omega) hb hoa hcb hC
  obtain ⟨x', b1, b2, b3⟩ := nx_c P' (by omega) hcp (by rw [a5 0 (by omega)]; exact hcapa) hle
  have h12 : put μ b (nI (M + 1)) 12 b = up2 τ5 (26 + 2 * b) 6 (τ5 0 6) (58 + 2 * M) 2 := by
    show μ 12 b = _
    rw [(r0.2.1 b hb16).2.2.2.1, a4, t2]
  have h11 : put μ b (nI (M + 1)) 11 b = nI sb := by
    show μ 11 b = _
    rw [(r0.2.1 b hb16).2.2.1, hsb]
  obtain ⟨τ', μ', L', c', s', c1, c2, c3, c4, c5, c6, c7, c8', c9⟩ := fj (f := b) (by omega : M0 ≤ M) hC hcp hb16 N (put μ b (nI (M + 1))) (up2 τ5 (26 + 2 * b) 6 (τ5 0 6)) (fun k => if k = M then L M ++ [b] else L k) (c + 1) sb 0 x' 39 40 P' (by rw [a5 0 (by omega)]; exact hcapa) h12 hle (cnt_le _ _) (by omega) (by omega) b3
  refine ⟨τ', μ', L', c', s', ?_, ?_, c3, fun k hk => (c4 k hk).trans (if_neg hk), ?_, (c6.tr se).tr sea, ?_, fun p h1 h2 => ((c7 p h1).trans (a5 p h1)).trans (tp p h2 (by omega)), c8', c9.trans put_24⟩
  · unfold f_X3_makeWave
    rw [w.2.1.1, if_neg (pz_in hM (by omega)), if_neg (pz_in hb16 (by omega)), pz_N (by omega), pz_N (by omega), pz_s, up2_ap (show 26 + 2 * b ≠ 0 by omega), hτ, hcapa]
    rw [f_X3_makeWave_44]
    rw [if_neg (by decide), if_neg (pz_m1 (n := b) (by omega)), if_neg (pz_in hb16 (by omega)), pz_N (by omega), hgs, ri_s, a1, nv_s, hsba, show nI cp - (nI sb - 0) = nI cp - nI sb by grind, b1, ri_s]
    simp only [if_true, hnil, List.nil_append] at c1
    exact c1
  · unfold f_X4_fill
    rw [if_neg (pz_in hb16 (by omega)), pz_N (by omega), h12, h11, b2, ri_s]
    exact c2
  · have hl16 : ∀ x ∈ L' M, x < 16 := (c3.1.w hM).1.2.2.2
    rw [c5]
    simp only [if_true, hnil, List.nil_append]
    rw [(se.tr sea).so (L' M) [] 0 hl16 (fun x hx => by simp at hx)]
    have : so (up2 τ5 (26 + 2 * b) 6 (τ5 0 6)) [] [b] 0 = 0 := by
      show (0 : Int32) + gsv _ b [] 0 = 0
      rfl
    rw [this]; grind
  · rw [c7 0 (by omega), a5 0 (by omega)]; exact t0 0 (by decide)
def sbs (α : St) (L : Nat → List Nat) (k d : Nat) (s : Int32) : Int32 := (List.range' k d).foldl (fun s j => s + so α [] (L j) 0) s
theorem sbs_1 {α : St} {L L' : Nat → List Nat} {M0 M : Nat} (h : M0 ≤ M) (hL : ∀ k, k ≠ M → L' k = L k) : sbs α L' M0 (M + 1 - M0) 0 = sbs α L M0 (M - M0) 0 + so α [] (L' M) 0 := by
  unfold sbs
  rw [show M + 1 - M0 = (M - M0) + 1 by omega, List.range'_concat, List.foldl_append]
  rw [fold_ext (g := fun s j => s + so α [] (L j) 0) (List.range' M0 (M - M0)) 0 (fun j hj m => by
    rw [List.mem_range'_1] at hj
    rw [hL j (by omega)])]
  simp only [List.foldl_cons, List.foldl_nil]
  rw [show M0 + 1 * (M - M0) = M by omega]
/-- looked at -/
theorem lkP {μ τ : St} {N M0 M K C c b : Nat} {L : Nat → List Nat} (P : PR μ τ N M0 M K C L c) (hb : b < N) : PR (up2 μ 24 b 1) (up2 τ (26 + 2 * b) 8 1) N M0 M K C L c ∧ SE (up2 τ (26 + 2 * b) 8 1) τ ∧ ∀ i, i < N → opm (up2 μ 24 b 1) (up2 τ (26 + 2 * b) 8 1) i = opm μ τ i := by
  obtain ⟨w, r0, hMM, np, lo, ⟨hc1, hc2⟩, s1, s2⟩ := id P
  have hN := w.1.2
  have tk : ∀ i k, k ≠ 8 → up2 τ (26 + 2 * b) 8 1 (26 + 2 * i) k = τ (26 + 2 * i) k := fun i k hk => up2_ak hk
  have tp : ∀ p, p ≠ 26 + 2 * b → up2 τ (26 + 2 * b) 8 1 p = τ p := fun p hp => up2_ne hp
  refine ⟨⟨?_, ?_, hMM, fun i hi => ?_, fun i hi => ?_, ⟨hc1, hc2⟩, s1, s2⟩, fun i hi => ?_, fun i hi => ?_⟩
  · obtain ⟨w1, w2, w3, w4, w5, w6, w7⟩ := id w
    refine ⟨by rw [tp 0 (by omega)]; exact w1, by rw [tp 0 (by omega)]; exact w2, by rw [tp 1 (by omega)]; exact w3, by rw [tp 0 (by omega)]; exact w4, fun i hi => ?_, by rw [tp 5 (by omega)]; exact w6, fun k hk => ?_⟩
    · unfold OW
      rw [tk i 1 (by decide), tk i 2 (by decide), tk i 4 (by decide), tk i 6 (by decide), tp (26 + 2 * i + 1) (by omega)]; exact w5 i hi
    · obtain ⟨v1, v2, v3, v4⟩ := w7 k hk
      exact ⟨v1.f (tp _ (by omega)) (tp _ (by omega)), v2, fun i => by rw [tk i 6 (by decide)]; exact v3 i, fun i hi => by rw [tk i 3 (by decide), tp (58 + 2 * k) (by omega)]; exact v4 i hi⟩
  · have := lk_f (μ := μ) (b := b) |>.r0 r0
    obtain ⟨ra, rb, rd, re⟩ := this
    refine ⟨by rw [tp 0 (by omega), tp 1 (by omega)]; exact ra, fun i hi => by rw [tk i 0 (by decide), tk i 1 (by decide), tk i 2 (by decide), tk i 3 (by decide), tk i 7 (by decide), tp (26 + 2 * i + 1) (by omega)]; exact rb i hi, fun k hk => by rw [tp 2 (by omega), tp 3 (by omega), tp 4 (by omega), tp 5 (by omega)]; exact rd k hk, fun k hk => by rw [tp _ (by omega)]; exact re k hk⟩
  · unfold NP
    rw [tk i 6 (by decide)]; exact np i hi
  · by_cases z : i = b
    · subst z; rw [up2_at, up2_at]
    · rw [up2_ap (by omega), up2_ak z]; exact lo i hi
  · rw [tk i 1 (by decide), tk i 2 (by decide), tp (26 + 2 * i + 1) (by omega)]; exact ⟨rfl, rfl, rfl⟩
  · have : hv (up2 τ (26 + 2 * b) 8 1) i = hv τ i := hv_congr (fun p h1 h2 => tp p (by omega)) (tk i 3 (by decide)) (tk i 0 (by decide))
    unfold opm
    rw [this]; rfl
theorem oj {N M0 K C cp : Nat} {α : St} (hC : C < 1073741824) (hcp : cp ≤ 65536) (had : Int32) : ∀ u μ τ L c M s x rd n1 n2, PR μ τ N M0 M K C L c → τ 0 0 = nI cp → SE τ α → f_X4_begin μ = some (iv x) → s = sbs α L M0 (M - M0) 0 → cnt (unl μ) N ≤ u → u + rd ≤ N → N - rd < n1 → u < n2 →
    (∃ τ' μ' L' c' M' s', f_X3_makeWaves_28 n1 τ (nI rd) = some (iv 1, τ') ∧ f_X4_plan_52 had n2 μ (nI M) s x = f_X4_plan_124 μ' (nI M') had s' 0 ∧ PR μ' τ' N M0 M' K C L' c' ∧ SE τ' α ∧ s' = sbs α L' M0 (M' - M0) 0 ∧ PF μ μ' ∧ eM τ τ') ∨
    (∃ τ' μ1 μ' L' c' M1 M' s', f_X3_makeWaves_28 n1 τ (nI rd) = some (iv 0, τ') ∧ f_X4_plan_52 had n2 μ (nI M) s x = f_X4_plan_124 μ' (nI M') had s' 1 ∧ PR μ1 τ' N M0 M1 K C L' c' ∧ PF μ μ1 ∧ PF μ μ' ∧ eM τ τ') := by
  have stop : ∀ μ (M : Nat) s n, M ≤ 16 → f_X4_plan_52 had (n + 1) μ (nI M) s (-1) = f_X4_plan_124 μ (nI M) had s 0 := by
    intro μ M s n hM
    simp only [f_X4_plan_52]
    rw [if_pos trivial, if_pos (show nI M ≤ 16 from (pz_le (by omega) (by decide : 16 < 2147483648)).mpr hM)]
  intro u
  induction u with
  | zero =>
    intro μ τ L c M s x rd n1 n2 P hcap se hx hs hu hr h1 h2
    obtain ⟨n1, rfl⟩ : ∃ m, n1 = m + 1 := ⟨n1 - 1, by omega⟩
    obtain ⟨n2, rfl⟩ : ∃ m, n2 = m + 1 := ⟨n2 - 1, by omega⟩
    have hN := P.1.1.2
    have hM := P.1.2.1.2
    obtain ⟨x', e1, e2⟩ := be_tt P.n hN P.2.1 P.1.k
    have : x = x' := by
      have := hx.symm.trans e1
      simpa [iv] using this
    subst this
    have hx1 : x = -1 := by
      rcases e2 with e | ⟨b, hb, _, _, q⟩
      · exact e
      · have := cnt_pos (p := unl μ) hb (decide_eq_true q)
        omega
    subst hx1
    left
    refine ⟨τ, μ, L, c, M, s, ?_, stop μ M s n2 hM, P, se, hs, PF.rf, eM.rf⟩
    simp only [f_X3_makeWaves_28]
    rw [be_cc P.n hN P.2.1 P.1.k P.1.1.1 (fun i hi => P.mb hi) (fun i hi => P.2.2.2.2.1 i hi), hx, ri_s]
    split <;> rfl
  | succ u ih =>
    intro μ τ L c M s x rd n1 n2 P hcap se hx hs hu hr h1 h2
    obtain ⟨n1, rfl⟩ : ∃ m, n1 = m + 1 := ⟨n1 - 1, by omega⟩
    obtain ⟨n2, rfl⟩ : ∃ m, n2 = m + 1 := ⟨n2 - 1, by omega⟩
    have hN := P.1.1.2
    have hM := P.1.2.1.2
    have hMM := P.2.2.1
    obtain ⟨x', e1, e2⟩ := be_tt P.n hN P.2.1 P.1.k
    have : x = x' := by
      have := hx.symm.trans e1
      simpa [iv] using this
    subst this
    have hnb := be_cc P.n hN P.2.1 P.1.k P.1.1.1 (fun i hi => P.mb hi) (fun i hi => P.2.2.2.2.1 i hi)
    rcases e2 with e | ⟨b, hb, e, ho, hl⟩
    · subst e
      left
      refine ⟨τ, μ, L, c, M, s, ?_, stop μ M s n2 hM, P, se, hs, PF.rf, eM.rf⟩
      simp only [f_X3_makeWaves_28]
      rw [hnb, hx, ri_s]
      split <;> rfl
    · subst e
      have hb16 : b < 16 := by omega
      obtain ⟨Pl, sel, hol⟩ := lkP P hb
      have hNl : up2 μ 24 b 1 8 2 = nI N := Pl.n
      obtain ⟨sb, g1, g2⟩ := (P.1.o hb16).2.1
      have c00 : up2 τ (26 + 2 * b) 8 1 0 0 = nI cp := by rw [up2_ap (by omega)]; exact hcap
      have csb : up2 τ (26 + 2 * b) 8 1 (26 + 2 * b) 2 = nI sb := by rw [up2_ak (by decide)]; exact g2
      have c06 : up2 τ (26 + 2 * b) 8 1 0 6 = nI M := by rw [up2_ap (by omega)]; exact P.1.2.1.1
      have m11 : up2 μ 24 b 1 11 b = nI sb := by
        show μ 11 b = _
        rw [(P.2.1.2.1 b hb16).2.2.1, g2]
      have m81 : up2 μ 24 b 1 8 1 = nI cp := P.2.1.1.1.trans hcap
      have eml : eM τ (up2 τ (26 + 2 * b) 8 1) := eM.up (by omega)
      simp only [f_X3_makeWaves_28, f_X4_plan_52]
      rw [if_neg (show ¬ τ 0 4 ≤ nI rd by rw [P.1.1.1, pz_le (by omega) (by omega)]; omega), hnb, hx, ri_s, if_neg (pz_m1 (n := b) (by omega)), if_neg (pz_in hb16 (by omega)), pz_N (by omega), csb, c00, c06, pz_s, pz_s]
      have gb : ¬ (nI b < 0 ∨ 16 ≤ b) := by have := pz_in (b := 16) (k := b) (by omega) (by omega); rwa [pz_N (by omega)] at this
      rw [if_neg (pz_m1 (n := b) (by omega)), if_neg gb, m11, m81]
      by_cases q : sb ≤ cp
      · have q' : nI sb ≤ nI cp := (pz_le (by omega) (by omega)).mpr q
        rw [if_pos q', if_pos q', put_e hb16, nv_s]
        by_cases hM16 : M < 16
        · rw [if_pos (show nI M < 16 from (pz_lt (by omega) (by decide : 16 < 2147483648)).mpr hM16)]
          obtain ⟨τ', μ', L', c', s', d1, d2, d3, d4, d5, d6, d7, d8, d9, d10⟩ := mw Pl hC hM16 hcp c00 hb (by rw [hol b hb]; exact ho) csb q
          rw [d1, nv_s, d2, ni_s]
          obtain ⟨x', f1, f2⟩ := be_tt d3.n hN d3.2.1 d3.1.k
          rw [f1, ri_s]
          have hl16 : ∀ x ∈ L' M, x < 16 := (d3.1.w (j := M) hM16).1.2.2.2
          have hs' : s + s' = sbs α L' M0 (M + 1 - M0) 0 := by
            rw [sbs_1 hMM d4, ← hs, d5, (sel.tr se).so (L' M) [] 0 hl16 (fun x hx => by simp at hx)]
          have emt : eM τ τ' := eml.tr fun p h1 h2 => d8 p (by omega) (by omega)
          have pf : PF μ μ' := (lk_f.tr put_f).tr d9
          rcases ih μ' τ' L' c' (M + 1) (s + s') x' (rd + 1) n1 n2 d3 (d7.trans c00) ((d6.tr sel).tr se) f1 hs' (by have := lk_u (μ := μ) (μ' := μ') (N := N) hb hl (d10.trans rfl); omega) (by omega) (by omega) (by omega) with ⟨t1, t2, t3, t4, t5', t6, z1, z2, z3, z4, z5, z6, z7⟩ | ⟨t1, t2, t3, t4, t5', t6, t7, t8, z1, z2, z3, z4, z5, z6⟩
          · left
            exact ⟨t1, t2, t3, t4, t5', t6, z1, z2, z3, z4, z5, pf.tr z6, emt.tr z7⟩
          · right
            exact ⟨t1, t2, t3, t4, t5', t6, t7, t8, z1, z2, z3, pf.tr z4, pf.tr z5, emt.tr z6⟩
        · have : M = 16 := by omega
          subst this
          right
          rw [if_neg (show ¬ nI 16 < 16 by decide)]
          have hw : nI (16 + 1) ≠ 0 := by decide
          have p2 := put_f (μ := up2 μ 24 b 1) (b := b) (w := nI (16 + 1))
          obtain ⟨v, μ3, k1, k2, k3⟩ := fl_t hN Pl.1.k Pl.1.z hb16 hw ((p2.2 2 (by decide)).trans hNl) (p2.r0 Pl.2.1)
          rw [k1, ni_s]
          have h03 := k2.r0 (p2.r0 Pl.2.1)
          have hN3 : μ3 8 2 = nI N := (k2.2 2 (by decide)).trans ((p2.2 2 (by decide)).trans hNl)
          obtain ⟨x', f1, f2⟩ := be_tt hN3 hN h03 Pl.1.k
          rw [f1, ri_s]
          obtain ⟨m', s', μ', y1, y2, y3⟩ := pl_t hN Pl.1.k Pl.1.z had u μ3 (16 + 1) (s + v) x' n2 hN3 h03 (by have := lk_u (μ := μ) (μ' := μ3) (N := N) hb hl (k3.trans rfl); omega) (by omega) (by omega) (f2.imp_right fun ⟨b', q1, q2, q3, q4⟩ => ⟨b', q1, q2, q4⟩)
          rw [if_neg (show ¬ m' ≤ 16 by omega)] at y1
          exact ⟨_, up2 μ 24 b 1, μ', L, c, 16, m', s', rfl, y1, Pl, lk_f, ((lk_f.tr p2).tr k2).tr y3, eml⟩
      · have q' : ¬ nI sb ≤ nI cp := fun z => q ((pz_le (by omega) (by omega)).mp z)
        rw [if_neg q', if_neg q']
        obtain ⟨x', f1, f2⟩ := be_tt hNl hN Pl.2.1 Pl.1.k
        rw [f1, ri_s]
        rcases ih (up2 μ 24 b 1) (up2 τ (26 + 2 * b) 8 1) L c M s x' (rd + 1) n1 n2 Pl c00 (sel.tr se) f1 hs (by have := lk_u (μ := μ) (μ' := up2 μ 24 b 1) (N := N) hb hl rfl; omega) (by omega) (by omega) (by omega) with ⟨t1, t2, t3, t4, t5', t6, z1, z2, z3, z4, z5, z6, z7⟩ | ⟨t1, t2, t3, t4, t5', t6, t7, t8, z1, z2, z3, z4, z5, z6⟩
        · left
          exact ⟨t1, t2, t3, t4, t5', t6, z1, z2, z3, z4, z5, lk_f.tr z6, eml.tr z7⟩
        · right
          exact ⟨t1, t2, t3, t4, t5', t6, t7, t8, z1, z2, z3, lk_f.tr z4, lk_f.tr z5, eml.tr z6⟩
