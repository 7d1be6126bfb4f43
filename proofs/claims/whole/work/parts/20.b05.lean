/-! what holds between two calls -/
def lcn (u : Nat → Int32) : Nat := ((List.range' 0 10).filter (fun g => decide (0 < u g))).length
def OW (α : St) (N M i : Nat) : Prop := (∃ z, z < 8 ∧ α (26 + 2 * i) 1 = nI z) ∧ (∃ s, s ≤ 10000 ∧ α (26 + 2 * i) 2 = nI s) ∧ (∀ g, g < 10 → ∃ v, v ≤ 100 ∧ α (26 + 2 * i + 1) g = nI v) ∧ (α (26 + 2 * i) 4 = nI (lcn (α (26 + 2 * i + 1))) ∧ lcn (α (26 + 2 * i + 1)) ≤ 4) ∧ (α (26 + 2 * i) 6 = -1 ∨ ∃ p, p ≤ M ∧ α (26 + 2 * i) 6 = nI p) ∧ (N ≤ i → α (26 + 2 * i) 6 = 0)
def VW (α : St) (N : Nat) (L : Nat → List Nat) (j : Nat) : Prop := Rp α (58 + 2 * j) (L j) ∧ (L j).Nodup ∧ (∀ i, i ∈ L j ↔ i < N ∧ α (26 + 2 * i) 6 = nI (j + 1)) ∧ ∀ i ∈ L j, α (26 + 2 * i) 3 = α (58 + 2 * j) 2
def WF (α : St) (N M K : Nat) (L : Nat → List Nat) : Prop :=
  (α 0 4 = nI N ∧ N ≤ 16) ∧ (α 0 6 = nI M ∧ M ≤ 16) ∧ (α 1 3 = nI K ∧ K ≤ 10) ∧ (∃ c, c ≤ 65536 ∧ α 0 0 = nI c) ∧ (∀ i, i < 16 → OW α N M i) ∧ (∀ g, g < 10 → ∃ t, t ≤ 10000 ∧ α 5 g = nI t) ∧ ∀ j, j < 16 → VW α N L j
def RQ (σ α : St) : Prop := R0 σ α ∧ σ 8 16 = α 0 6 ∧ ∀ i, i < 16 → σ 13 i = α (26 + 2 * i) 6
def CM (n : Nat) (σ : St) (L : Nat → List Nat) : Prop := ∃ c, (σ 8 11 = nI c ∧ c ≤ 4 * n) ∧ ∀ j, j < 16 → (L j).Pairwise (fun a b => σ 14 a < σ 14 b) ∧ ∀ i ∈ L j, ∃ m, m < c ∧ σ 14 i = nI m
def Inv (n : Nat) (σ : St) : Prop := ∃ N M K L, WF σ N M K L ∧ RQ σ σ ∧ CM n σ L
/-- the same in the class's places, in the reference's places -/
def eC (σ τ : St) : Prop := ∀ p, p < 8 ∨ 25 ≤ p → τ p = σ p
def eM (σ τ : St) : Prop := ∀ p, 8 ≤ p → p < 25 → τ p = σ p
theorem eC.rf {σ : St} : eC σ σ := fun _ _ => rfl
theorem eM.rf {σ : St} : eM σ σ := fun _ _ _ => rfl
theorem eC.tr {σ τ υ : St} (h : eC σ τ) (g : eC τ υ) : eC σ υ := fun p hp => (g p hp).trans (h p hp)
theorem eM.tr {σ τ υ : St} (h : eM σ τ) (g : eM τ υ) : eM σ υ := fun p hp hq => (g p hp hq).trans (h p hp hq)
theorem eC.up {σ : St} {p k : Nat} {v : Int32} (h1 : 8 ≤ p) (h2 : p < 25) : eC σ (up2 σ p k v) := fun q hq => up2_ne (by omega)
theorem eM.up {σ : St} {p k : Nat} {v : Int32} (h1 : p < 8 ∨ 25 ≤ p) : eM σ (up2 σ p k v) := fun q hq hq2 => up2_ne (by omega)
theorem R0.l {σ σ' α : St} (h : R0 σ α) (e : eM σ σ') : R0 σ' α := by
  unfold R0 at h ⊢
  rw [e 8 (by decide) (by decide), e 9 (by decide) (by decide), e 10 (by decide) (by decide), e 11 (by decide) (by decide), e 12 (by decide) (by decide), e 15 (by decide) (by decide), e 16 (by decide) (by decide), e 17 (by decide) (by decide), e 18 (by decide) (by decide), e 19 (by decide) (by decide), e 20 (by decide) (by decide), e 21 (by decide) (by decide)]
  exact h
theorem R0.r {σ α β : St} (h : R0 σ α) (e : eC α β) : R0 σ β := by
  unfold R0 at h ⊢
  obtain ⟨h1, h2, h3, h4⟩ := h
  refine ⟨?_, fun i hi => ?_, fun k hk => ?_, fun j hj => ?_⟩
  · rw [e 0 (by omega), e 1 (by omega)]; exact h1
  · rw [e (26 + 2 * i) (by omega), e (26 + 2 * i + 1) (by omega)]; exact h2 i hi
  · rw [e 2 (by omega), e 3 (by omega), e 4 (by omega), e 5 (by omega)]; exact h3 k hk
  · rw [e (58 + 2 * j) (by omega)]; exact h4 j hj
theorem RQ.l {σ σ' α : St} (h : RQ σ α) (e : eM σ σ') : RQ σ' α := by
  obtain ⟨h1, h2, h3⟩ := h
  exact ⟨h1.l e, by rw [e 8 (by decide) (by decide)]; exact h2, by rw [e 13 (by decide) (by decide)]; exact h3⟩
theorem RQ.r {σ α β : St} (h : RQ σ α) (e : eC α β) : RQ σ β := by
  obtain ⟨h1, h2, h3⟩ := h
  exact ⟨h1.r e, by rw [e 0 (by omega)]; exact h2, fun i hi => by rw [e (26 + 2 * i) (by omega)]; exact h3 i hi⟩
theorem R0.c {σ α : St} {s : Int32} (h : R0 σ α) : R0 (up2 σ 8 0 s) α := by
  obtain ⟨⟨h1, h2, h3⟩, h4, h5, h6⟩ := h
  exact ⟨⟨h1, h2, h3⟩, h4, h5, h6⟩
theorem RQ.c {σ α : St} {s : Int32} (h : RQ σ α) : RQ (up2 σ 8 0 s) α := ⟨h.1.c, h.2.1, h.2.2⟩
theorem Rp.f {α β : St} {q : Nat} {l : List Nat} (h : Rp α q l) (e1 : β q = α q) (e2 : β (q + 1) = α (q + 1)) : Rp β q l := by
  unfold Rp at h ⊢; rw [e1, e2]; exact h
theorem WF.f {α β : St} {N M K : Nat} {L : Nat → List Nat} (h : WF α N M K L) (e : eC α β) : WF β N M K L := by
  obtain ⟨h1, h2, h3, h4, h5, h6, h7⟩ := h
  have e0 := e 0 (by omega); have e1 := e 1 (by omega); have e5 := e 5 (by omega)
  refine ⟨by rw [e0]; exact h1, by rw [e0]; exact h2, by rw [e1]; exact h3, by rw [e0]; exact h4, fun i hi => ?_, by rw [e5]; exact h6, fun j hj => ?_⟩
  · unfold OW; rw [e (26 + 2 * i) (by omega), e (26 + 2 * i + 1) (by omega)]; exact h5 i hi
  · obtain ⟨a, b, c, d⟩ := h7 j hj
    refine ⟨a.f (e _ (by omega)) (e _ (by omega)), b, fun i => ?_, fun i hi => ?_⟩
    · rw [e (26 + 2 * i) (by omega)]; exact c i
    · rw [e (26 + 2 * i) (by omega), e (58 + 2 * j) (by omega)]; exact d i hi
theorem CM.f {n : Nat} {σ τ : St} {L : Nat → List Nat} (h : CM n σ L) (e1 : τ 8 11 = σ 8 11) (e2 : τ 14 = σ 14) : CM (n + 4) τ L := by
  obtain ⟨c, ⟨h1, h2⟩, h3⟩ := h
  exact ⟨c, ⟨by rw [e1]; exact h1, by omega⟩, by rw [e2]; exact h3⟩
/-- a call that changes only the reference's places, and none that counts -/
theorem Inv.q {n : Nat} {σ : St} (h : Inv n σ) (s : Int32) : Inv (n + 4) (up2 σ 8 0 s) := by
  obtain ⟨N, M, K, L, w, r, c⟩ := h
  have e : eC σ (up2 σ 8 0 s) := eC.up (by decide) (by decide)
  exact ⟨N, M, K, L, w.f e, (r.c).r e, c.f rfl (up2_ne (by decide))⟩
theorem WF.z {α : St} {N M K : Nat} {L : Nat → List Nat} (h : WF α N M K L) : ZK α := fun i hi => (h.2.2.2.2.1 i hi).1
theorem WF.k {α : St} {N M K : Nat} {L : Nat → List Nat} (h : WF α N M K L) : KK α := ⟨K, h.2.2.1⟩
theorem WF.w {α : St} {N M K : Nat} {L : Nat → List Nat} (h : WF α N M K L) {j : Nat} (hj : j < 16) : VW α N L j := h.2.2.2.2.2.2 j hj
theorem WF.o {α : St} {N M K : Nat} {L : Nat → List Nat} (h : WF α N M K L) {i : Nat} (hi : i < 16) : OW α N M i := h.2.2.2.2.1 i hi
theorem RQ.n {σ α : St} {N M K : Nat} {L : Nat → List Nat} (r : RQ σ α) (h : WF α N M K L) : σ 8 2 = nI N := r.1.1.2.1.trans h.1.1
theorem RQ.m {σ α : St} {N M K : Nat} {L : Nat → List Nat} (r : RQ σ α) (h : WF α N M K L) : σ 8 16 = nI M := r.2.1.trans h.2.1.1
theorem RQ.sl {σ α : St} {N M K n : Nat} {L : Nat → List Nat} (r : RQ σ α) (h : WF α N M K L) (c : CM n σ L) {j : Nat} (hj : j < 16) : SL (σ 13) (σ 14) N (nI (j + 1)) (L j) := by
  obtain ⟨c, _, hc⟩ := c
  refine ⟨fun i => ?_, (hc j hj).1⟩
  rw [(h.w hj).2.2.1 i]
  constructor
  · rintro ⟨h1, h2⟩; exact ⟨h1, by rw [r.2.2 i (by have := h.1.2; omega)]; exact h2⟩
  · rintro ⟨h1, h2⟩; exact ⟨h1, by rw [← r.2.2 i (by have := h.1.2; omega)]; exact h2⟩
/-! what is tested first -/
theorem rr_c (σ : St) (x a b : Int32) : f_X3_requireRange σ x a b = if a ≤ x ∧ x ≤ b then some (.inl none) else some (.inr "java/lang/IllegalArgumentException") := by
  unfold f_X3_requireRange
  by_cases h1 : x < a
  · rw [if_pos h1, if_neg (by grind)]
  · rw [if_neg h1]
    by_cases h2 : x ≤ b
    · rw [if_pos h2, if_pos (by grind)]
    · rw [if_neg h2, if_neg (by grind)]
theorem in_m (σ : St) (x a b : Int32) : f_X4_in σ x a b = some (iv (if a ≤ x ∧ x ≤ b then 1 else 0)) := by
  unfold f_X4_in
  by_cases h1 : x < a
  · rw [if_pos h1, if_neg (by grind)]
  · rw [if_neg h1]
    by_cases h2 : x ≤ b
    · rw [if_neg (by grind), if_pos (by grind)]
    · rw [if_pos (by grind), if_neg (by grind)]
theorem ti_m (σ : St) (x : Int32) : f_X4_isTime σ x = some (iv (if 0 ≤ x ∧ x ≤ 100000 then 1 else 0)) := by
  unfold f_X4_isTime
  rw [in_m, ri_s, if_pos]
  split
  · exact Or.inr rfl
  · exact Or.inl rfl
theorem io_x {N : Nat} (hN : N ≤ 16) (x : Int32) : (0 ≤ x ∧ x ≤ nI N - 1) ↔ ∃ o, o < N ∧ x = nI o := by
  have e : (nI N - 1 : Int32).toInt = (N : Int) - 1 := pk_sub_toInt (a := N) (b := 1) (by omega) (by decide)
  constructor
  · rintro ⟨h1, h2⟩
    obtain ⟨o, ho, rfl⟩ := pz_ex (x := x) (by grind)
    refine ⟨o, ?_, rfl⟩
    rw [Int32.le_iff_toInt_le, e, nI_toInt ho] at h2
    omega
  · rintro ⟨o, h, rfl⟩
    rw [Int32.le_iff_toInt_le, Int32.le_iff_toInt_le, e, nI_toInt (by omega)]
    exact ⟨by show (0 : Int) ≤ _; omega, by omega⟩
theorem io_m {σ : St} {N : Nat} (h : σ 8 2 = nI N) (hN : N ≤ 16) (x : Int32) : f_X4_isOrder σ x = some (iv (if ∃ o, o < N ∧ x = nI o then 1 else 0)) := by
  unfold f_X4_isOrder
  rw [in_m, ri_s, h, if_pos]
  · simp only [io_x hN]
  · split
    · exact Or.inr rfl
    · exact Or.inl rfl
theorem ro_c {σ : St} {N : Nat} (h : σ 0 4 = nI N) (hN : N ≤ 16) (x : Int32) : (∃ o, o < N ∧ x = nI o ∧ f_X3_requireOrder σ x = some (.inl (some (.inr (26 + 2 * o))))) ∨ ((¬ ∃ o, o < N ∧ x = nI o) ∧ f_X3_requireOrder σ x = some (.inr "java/util/NoSuchElementException")) := by
  unfold f_X3_requireOrder
  by_cases h1 : x < 0
  · rw [if_pos h1]
    exact Or.inr ⟨fun ⟨o, h2, h3⟩ => by subst h3; exact pz_ge o (by omega) h1, rfl⟩
  · rw [if_neg h1, h]
    obtain ⟨o, ho, rfl⟩ := pz_ex h1
    by_cases h2 : o < N
    · rw [if_pos ((pz_lt ho (by omega)).mpr h2), if_neg (pz_in (by omega) (by omega)), pz_N ho]
      exact Or.inl ⟨o, h2, rfl, rfl⟩
    · rw [if_neg (fun q => h2 ((pz_lt ho (by omega)).mp q))]
      exact Or.inr ⟨fun ⟨o', h3, h4⟩ => by rw [pz_eq ho (by omega)] at h4; omega, rfl⟩
theorem kd_o {o : Nat} (h : o < 16) : kd (26 + 2 * o) = 1 := by
  have := kd_ord (pz_in (k := o) (b := 16) h (by decide))
  rwa [pz_N (by omega)] at this
theorem kd_w {j : Nat} (h : j < 16) : kd (58 + 2 * j) = 2 := by
  have := kd_wav (pz_in (k := j) (b := 16) h (by decide))
  rwa [pz_N (by omega)] at this
theorem rw_c {σ τ : St} {N M K n : Nat} {L : Nat → List Nat} (w : WF σ N M K L) (r : RQ τ σ) (c : CM n τ L) (x : Int32) :
    (∃ j, j < M ∧ j < 16 ∧ x = nI (j + 1) ∧ L j ≠ [] ∧ f_X3_requireWave σ x = some (.inl (some (.inr (58 + 2 * j)))) ∧ f_X4_isWave τ x = some (iv 1)) ∨ (f_X3_requireWave σ x = some (.inr "java/util/NoSuchElementException") ∧ f_X4_isWave τ x = some (iv 0)) := by
  have hM := w.2.1.2
  unfold f_X3_requireWave f_X4_isWave
  rw [in_m, ri_s, r.m w, w.2.1.1]
  by_cases h1 : x < 1
  · right
    rw [if_pos h1, if_neg (show ¬ (1 ≤ x ∧ x ≤ nI M) by grind), if_pos rfl]; exact ⟨rfl, rfl⟩
  · rw [if_neg h1]
    by_cases h2 : nI M < x
    · right
      rw [if_pos h2, if_neg (show ¬ (1 ≤ x ∧ x ≤ nI M) by grind), if_pos rfl]; exact ⟨rfl, rfl⟩
    · obtain ⟨k, hk, rfl⟩ := pz_ex (x := x) (by grind)
      have h3 : ¬ k < 1 := fun q => h1 ((pz_lt hk (by decide)).mpr q)
      have h4 : ¬ M < k := fun q => h2 ((pz_lt (by omega) hk).mpr q)
      obtain ⟨j, rfl⟩ : ∃ j, k = j + 1 := ⟨k - 1, by omega⟩
      have e : nI (j + 1) - 1 = nI j := by rw [← pz_s]; grind
      have hj : j < 16 := by omega
      rw [if_neg h2, if_pos (show (1 ≤ nI (j + 1) ∧ nI (j + 1) ≤ nI M) by grind), if_neg (show ¬ (1 : Int32) = 0 by decide), e, if_neg (pz_in hj (by omega)), pz_N (by omega), sz_mm (r.n w) w.1.2, ri_s, fsz_0, ((r.sl w c hj).perm).length_eq, (w.w hj).1.1]
      have hl := (w.w hj).1.2.1
      by_cases h5 : L j = []
      · right
        rw [h5]; exact ⟨rfl, rfl⟩
      · left
        have h6 : 0 < (L j).length := List.length_pos_iff.mpr h5
        refine ⟨j, by omega, hj, rfl, h5, ?_, ?_⟩
        · rw [if_neg (fun q => by rw [show (0 : Int32) = nI 0 from rfl, pz_eq (by omega) (by omega)] at q; omega)]
        · rw [if_neg (fun q => by rw [show (0 : Int32) = nI 0 from rfl, pz_le (by omega) (by omega)] at q; omega)]
