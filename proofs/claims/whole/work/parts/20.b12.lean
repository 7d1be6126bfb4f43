/-! an order leaves its wave -/
def wo (o : Nat) (l : List Nat) : List Nat := l.filter (fun x => decide (x ≠ o))
theorem wo_len (o : Nat) (l : List Nat) : (wo o l).length ≤ l.length := List.length_filter_le _ _
theorem wo_no {o : Nat} {l : List Nat} (h : o ∉ l) : wo o l = l := List.filter_eq_self.mpr fun a ha => decide_eq_true fun e => h (e ▸ ha)
theorem wo_mem {o i : Nat} {l : List Nat} : i ∈ wo o l ↔ i ∈ l ∧ i ≠ o := by
  simp [wo]
theorem rm_c {q o : Nat} (ho : o < 16) {l : List Nat} (hl16 : l.length ≤ 16) (hm : ∀ x ∈ l, x < 16) : ∀ suf pre n τ, l = pre ++ suf → suf.length < n → τ q 1 = nI l.length → (∀ k x, (wo o pre)[k]? = some x → τ (q + 1) k = nI x) → (∀ k x, pre.length ≤ k → l[k]? = some x → τ (q + 1) k = nI x) →
    ∃ τ', f_X2_remove_4 q (nI o) n τ (nI (wo o pre).length) (nI pre.length) = some (.inl none, τ') ∧ Rp τ' q (wo o l) ∧ (∀ p, p ≠ q → p ≠ q + 1 → τ' p = τ p) ∧ ∀ k, k ≠ 1 → τ' q k = τ q k := by
  intro suf
  induction suf with
  | nil =>
    intro pre n τ e hn h1 h2 h3
    obtain ⟨n, rfl⟩ : ∃ m, n = m + 1 := ⟨n - 1, by omega⟩
    have e' : pre = l := by rw [e]; simp
    subst e'
    simp only [f_X2_remove_4]
    rw [h1, if_pos (show nI pre.length ≤ nI pre.length by rw [pz_le (by omega) (by omega)]; omega)]
    refine ⟨_, rfl, ⟨up2_at, Nat.le_trans (wo_len _ _) hl16, fun k x hk => ?_, fun x hx => hm x (wo_mem.mp hx).1⟩, fun p hp _ => up2_ne hp, fun k hk => up2_ak hk⟩
    rw [up2_ap (by omega)]; exact h2 k x hk
  | cons x s ih =>
    intro pre n τ e hn h1 h2 h3
    obtain ⟨n, rfl⟩ : ∃ m, n = m + 1 := ⟨n - 1, by omega⟩
    have hlen : l.length = pre.length + (s.length + 1) := by rw [e]; simp
    have hx16 : x < 16 := hm x (by rw [e]; simp)
    have hx := h3 pre.length x (Nat.le_refl _) (by rw [e]; simp)
    have hk := wo_len o pre
    simp only [List.length_cons] at hn
    simp only [f_X2_remove_4]
    rw [h1, if_neg (show ¬ nI l.length ≤ nI pre.length by rw [pz_le (by omega) (by omega)]; omega), if_neg (pz_in (by omega) (by omega)), pz_N (show pre.length < 2147483648 by omega), hx, pz_s]
    by_cases q1 : x = o
    · subst q1
      rw [if_pos rfl]
      have hw : wo x (pre ++ [x]) = wo x pre := by simp [wo]
      have := ih (pre ++ [x]) n τ (by rw [e]; simp) (by omega) h1 (by rw [hw]; exact h2) (fun k y hk hy => h3 k y (by simp at hk; omega) hy)
      rw [hw] at this
      simp only [List.length_append, List.length_singleton] at this
      exact this
    · rw [if_neg (fun q => q1 ((pz_eq (by omega) (by omega)).mp q)), if_neg (pz_in (by omega) (by omega)), pz_s, pz_N (by omega)]
      have hw : wo o (pre ++ [x]) = wo o pre ++ [x] := by simp [wo, List.filter_append, q1]
      have := ih (pre ++ [x]) n (up2 τ (q + 1) (wo o pre).length (nI x)) (by rw [e]; simp) (by omega) (by rw [up2_ap (by omega)]; exact h1) ?_ ?_
      · rw [hw] at this
        simp only [List.length_append, List.length_singleton] at this
        obtain ⟨τ', a, b, c, d⟩ := this
        exact ⟨τ', a, b, fun p hp hp2 => (c p hp hp2).trans (up2_ne hp2), fun k hk => (d k hk).trans (up2_ap (by omega))⟩
      · intro k y hy
        rw [hw] at hy
        rcases Nat.lt_or_ge k (wo o pre).length with z | z
        · rw [List.getElem?_append_left z] at hy
          rw [up2_ak (by omega)]; exact h2 k y hy
        · rw [List.getElem?_append_right z] at hy
          rcases Nat.eq_zero_or_pos (k - (wo o pre).length) with z2 | z2
          · rw [z2] at hy
            have : k = (wo o pre).length := by omega
            subst this
            simp at hy; subst hy
            exact up2_at
          · rw [List.getElem?_eq_none (by simp; omega)] at hy; cases hy
      · intro k y hk hy
        simp at hk
        rw [up2_ak (by omega)]; exact h3 k y (by omega) hy
/-- what stays when an order's place is set -/
def TO (σ τ : St) (o : Nat) (v : Int32) : Prop := (∀ i k, i < 16 → i ≠ o ∨ k ≠ 6 → τ (26 + 2 * i) k = σ (26 + 2 * i) k) ∧ τ (26 + 2 * o) 6 = v ∧ (∀ i, i < 16 → τ (26 + 2 * i + 1) = σ (26 + 2 * i + 1)) ∧ (∀ p, p < 26 → τ p = σ p) ∧ ∀ j k, k ≠ 1 → τ (58 + 2 * j) k = σ (58 + 2 * j) k
theorem to_w {σ τ : St} {N M K : Nat} {L : Nat → List Nat} (w : WF σ N M K L) {o : Nat} (ho : o < N) {v : Int32} (hv : v = -1 ∨ v = 0) (t : TO σ τ o v) (hR : ∀ j, j < 16 → Rp τ (58 + 2 * j) (wo o (L j))) : WF τ N M K (fun j => wo o (L j)) := by
  obtain ⟨w1, w2, w3, w4, w5, w6, w7⟩ := w
  obtain ⟨t1, t2, t3, t4, t5'⟩ := t
  have hn : ∀ j, j < 16 → v ≠ nI (j + 1) := by
    intro j hj e
    rcases hv with q | q
    · exact pz_m1 (n := j + 1) (by omega) (e.symm.trans q)
    · exact absurd ((pz_eq (a := j + 1) (b := 0) (by omega) (by omega)).mp (e.symm.trans q)) (by omega)
  refine ⟨by rw [t4 0 (by omega)]; exact w1, by rw [t4 0 (by omega)]; exact w2, by rw [t4 1 (by omega)]; exact w3, by rw [t4 0 (by omega)]; exact w4, fun i hi => ?_, by rw [t4 5 (by omega)]; exact w6, fun j hj => ?_⟩
  · obtain ⟨a, b, c, d, e, f⟩ := w5 i hi
    unfold OW
    rw [t1 i 1 hi (by omega), t1 i 2 hi (by omega), t1 i 4 hi (by omega), t3 i hi]
    refine ⟨a, b, c, d, ?_⟩
    by_cases q : i = o
    · subst q
      rw [t2]
      refine ⟨?_, fun z => absurd ho (by omega)⟩
      rcases hv with q | q
      · exact Or.inl q
      · exact Or.inr ⟨0, by omega, q⟩
    · rw [t1 i 6 hi (Or.inl q)]; exact ⟨e, f⟩
  · obtain ⟨v1, v2, v3, v4⟩ := w7 j hj
    refine ⟨hR j hj, List.Nodup.sublist List.filter_sublist v2, fun i => ?_, fun i hi => ?_⟩
    · rw [wo_mem, v3 i]
      by_cases q : i = o
      · subst q
        rw [t2]
        constructor
        · rintro ⟨_, z⟩; exact absurd rfl z
        · rintro ⟨_, z⟩; exact absurd z (hn j hj)
      · constructor
        · rintro ⟨z, _⟩; exact ⟨z.1, by rw [t1 i 6 (by omega) (Or.inl q)]; exact z.2⟩
        · intro z; exact ⟨⟨z.1, by rw [← t1 i 6 (by omega) (Or.inl q)]; exact z.2⟩, q⟩
    · rw [t1 i 3 (v1.2.2.2 i (wo_mem.mp hi).1) (by omega), t5' j 2 (by decide)]; exact v4 i (wo_mem.mp hi).1
theorem to_c {σ : St} {N M K : Nat} {L : Nat → List Nat} (w : WF σ N M K L) {o : Nat} (ho : o < N) {v : Int32} (hv : v = -1 ∨ v = 0) : ∃ τ, f_X3_takeOut σ (nI o) v = some (.inl none, τ) ∧ WF τ N M K (fun j => wo o (L j)) ∧ TO σ τ o v := by
  have hN := w.1.2
  have hM := w.2.1.2
  have ho16 : o < 16 := by omega
  unfold f_X3_takeOut
  rw [if_neg (pz_in ho16 (by omega)), pz_N (by omega), w.2.1.1]
  have plain : (∀ j, j < 16 → σ (26 + 2 * o) 6 ≠ nI (j + 1)) → WF (up2 σ (26 + 2 * o) 6 v) N M K (fun j => wo o (L j)) ∧ TO σ (up2 σ (26 + 2 * o) 6 v) o v := by
    intro hz
    have t : TO σ (up2 σ (26 + 2 * o) 6 v) o v := by
      refine ⟨fun i k _ h => ?_, up2_at, fun i _ => up2_ne (by omega), fun p hp => up2_ne (by omega), fun j k hk => ?_⟩
      · rcases h with h | h
        · exact up2_ap (by omega)
        · exact up2_ak h
      · by_cases q : 58 + 2 * j = 26 + 2 * o
        · omega
        · exact up2_ap q
    refine ⟨to_w w ho hv t (fun j hj => ?_), t⟩
    rw [wo_no (fun z => hz j hj (((w.w hj).2.2.1 o).mp z).2)]
    exact (w.w hj).1.f (up2_ne (by omega)) (up2_ne (by omega))
  rcases (w.o ho16).2.2.2.2.1 with e | ⟨p, hp, e⟩
  · rw [e, if_pos (by decide)]
    have := plain (fun j hj q => pz_m1 (n := j + 1) (by omega) (q.symm.trans e))
    exact ⟨_, rfl, this.1, this.2⟩
  · rw [e]
    rcases Nat.eq_zero_or_pos p with q | q
    · subst q
      rw [if_pos (by decide)]
      have := plain (fun j hj q => absurd ((pz_eq (a := j + 1) (b := 0) (by omega) (by omega)).mp (q.symm.trans e)) (by omega))
      exact ⟨_, rfl, this.1, this.2⟩
    · obtain ⟨j, rfl⟩ : ∃ j, p = j + 1 := ⟨p - 1, by omega⟩
      have hj : j < 16 := by omega
      have em : nI (j + 1) - 1 = nI j := by rw [← pz_s]; grind
      have V := w.w hj
      obtain ⟨τ, a, b, c, d⟩ := rm_c (q := 58 + 2 * j) (o := o) ho16 V.1.2.1 V.1.2.2.2 (L j) [] 40 σ rfl (by have := V.1.2.1; omega) V.1.1 (fun k x h => by simp [wo] at h) (fun k x _ h => V.1.2.2.1 k x h)
      have a' : f_X2_remove σ (58 + 2 * j) (nI o) = some (.inl none, τ) := a
      rw [if_neg (show ¬ nI (j + 1) < 1 from fun q => by rw [show (1 : Int32) = nI 1 from rfl, pz_lt (by omega) (by omega)] at q; omega), if_neg (show ¬ nI M < nI (j + 1) from fun q => by rw [pz_lt (by omega) (by omega)] at q; omega), em, if_neg (pz_in hj (by omega)), pz_N (by omega), a', nv_s]
      have t : TO σ (up2 τ (26 + 2 * o) 6 v) o v := by
        refine ⟨fun i k hi h => ?_, up2_at, fun i hi => ?_, fun p hp => ?_, fun j' k hk => ?_⟩
        · have z : up2 τ (26 + 2 * o) 6 v (26 + 2 * i) k = τ (26 + 2 * i) k := by
            rcases h with h | h
            · exact up2_ap (by omega)
            · exact up2_ak h
          rw [z, c _ (by omega) (by omega)]
        · rw [up2_ne (by omega)]; exact c _ (by omega) (by omega)
        · rw [up2_ne (by omega)]; exact c _ (by omega) (by omega)
        · rw [up2_ap (by omega)]
          by_cases z : j' = j
          · subst z; exact d k hk
          · rw [c _ (by omega) (by omega)]
      refine ⟨_, rfl, to_w w ho hv t (fun j' hj' => ?_), t⟩
      by_cases z : j' = j
      · subst z; exact b.f (up2_ne (by omega)) (up2_ne (by omega))
      · rw [wo_no (fun y => z (by
          have := (((w.w hj').2.2.1 o).mp y).2
          have := (pz_eq (a := j + 1) (b := j' + 1) (by omega) (by omega)).mp (e.symm.trans this)
          omega))]
        exact (w.w hj').1.f ((up2_ne (by omega)).trans (c _ (by omega) (by omega))) ((up2_ne (by omega)).trans (c _ (by omega) (by omega)))
