/-! done -/
def t5 (σ : St) (P : Nat) (u : Nat → Int32) : St := fun p => if p = P then u else σ p
theorem t5_at {σ : St} {P : Nat} {u : Nat → Int32} : t5 σ P u P = u := by simp [t5]
theorem t5_ne {σ : St} {P p : Nat} {u : Nat → Int32} (h : p ≠ P) : t5 σ P u p = σ p := by simp [t5, h]
def mx0 (x : Int32) : Int32 := if 0 < x then x else 0
theorem ts_c {q : Nat} (hq : q + 1 ≠ 5) : ∀ d k n τ, k + d = 10 → d < n → f_X3_takeFromStock_2 q n τ (nI k) = some (.inl none, t5 τ 5 (fun g => if k ≤ g ∧ g < 10 then mx0 (τ 5 g - τ (q + 1) g) else τ 5 g)) := by
  intro d
  induction d with
  | zero =>
    intro k n τ hk hn
    obtain ⟨n, rfl⟩ : ∃ m, n = m + 1 := ⟨n - 1, by omega⟩
    have : k = 10 := by omega
    subst this
    simp only [f_X3_takeFromStock_2]
    rw [if_pos (by decide)]
    congr 2
    funext p g
    by_cases e : p = 5
    · subst e; rw [t5_at, if_neg (by omega)]
    · rw [t5_ne e]
  | succ d ih =>
    intro k n τ hk hn
    obtain ⟨n, rfl⟩ : ∃ m, n = m + 1 := ⟨n - 1, by omega⟩
    simp only [f_X3_takeFromStock_2]
    rw [if_neg (show ¬ (10 : Int32) ≤ nI k by rw [show (10 : Int32) = nI 10 from rfl, pz_le (by omega) (by omega)]; omega), if_neg (pz_in (by omega) (by omega)), pz_s, pz_N (by omega), ih (k + 1) n _ (by omega) (by omega)]
    congr 2
    funext p g
    by_cases e : p = 5
    · subst e
      rw [t5_at, t5_at, up2_ap hq]
      by_cases e2 : g = k
      · subst e2
        rw [if_neg (by omega), up2_at, if_pos (show g ≤ g ∧ g < 10 by omega)]; rfl
      · rw [up2_ak e2]
        by_cases e3 : k + 1 ≤ g ∧ g < 10
        · rw [if_pos e3, if_pos (by omega)]
        · rw [if_neg e3, if_neg (by omega)]
    · rw [t5_ne e, t5_ne e, up2_ap e]
theorem ts_m {o : Nat} (ho : o < 16) : ∀ d k n τ, k + d = 10 → d < n → f_X4_done_100 (nI o) n τ (nI k) = f_X4_done_187 (t5 τ 21 (fun g => if k ≤ g ∧ g < 10 then (if τ 21 g ≤ τ 16 (10 * o + g) then (if τ 16 (10 * o + g) ≤ 0 then τ 21 g else 0) else τ 21 g - τ 16 (10 * o + g)) else τ 21 g)) (nI o) 40 0 0 := by
  intro d
  induction d with
  | zero =>
    intro k n τ hk hn
    obtain ⟨n, rfl⟩ : ∃ m, n = m + 1 := ⟨n - 1, by omega⟩
    have : k = 10 := by omega
    subst this
    simp only [f_X4_done_100]
    rw [if_pos (by decide)]
    congr 1
    funext p g
    by_cases e : p = 21
    · subst e; rw [t5_at, if_neg (by omega)]
    · rw [t5_ne e]
  | succ d ih =>
    intro k n τ hk hn
    obtain ⟨n, rfl⟩ : ∃ m, n = m + 1 := ⟨n - 1, by omega⟩
    have key : ∀ v, t5 (up2 τ 21 k v) 21 (fun g => if k + 1 ≤ g ∧ g < 10 then (if up2 τ 21 k v 21 g ≤ up2 τ 21 k v 16 (10 * o + g) then (if up2 τ 21 k v 16 (10 * o + g) ≤ 0 then up2 τ 21 k v 21 g else 0) else up2 τ 21 k v 21 g - up2 τ 21 k v 16 (10 * o + g)) else up2 τ 21 k v 21 g) = t5 τ 21 (fun g => if g = k then v else if k ≤ g ∧ g < 10 then (if τ 21 g ≤ τ 16 (10 * o + g) then (if τ 16 (10 * o + g) ≤ 0 then τ 21 g else 0) else τ 21 g - τ 16 (10 * o + g)) else τ 21 g) := by
      intro v
      funext p g
      by_cases e : p = 21
      · subst e
        rw [t5_at, t5_at]
        simp only [up2_ap (show (16 : Nat) ≠ 21 by decide)]
        by_cases e2 : g = k
        · subst e2
          rw [if_neg (by omega), if_pos rfl, up2_at]
        · rw [if_neg e2, up2_ak e2]
          by_cases e3 : k + 1 ≤ g ∧ g < 10
          · rw [if_pos e3, if_pos (show k ≤ g ∧ g < 10 by omega)]
          · rw [if_neg e3, if_neg (show ¬ (k ≤ g ∧ g < 10) by omega)]
      · rw [t5_ne e, t5_ne e, up2_ap e]
    simp only [f_X4_done_100]
    rw [if_neg (show ¬ (10 : Int32) ≤ nI k by rw [show (10 : Int32) = nI 10 from rfl, pz_le (by omega) (by omega)]; omega), if_neg (pz_in (by omega) (by omega)), pz_10 ho (by omega), if_neg (pz_in (by omega) (by omega)), pz_s, pz_N (by omega), pz_N (by omega)]
    simp only [ih (k + 1) n _ (by omega) (by omega), key]
    have fin : ∀ v, v = (if τ 21 k ≤ τ 16 (10 * o + k) then (if τ 16 (10 * o + k) ≤ 0 then τ 21 k else 0) else τ 21 k - τ 16 (10 * o + k)) → (fun g => if g = k then v else if k ≤ g ∧ g < 10 then (if τ 21 g ≤ τ 16 (10 * o + g) then (if τ 16 (10 * o + g) ≤ 0 then τ 21 g else 0) else τ 21 g - τ 16 (10 * o + g)) else τ 21 g) = (fun g => if k ≤ g ∧ g < 10 then (if τ 21 g ≤ τ 16 (10 * o + g) then (if τ 16 (10 * o + g) ≤ 0 then τ 21 g else 0) else τ 21 g - τ 16 (10 * o + g)) else τ 21 g) := by
      intro v hv
      funext g
      by_cases e : g = k
      · subst e; rw [if_pos rfl, if_pos (by omega)]; exact hv
      · rw [if_neg e]
    by_cases h1 : τ 21 k ≤ τ 16 (10 * o + k)
    · rw [if_pos h1]
      by_cases h2 : τ 16 (10 * o + k) ≤ 0
      · rw [if_pos h2, fin _ (by rw [if_pos h1, if_pos h2])]
      · rw [if_neg h2, fin _ (by rw [if_pos h1, if_neg h2])]
    · rw [if_neg h1, fin _ (by rw [if_neg h1])]
def fnd (α : St) (l : List Nat) (s : Int32) : Int32 := l.foldl (fun s x => if α (26 + 2 * x) 7 = 0 then s + 1 else s) s
theorem fnd_perm {α : St} {l1 l2 : List Nat} (h : l1.Perm l2) (m : Int32) : fnd α l1 m = fnd α l2 m := by
  refine List.Perm.foldl_eq' h ?_ m
  intro x _ y _ z
  (repeat' split) <;> grind
theorem fnd_fi (α : St) (l : List Nat) : ∀ a b, fnd α l a + ffi α l b = nI l.length + (a + b) := by
  induction l with
  | nil => intro a b; show a + b = 0 + (a + b); grind
  | cons x r ih =>
    intro a b
    simp only [fnd, ffi, List.foldl_cons, List.length_cons] at ih ⊢
    by_cases h : α (26 + 2 * x) 7 = 0
    · rw [if_pos h, if_pos h, ih, ← pz_s]; grind
    · rw [if_neg h, if_neg h, ih, ← pz_s]; grind
theorem dn_m {σ α : St} {N : Nat} (hN : σ 8 2 = nI N) (hN2 : N ≤ 16) (h0 : ∀ i, i < 16 → σ 15 i = α (26 + 2 * i) 7) {o : Nat} (ho : o < 16) : ∀ d k n s, k + d = N → d < n → f_X4_done_187 σ (nI o) n s (nI k) = some (iv (fnd α (Fw (σ 13) (σ 13 o) k d) s), σ) := by
  intro d
  induction d with
  | zero =>
    intro k n s hk hn
    obtain ⟨n, rfl⟩ : ∃ m, n = m + 1 := ⟨n - 1, by omega⟩
    simp only [f_X4_done_187]
    rw [if_pos (show σ 8 2 ≤ nI k by rw [hN, pz_le (by omega) (by omega)]; omega)]; rfl
  | succ d ih =>
    intro k n s hk hn
    obtain ⟨n, rfl⟩ : ∃ m, n = m + 1 := ⟨n - 1, by omega⟩
    simp only [f_X4_done_187]
    rw [if_neg (show ¬ σ 8 2 ≤ nI k by rw [hN, pz_le (by omega) (by omega)]; omega), if_neg (pz_in (by omega) (by omega)), if_neg (pz_in ho (by omega)), pz_N (by omega), pz_N (by omega), pz_s, h0 k (by omega)]
    have := fun s => ih (k + 1) n s (by omega) (by omega)
    simp only [this]
    by_cases e : σ 13 k = σ 13 o
    · rw [if_pos e, Fw_p e]
      simp only [fnd, List.foldl_cons]
      by_cases h2 : α (26 + 2 * k) 7 = 0
      · simp [h2]
      · simp [h2]
    · rw [if_neg e, Fw_n e]; simp
theorem ir_c {α : St} {N M K : Nat} {L : Nat → List Nat} (w : WF α N M K L) {i : Nat} (hi : i < 16) : (∃ j, j < M ∧ j < 16 ∧ α (26 + 2 * i) 6 = nI (j + 1) ∧ f_X3_isReleased α (26 + 2 * i) = some (iv (if α (58 + 2 * j) 3 = 0 then 0 else 1))) ∨ ((α (26 + 2 * i) 6 = -1 ∨ α (26 + 2 * i) 6 = 0) ∧ f_X3_isReleased α (26 + 2 * i) = some (iv 0)) := by
  have hM := w.2.1.2
  unfold f_X3_isReleased
  rw [w.2.1.1]
  rcases (w.o hi).2.2.2.2.1 with e | ⟨p, hp, e⟩
  · right
    rw [e]; exact ⟨Or.inl rfl, rfl⟩
  · rw [e]
    rcases Nat.eq_zero_or_pos p with q | q
    · right
      subst q; exact ⟨Or.inr rfl, rfl⟩
    · left
      obtain ⟨j, rfl⟩ : ∃ j, p = j + 1 := ⟨p - 1, by omega⟩
      refine ⟨j, by omega, by omega, rfl, ?_⟩
      have em : nI (j + 1) - 1 = nI j := by rw [← pz_s]; grind
      rw [if_neg (show ¬ nI (j + 1) < 1 from fun q => by rw [show (1 : Int32) = nI 1 from rfl, pz_lt (by omega) (by omega)] at q; omega), if_neg (show ¬ nI M < nI (j + 1) from fun q => by rw [pz_lt (by omega) (by omega)] at q; omega), em, if_neg (pz_in (by omega) (by omega)), pz_N (by omega)]
      split <;> rfl
theorem sto {t v : Nat} (ht : t ≤ 10000) (hv : v ≤ 100) : mx0 (nI t - nI v) = nI (t - v) ∧ (if nI t ≤ nI v then (if nI v ≤ 0 then nI t else 0) else nI t - nI v) = nI (t - v) := by
  have e : (nI t - nI v).toInt = (t : Int) - v := pk_sub_toInt (by omega) (by omega)
  have e3 : ¬ t ≤ v → nI t - nI v = nI (t - v) := fun q => by
    apply Int32.toInt_inj.mp
    rw [e, nI_toInt (by omega)]; omega
  have z : (0 : Int32) = nI 0 := rfl
  constructor
  · unfold mx0
    by_cases q : t ≤ v
    · rw [if_neg (by rw [Int32.lt_iff_toInt_lt, e]; show ¬ ((0 : Int) < _); omega), show t - v = 0 by omega]; rfl
    · rw [if_pos (by rw [Int32.lt_iff_toInt_lt, e]; show ((0 : Int) < _); omega), e3 q]
  · by_cases q : t ≤ v
    · rw [if_pos ((pz_le (by omega) (by omega)).mpr q)]
      by_cases q2 : v ≤ 0
      · rw [if_pos (by rw [z, pz_le (by omega) (by omega)]; exact q2), show t - v = t by omega]
      · rw [if_neg (by rw [z, pz_le (by omega) (by omega)]; exact q2), show t - v = 0 by omega]; rfl
    · rw [if_neg (fun h => q ((pz_le (by omega) (by omega)).mp h)), e3 q]
theorem PSdone : PS_done Inv := by
  intro n hn σ hI a1
  obtain ⟨N, M, K, L, w, r, c⟩ := id hI
  have hm := io_m (r.n w) w.1.2 a1
  have hN := w.1.2
  rcases ro_c w.1.1 w.1.2 a1 with ⟨o, ho, rfl, e⟩ | ⟨hno, e⟩
  · have ho16 : o < 16 := by omega
    rw [if_pos ⟨o, ho, rfl⟩] at hm
    have two : ∀ k : Int32, Inv (n + 4) (up2 (up2 σ 8 0 0) 8 0 k) := fun k => by
      rw [show up2 (up2 σ 8 0 0) 8 0 k = up2 σ 8 0 k by funext p k; grind [up2_d]]; exact hI.q k
    have thr : ∀ k : Int32, Inv (n + 4) (up2 (up2 (up2 σ 8 0 0) 8 0 0) 8 0 k) := fun k => by
      rw [show up2 (up2 (up2 σ 8 0 0) 8 0 0) 8 0 k = up2 σ 8 0 k by funext p k; grind [up2_d]]; exact hI.q k
    rcases ir_c w ho16 with ⟨j, hjM, hj, hp, hir⟩ | ⟨hp, hir⟩
    · have c1 : (1 : Int32) ≤ nI (j + 1) := (pz_le (by decide : 1 < 2147483648) (by omega)).mpr (by omega)
      by_cases hrl : σ (58 + 2 * j) 3 = 0
      · rw [if_pos hrl] at hir
        refine ⟨eS, σ, 2, 0, up2 (up2 (up2 σ 8 0 0) 8 0 0) 8 0 2, ?_, ?_, AgI.e (by decide) (by decide), rfl, thr 2⟩
        · rw [f_X3_done, e, qp_p, if_pos (kd_o ho16), hir, ri_s, if_pos rfl]
        · rw [f_X4_done, hm, ri_s, if_neg (by decide), f_X4_done_14, c8, if_pos rfl, if_neg (pz_in ho16 (by omega)), pz_N (by omega), up2_ap (by decide), r.2.2 o ho16, hp, if_pos c1, f_X4_done_40, f_X4_done_43, c8, if_pos rfl, if_neg (pz_in ho16 (by omega)), pz_N (by omega), up2_ap (by decide), up2_ap (by decide), r.2.2 o ho16, hp, if_neg (pz_in (by omega) (by omega)), pz_N (by omega), up2_ap (by decide), up2_ap (by decide), r.1.2.2.2 j hj, if_pos hrl]; rfl
      · rw [if_neg hrl] at hir
        by_cases hf : σ (26 + 2 * o) 7 = 0
        · let σ0 := up2 σ (26 + 2 * o) 7 1
          let u5 : Nat → Int32 := fun g => if 0 ≤ g ∧ g < 10 then mx0 (σ0 5 g - σ0 (26 + 2 * o + 1) g) else σ0 5 g
          let σ1 := t5 σ0 5 u5
          have es := ts_c (q := 26 + 2 * o) (by omega) 10 0 40 σ0 (by omega) (by omega)
          have es' : f_X3_takeFromStock σ0 (26 + 2 * o) = some (.inl none, σ1) := es
          have s1 : ∀ p, p ≠ 5 → σ1 p = σ0 p := fun p hp => t5_ne hp
          have s0 : ∀ p, p ≠ 26 + 2 * o → σ0 p = σ p := fun p hp => up2_ne hp
          have sk : ∀ p k, k ≠ 7 → σ0 p k = σ p k := fun p k hk => up2_ak hk
          have w1 : WF σ1 N M K L := by
            obtain ⟨w1, w2, w3, w4, w5, w6, w7⟩ := w
            refine ⟨by rw [s1 _ (by omega), sk _ _ (by decide)]; exact w1, by rw [s1 _ (by omega), sk _ _ (by decide)]; exact w2, by rw [s1 _ (by omega), sk _ _ (by decide)]; exact w3, by rw [s1 _ (by omega), sk _ _ (by decide)]; exact w4, fun i hi => ?_, fun g hg => ?_, fun k hk => ?_⟩
            · unfold OW; rw [s1 _ (by omega), s1 _ (by omega), sk _ _ (by decide), sk _ _ (by decide), sk _ _ (by decide), sk _ _ (by decide), s0 (26 + 2 * i + 1) (by omega)]; exact w5 i hi
            · obtain ⟨t, ht, et⟩ := w6 g hg
              obtain ⟨v, hv, ev⟩ := (w5 o ho16).2.2.1 g hg
              refine ⟨t - v, by omega, ?_⟩
              show t5 σ0 5 u5 5 g = _
              rw [t5_at]
              show (if 0 ≤ g ∧ g < 10 then mx0 (σ0 5 g - σ0 (26 + 2 * o + 1) g) else σ0 5 g) = _
              rw [if_pos (by omega), s0 5 (by omega), s0 _ (by omega), et, ev, (sto ht hv).1]
            · obtain ⟨v1, v2, v3, v4⟩ := w7 k hk
              refine ⟨v1.f ((s1 _ (by omega)).trans (s0 _ (by omega))) ((s1 _ (by omega)).trans (s0 _ (by omega))), v2, fun i => ?_, fun i hi => ?_⟩
              · rw [s1 _ (by omega), sk _ _ (by decide)]; exact v3 i
              · rw [s1 _ (by omega), sk _ _ (by decide), s1 _ (by omega), sk _ _ (by decide)]; exact v4 i hi
          have em1 : eM σ σ1 := fun p h1 h2 => (s1 p (by omega)).trans (s0 p (by omega))
          have r1 : RQ σ1 σ := r.l em1
          have hm1 := io_m (σ := σ1) (r1.n w) w.1.2 (nI o)
          rw [if_pos ⟨o, ho, rfl⟩] at hm1
          let τ0 := up2 (up2 (up2 (up2 σ1 8 0 0) 8 0 0) 8 0 0) 15 o 1
          let u21 : Nat → Int32 := fun g => if 0 ≤ g ∧ g < 10 then (if τ0 21 g ≤ τ0 16 (10 * o + g) then (if τ0 16 (10 * o + g) ≤ 0 then τ0 21 g else 0) else τ0 21 g - τ0 16 (10 * o + g)) else τ0 21 g
          let σ2 := t5 τ0 21 u21
          have em := ts_m (o := o) ho16 10 0 40 τ0 (by omega) (by omega)
          have em' : f_X4_done_100 (nI o) 40 τ0 0 = f_X4_done_187 σ2 (nI o) 40 0 0 := em
          have m15 : ∀ i, i < 16 → σ2 15 i = σ1 (26 + 2 * i) 7 := by
            intro i hi
            show t5 τ0 21 u21 15 i = t5 σ0 5 u5 (26 + 2 * i) 7
            rw [t5_ne (by omega), t5_ne (by omega)]
            show up2 _ 15 o 1 15 i = up2 σ (26 + 2 * o) 7 1 (26 + 2 * i) 7
            by_cases q : i = o
            · subst q; rw [up2_at, up2_at]
            · have z : up2 σ (26 + 2 * o) 7 1 (26 + 2 * i) 7 = σ (26 + 2 * i) 7 := up2_ap (by omega)
              rw [up2_ak q, z]
              show σ1 15 i = _
              rw [em1 15 (by decide) (by decide)]; exact (r.1.2.1 i hi).2.2.2.2.1
          have ec : eC σ1 σ2 := fun p hp => by
            show t5 τ0 21 u21 p = _
            rw [t5_ne (by omega)]
            exact (((eC.up (by decide) (by decide)).tr (eC.up (by decide) (by decide))).tr (eC.up (by decide) (by decide))).tr (eC.up (by decide) (by decide)) p hp
          have s2 : ∀ p, 9 ≤ p → p < 25 → p ≠ 15 → p ≠ 21 → σ2 p = σ p := fun p h1 h2 h3 h4 => by
            show t5 τ0 21 u21 p = _
            rw [t5_ne h4]
            show up2 (up2 (up2 (up2 σ1 8 0 0) 8 0 0) 8 0 0) 15 o 1 p = _
            rw [up2_ne (by omega), up2_ne (by omega), up2_ne (by omega), up2_ne (by omega)]
            exact em1 p (by omega) h2
          have s8 : ∀ k, k ≠ 0 → σ2 8 k = σ 8 k := fun k hk => by
            show t5 τ0 21 u21 8 k = _
            rw [t5_ne (by decide)]
            show up2 (up2 (up2 (up2 σ1 8 0 0) 8 0 0) 8 0 0) 15 o 1 8 k = _
            rw [up2_ap (by omega), up2_ak hk, up2_ak hk, up2_ak hk, em1 8 (by decide) (by decide)]
          have hr2 : RQ σ2 σ1 := by
            obtain ⟨⟨⟨ra1, ra2, ra3⟩, rb, rd, re⟩, rf, rg⟩ := id r
            refine ⟨⟨⟨?_, ?_, ?_⟩, fun i hi => ?_, fun k hk => ?_, fun j hj => ?_⟩, ?_, fun i hi => ?_⟩
            · rw [s8 _ (by decide), s1 _ (by decide), sk _ _ (by decide)]; exact ra1
            · rw [s8 _ (by decide), s1 _ (by decide), sk _ _ (by decide)]; exact ra2
            · rw [s8 _ (by decide), s1 _ (by decide), sk _ _ (by decide)]; exact ra3
            · obtain ⟨b1, b2, b3, b4, b5, b6⟩ := rb i hi
              refine ⟨?_, ?_, ?_, ?_, m15 i hi, fun g' hg' => ?_⟩
              · rw [s2 _ (by decide) (by decide) (by decide) (by decide), s1 _ (by omega), sk _ _ (by decide)]; exact b1
              · rw [s2 _ (by decide) (by decide) (by decide) (by decide), s1 _ (by omega), sk _ _ (by decide)]; exact b2
              · rw [s2 _ (by decide) (by decide) (by decide) (by decide), s1 _ (by omega), sk _ _ (by decide)]; exact b3
              · rw [s2 _ (by decide) (by decide) (by decide) (by decide), s1 _ (by omega), sk _ _ (by decide)]; exact b4
              · rw [s2 _ (by decide) (by decide) (by decide) (by decide), s1 _ (by omega), s0 _ (by omega)]; exact b6 g' hg'
            · obtain ⟨d1, d2, d3, d4⟩ := rd k hk
              refine ⟨?_, ?_, ?_, ?_⟩
              · rw [s2 _ (by decide) (by decide) (by decide) (by decide), s1 _ (by omega), s0 _ (by omega)]; exact d1
              · rw [s2 _ (by decide) (by decide) (by decide) (by decide), s1 _ (by omega), s0 _ (by omega)]; exact d2
              · rw [s2 _ (by decide) (by decide) (by decide) (by decide), s1 _ (by omega), s0 _ (by omega)]; exact d3
              · show t5 τ0 21 u21 21 k = t5 σ0 5 u5 5 k
                rw [t5_at, t5_at]
                show (if 0 ≤ k ∧ k < 10 then (if τ0 21 k ≤ τ0 16 (10 * o + k) then (if τ0 16 (10 * o + k) ≤ 0 then τ0 21 k else 0) else τ0 21 k - τ0 16 (10 * o + k)) else τ0 21 k) = (if 0 ≤ k ∧ k < 10 then mx0 (σ0 5 k - σ0 (26 + 2 * o + 1) k) else σ0 5 k)
                have z1 : τ0 21 k = σ 21 k := by
                  show σ1 21 k = _
                  rw [em1 21 (by decide) (by decide)]
                have z2 : τ0 16 (10 * o + k) = σ 16 (10 * o + k) := by
                  show σ1 16 (10 * o + k) = _
                  rw [em1 16 (by decide) (by decide)]
                obtain ⟨t, ht, et⟩ := w.2.2.2.2.2.1 k hk
                obtain ⟨v, hv, ev⟩ := (w.o ho16).2.2.1 k hk
                rw [if_pos (show 0 ≤ k ∧ k < 10 by omega), if_pos (show 0 ≤ k ∧ k < 10 by omega), z1, z2, s0 5 (by omega), s0 _ (by omega), d4, (rb o ho16).2.2.2.2.2 k hk, et, ev, (sto ht hv).1, (sto ht hv).2]
            · rw [s2 _ (by decide) (by decide) (by decide) (by decide), s1 _ (by omega), s0 _ (by omega)]; exact re j hj
            · rw [s8 _ (by decide), s1 _ (by decide), sk _ _ (by decide)]; exact rf
            · rw [s2 _ (by decide) (by decide) (by decide) (by decide), s1 _ (by omega), sk _ _ (by decide)]; exact rg i hi
          have c2 : CM (n + 4) σ2 L := c.f (s8 11 (by decide)) (s2 14 (by decide) (by decide) (by decide) (by decide))
          have sl := hr2.sl w1 c2 hj
          have hdm := dn_m (hr2.n w1) hN (fun i hi => m15 i hi) ho16 N 0 40 0 (by omega) (by omega)
          have hp1 : σ1 (26 + 2 * o) 6 = nI (j + 1) := by rw [s1 _ (by omega), sk _ _ (by decide)]; exact hp
          rw [hr2.2.2 o ho16, hp1, fnd_perm sl.perm] at hdm
          have hval : nI (L j).length - ffi σ1 (L j) 0 = fnd σ1 (L j) 0 := by
            have := fnd_fi σ1 (L j) 0 0
            grind
          refine ⟨iv (fnd σ1 (L j) 0), σ1, 0, fnd σ1 (L j) 0, σ2, ?_, ?_, AgI.s, ?_, Inv.mk' w1 ec hr2 c2⟩
          · have ej : nI (j + 1) - 1 = nI j := by rw [← pz_s]; grind
            rw [f_X3_done, e, qp_p, if_pos (kd_o ho16), hir, ri_s, if_neg (by decide), if_pos hf, es', nv_s, hp1, ej, if_neg (pz_in hj (by omega)), pz_N (by omega), fi_cc (w1.w hj).1, ri_s, (w1.w hj).1.1, hval]
          · rw [f_X4_done, hm1, ri_s, if_neg (by decide), f_X4_done_14, c8, if_pos rfl, if_neg (pz_in ho16 (by omega)), pz_N (by omega), up2_ap (by decide), r1.2.2 o ho16, hp, if_pos c1, f_X4_done_40, f_X4_done_43, c8, if_pos rfl, if_neg (pz_in ho16 (by omega)), pz_N (by omega), up2_ap (by decide), up2_ap (by decide), r1.2.2 o ho16, hp, if_neg (pz_in (by omega) (by omega)), pz_N (by omega), up2_ap (by decide), up2_ap (by decide), r1.1.2.2.2 j hj, if_neg hrl, up2_ap (by decide), up2_ap (by decide), (r1.1.2.1 o ho16).2.2.2.2.1, if_pos hf, f_X4_done_79, f_X4_done_82, c8, if_pos (by decide), if_neg (pz_in ho16 (by omega)), pz_N (by omega)]
            exact em'.trans hdm
          · rfl
        · refine ⟨eS, σ, 2, 0, up2 (up2 (up2 σ 8 0 0) 8 0 0) 8 0 2, ?_, ?_, AgI.e (by decide) (by decide), rfl, thr 2⟩
          · rw [f_X3_done, e, qp_p, if_pos (kd_o ho16), hir, ri_s, if_neg (by decide), if_neg hf]
          · rw [f_X4_done, hm, ri_s, if_neg (by decide), f_X4_done_14, c8, if_pos rfl, if_neg (pz_in ho16 (by omega)), pz_N (by omega), up2_ap (by decide), r.2.2 o ho16, hp, if_pos c1, f_X4_done_40, f_X4_done_43, c8, if_pos rfl, if_neg (pz_in ho16 (by omega)), pz_N (by omega), up2_ap (by decide), up2_ap (by decide), r.2.2 o ho16, hp, if_neg (pz_in (by omega) (by omega)), pz_N (by omega), up2_ap (by decide), up2_ap (by decide), r.1.2.2.2 j hj, if_neg hrl, up2_ap (by decide), up2_ap (by decide), (r.1.2.1 o ho16).2.2.2.2.1, if_neg hf]; rfl
    · refine ⟨eS, σ, 2, 0, up2 (up2 σ 8 0 0) 8 0 2, ?_, ?_, AgI.e (by decide) (by decide), rfl, two 2⟩
      · rw [f_X3_done, e, qp_p, if_pos (kd_o ho16), hir, ri_s, if_pos rfl]
      · have : ¬ (1 : Int32) ≤ σ (26 + 2 * o) 6 := by rcases hp with q | q <;> rw [q] <;> decide
        rw [f_X4_done, hm, ri_s, if_neg (by decide), f_X4_done_14, c8, if_pos rfl, if_neg (pz_in ho16 (by omega)), pz_N (by omega), up2_ap (by decide), r.2.2 o ho16, if_neg this]; rfl
  · refine ⟨eN, σ, 1, 0, up2 σ 8 0 1, ?_, ?_, AgI.e (by decide) (by decide), rfl, hI.q 1⟩
    · rw [f_X3_done, e, qp_e]
    · rw [f_X4_done, hm, if_neg hno]; rfl
