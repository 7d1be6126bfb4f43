/-! the reference's loops over all orders -/
def Fw (pl : Nat → Int32) (w : Int32) (k d : Nat) : List Nat := (List.range' k d).filter (fun i => decide (pl i = w))
def Fb (pl cm : Nat → Int32) (o : Nat) (k d : Nat) : List Nat := (List.range' k d).filter (fun i => decide (pl i = pl o ∧ cm i < cm o))
theorem Fw_0 {pl : Nat → Int32} {w : Int32} {k : Nat} : Fw pl w k 0 = [] := rfl
theorem Fw_p {pl : Nat → Int32} {w : Int32} {k d : Nat} (h : pl k = w) : Fw pl w k (d + 1) = k :: Fw pl w (k + 1) d := by
  simp [Fw, List.range'_succ, h]
theorem Fw_n {pl : Nat → Int32} {w : Int32} {k d : Nat} (h : ¬ pl k = w) : Fw pl w k (d + 1) = Fw pl w (k + 1) d := by
  simp [Fw, List.range'_succ, h]
theorem Fb_p {pl cm : Nat → Int32} {o k d : Nat} (h : pl k = pl o ∧ cm k < cm o) : Fb pl cm o k (d + 1) = k :: Fb pl cm o (k + 1) d := by
  simp [Fb, List.range'_succ, h]
theorem Fb_n {pl cm : Nat → Int32} {o k d : Nat} (h : ¬ (pl k = pl o ∧ cm k < cm o)) : Fb pl cm o k (d + 1) = Fb pl cm o (k + 1) d := by
  simp only [Fb, List.range'_succ, List.filter_cons, decide_eq_false h]; rfl
def fsz (l : List Nat) (s : Int32) : Int32 := l.foldl (fun s _ => s + 1) s
section
variable {σ α : St} {N : Nat}
theorem sz_m (hN : σ 8 2 = nI N) (hN2 : N ≤ 16) (w : Int32) : ∀ d k n s, k + d = N → d < n → f_X4_sizeOf_4 σ w n s (nI k) = some (iv (fsz (Fw (σ 13) w k d) s)) := by
  intro d
  induction d with
  | zero =>
    intro k n s hk hn
    obtain ⟨n, rfl⟩ : ∃ m, n = m + 1 := ⟨n - 1, by omega⟩
    simp only [f_X4_sizeOf_4]
    rw [if_pos (by rw [hN, pz_le (by omega) (by omega)]; omega)]; rfl
  | succ d ih =>
    intro k n s hk hn
    obtain ⟨n, rfl⟩ : ∃ m, n = m + 1 := ⟨n - 1, by omega⟩
    simp only [f_X4_sizeOf_4]
    rw [if_neg (by rw [hN, pz_le (by omega) (by omega)]; omega), if_neg (pz_in (by omega) (by omega)), pz_N (by omega), pz_s]
    have := fun s => ih (k + 1) n s (by omega) (by omega)
    simp only [this]
    split
    · rename_i e; rw [Fw_p e]; rfl
    · rename_i e; rw [Fw_n e]; simp
theorem sz_mm (hN : σ 8 2 = nI N) (hN2 : N ≤ 16) (w : Int32) : f_X4_sizeOf σ w = some (iv (fsz (Fw (σ 13) w 0 N) 0)) :=
  sz_m hN hN2 w N 0 40 0 (by omega) (by omega)
theorem sb_m (hN : σ 8 2 = nI N) (hN2 : N ≤ 16) (h0 : R0 σ α) (hz : ZK α) {o : Nat} (ho : o < 16) : ∀ d k n m, k + d = N → d < n → f_X4_savedBy_4 σ (nI o) n m (nI k) = some (iv (gsv α o (Fb (σ 13) (σ 14) o k d) m)) := by
  intro d
  induction d with
  | zero =>
    intro k n s hk hn
    obtain ⟨n, rfl⟩ : ∃ m, n = m + 1 := ⟨n - 1, by omega⟩
    simp only [f_X4_savedBy_4]
    rw [if_pos (by rw [hN, pz_le (by omega) (by omega)]; omega)]; rfl
  | succ d ih =>
    intro k n s hk hn
    obtain ⟨n, rfl⟩ : ∃ m, n = m + 1 := ⟨n - 1, by omega⟩
    simp only [f_X4_savedBy_4]
    rw [if_neg (by rw [hN, pz_le (by omega) (by omega)]; omega), if_neg (pz_in (by omega) (by omega)), if_neg (pz_in ho (by omega)), pz_N (by omega), pz_N (by omega), pz_s, sv_m h0 (by omega) ho (hz k (by omega)) (hz o ho)]
    have := fun s => ih (k + 1) n s (by omega) (by omega)
    simp only [this, ri_s]
    by_cases h1 : σ 13 k = σ 13 o
    · rw [if_pos h1]
      by_cases h2 : σ 14 o ≤ σ 14 k
      · rw [if_pos h2, Fb_n (by grind)]
      · rw [if_neg h2, Fb_p (by grind)]
        simp only [gsv, List.foldl_cons, sv_comm α o k]
        by_cases h3 : sv α k o ≤ s
        · rw [if_pos h3, if_neg (show ¬ s < sv α k o by grind)]
        · rw [if_neg h3, if_pos (show s < sv α k o by grind)]
    · rw [if_neg h1, Fb_n (by grind)]
theorem sb_mm (hN : σ 8 2 = nI N) (hN2 : N ≤ 16) (h0 : R0 σ α) (hz : ZK α) {o : Nat} (ho : o < 16) : f_X4_savedBy σ (nI o) = some (iv (gsv α o (Fb (σ 13) (σ 14) o 0 N) 0)) :=
  sb_m hN hN2 h0 hz ho N 0 40 0 (by omega) (by omega)
theorem so_m (hN : σ 8 2 = nI N) (hN2 : N ≤ 16) (h0 : R0 σ α) (hz : ZK α) (w : Int32) : ∀ d k n s, k + d = N → d < n → f_X4_savedOf_4 σ w n s (nI k) = some (iv ((Fw (σ 13) w k d).foldl (fun s o => s + gsv α o (Fb (σ 13) (σ 14) o 0 N) 0) s)) := by
  intro d
  induction d with
  | zero =>
    intro k n s hk hn
    obtain ⟨n, rfl⟩ : ∃ m, n = m + 1 := ⟨n - 1, by omega⟩
    simp only [f_X4_savedOf_4]
    rw [if_pos (by rw [hN, pz_le (by omega) (by omega)]; omega)]; rfl
  | succ d ih =>
    intro k n s hk hn
    obtain ⟨n, rfl⟩ : ∃ m, n = m + 1 := ⟨n - 1, by omega⟩
    simp only [f_X4_savedOf_4]
    rw [if_neg (by rw [hN, pz_le (by omega) (by omega)]; omega), if_neg (pz_in (by omega) (by omega)), pz_N (by omega), pz_s, sb_mm hN hN2 h0 hz (o := k) (by omega), ri_s]
    have := fun s => ih (k + 1) n s (by omega) (by omega)
    simp only [this]
    split
    · rename_i e; rw [Fw_p e]; rfl
    · rename_i e; rw [Fw_n e]; simp
theorem so_mm (hN : σ 8 2 = nI N) (hN2 : N ≤ 16) (h0 : R0 σ α) (hz : ZK α) (w : Int32) : f_X4_savedOf σ w = some (iv ((Fw (σ 13) w 0 N).foldl (fun s o => s + gsv α o (Fb (σ 13) (σ 14) o 0 N) 0) 0)) :=
  so_m hN hN2 h0 hz w N 0 40 0 (by omega) (by omega)
theorem se_m (hN : σ 8 2 = nI N) (hN2 : N ≤ 16) (h0 : R0 σ α) (hz : ZK α) (w : Int32) : ∀ d k n s, k + d = N → d < n → f_X4_secondsOf_4 σ w n s (nI k) = some (iv (fse α (Fw (σ 13) w k d) s - (Fw (σ 13) w 0 N).foldl (fun s o => s + gsv α o (Fb (σ 13) (σ 14) o 0 N) 0) 0)) := by
  intro d
  induction d with
  | zero =>
    intro k n s hk hn
    obtain ⟨n, rfl⟩ : ∃ m, n = m + 1 := ⟨n - 1, by omega⟩
    simp only [f_X4_secondsOf_4]
    rw [if_pos (by rw [hN, pz_le (by omega) (by omega)]; omega), so_mm hN hN2 h0 hz, ri_s]; rfl
  | succ d ih =>
    intro k n s hk hn
    obtain ⟨n, rfl⟩ : ∃ m, n = m + 1 := ⟨n - 1, by omega⟩
    simp only [f_X4_secondsOf_4]
    rw [if_neg (by rw [hN, pz_le (by omega) (by omega)]; omega), if_neg (pz_in (by omega) (by omega)), pz_N (by omega), pz_s, (h0.2.1 k (by omega)).2.2.1]
    have := fun s => ih (k + 1) n s (by omega) (by omega)
    simp only [this]
    split
    · rename_i e; rw [Fw_p e]; rfl
    · rename_i e; rw [Fw_n e]; simp
theorem se_mm (hN : σ 8 2 = nI N) (hN2 : N ≤ 16) (h0 : R0 σ α) (hz : ZK α) (w : Int32) : f_X4_secondsOf σ w = some (iv (fse α (Fw (σ 13) w 0 N) 0 - (Fw (σ 13) w 0 N).foldl (fun s o => s + gsv α o (Fb (σ 13) (σ 14) o 0 N) 0) 0)) :=
  se_m hN hN2 h0 hz w N 0 40 0 (by omega) (by omega)
theorem to_m (hN : σ 8 2 = nI N) (hN2 : N ≤ 16) (h0 : R0 σ α) (w x2 : Int32) : ∀ d k n s t, k + d = N → d < n → f_X4_told_118 σ w x2 n s t (nI k) = some (iv (if x2 = 3 then fdu α (Fw (σ 13) w k d) s else ffi α (Fw (σ 13) w k d) t), σ) := by
  intro d
  induction d with
  | zero =>
    intro k n s t hk hn
    obtain ⟨n, rfl⟩ : ∃ m, n = m + 1 := ⟨n - 1, by omega⟩
    simp only [f_X4_told_118]
    rw [if_pos (by rw [hN, pz_le (by omega) (by omega)]; omega)]
    simp only [Fw_0, fdu, ffi, List.foldl_nil]
    split <;> rfl
  | succ d ih =>
    intro k n s t hk hn
    obtain ⟨n, rfl⟩ : ∃ m, n = m + 1 := ⟨n - 1, by omega⟩
    simp only [f_X4_told_118]
    rw [if_neg (by rw [hN, pz_le (by omega) (by omega)]; omega), if_neg (pz_in (by omega) (by omega)), pz_N (by omega), pz_s, (h0.2.1 k (by omega)).1, (h0.2.1 k (by omega)).2.2.2.2.1]
    have := fun s t => ih (k + 1) n s t (by omega) (by omega)
    simp only [this]
    by_cases e : σ 13 k = w
    · rw [if_pos e, Fw_p e]
      simp only [fdu, ffi, List.foldl_cons]
      by_cases h1 : s ≤ α (26 + 2 * k) 0
      · rw [if_pos h1, if_neg (show ¬ α (26 + 2 * k) 0 < s by grind)]
        by_cases h2 : α (26 + 2 * k) 7 = 0
        · simp [h2]
        · simp [h2]
      · rw [if_neg h1, if_pos (show α (26 + 2 * k) 0 < s by grind)]
        by_cases h2 : α (26 + 2 * k) 7 = 0
        · simp [h2]
        · simp [h2]
    · rw [if_neg e, Fw_n e]
theorem wa_m (hN : σ 8 2 = nI N) (hN2 : N ≤ 16) (h0 : R0 σ α) (w : Int32) {g : Nat} (hg : g < 10) : ∀ d k n s, k + d = N → d < n → f_X4_wantsOf_5 σ w (nI g) n s (nI k) = some (iv (fwa α g (Fw (σ 13) w k d) s)) := by
  intro d
  induction d with
  | zero =>
    intro k n s hk hn
    obtain ⟨n, rfl⟩ : ∃ m, n = m + 1 := ⟨n - 1, by omega⟩
    simp only [f_X4_wantsOf_5]
    rw [if_pos (by rw [hN, pz_le (by omega) (by omega)]; omega)]; rfl
  | succ d ih =>
    intro k n s hk hn
    obtain ⟨n, rfl⟩ : ∃ m, n = m + 1 := ⟨n - 1, by omega⟩
    simp only [f_X4_wantsOf_5]
    rw [if_neg (by rw [hN, pz_le (by omega) (by omega)]; omega), if_neg (pz_in (by omega) (by omega)), pz_10 (by omega) hg, if_neg (pz_in (by omega) (by omega)), pz_N (by omega), pz_N (by omega), pz_s, (h0.2.1 k (by omega)).2.2.2.2.1, (h0.2.1 k (by omega)).2.2.2.2.2 g hg]
    have := fun s => ih (k + 1) n s (by omega) (by omega)
    simp only [this]
    by_cases e : σ 13 k = w
    · rw [if_pos e, Fw_p e]
      simp only [fwa, List.foldl_cons]
      by_cases h2 : α (26 + 2 * k) 7 = 0
      · simp [h2]
      · simp [h2]
    · rw [if_neg e, Fw_n e]; simp
theorem wa_mm (hN : σ 8 2 = nI N) (hN2 : N ≤ 16) (h0 : R0 σ α) (w : Int32) {g : Nat} (hg : g < 10) : f_X4_wantsOf σ w (nI g) = some (iv (fwa α g (Fw (σ 13) w 0 N) 0)) :=
  wa_m hN hN2 h0 w hg N 0 40 0 (by omega) (by omega)
theorem mo_m (hN : σ 8 2 = nI N) (hN2 : N ≤ 16) (h0 : R0 σ α) (hz : ZK α) {o : Nat} (ho : o < 16) (w : Int32) : ∀ d k n m, k + d = N → d < n → f_X4_most_5 σ (nI o) w n m (nI k) = some (iv (gsv α o (Fw (σ 22) w k d) m)) := by
  intro d
  induction d with
  | zero =>
    intro k n s hk hn
    obtain ⟨n, rfl⟩ : ∃ m, n = m + 1 := ⟨n - 1, by omega⟩
    simp only [f_X4_most_5]
    rw [if_pos (by rw [hN, pz_le (by omega) (by omega)]; omega)]; rfl
  | succ d ih =>
    intro k n s hk hn
    obtain ⟨n, rfl⟩ : ∃ m, n = m + 1 := ⟨n - 1, by omega⟩
    simp only [f_X4_most_5]
    rw [if_neg (by rw [hN, pz_le (by omega) (by omega)]; omega), if_neg (pz_in (by omega) (by omega)), pz_N (by omega), pz_s, sv_m h0 (by omega) ho (hz k (by omega)) (hz o ho)]
    have := fun s => ih (k + 1) n s (by omega) (by omega)
    simp only [this, ri_s]
    by_cases h1 : σ 22 k = w
    · rw [if_pos h1, Fw_p h1]
      simp only [gsv, List.foldl_cons, sv_comm α o k]
      by_cases h3 : sv α k o ≤ s
      · rw [if_pos h3, if_neg (show ¬ s < sv α k o by grind)]
      · rw [if_neg h3, if_pos (show s < sv α k o by grind)]
    · rw [if_neg h1, Fw_n h1]
theorem mo_mm (hN : σ 8 2 = nI N) (hN2 : N ≤ 16) (h0 : R0 σ α) (hz : ZK α) {o : Nat} (ho : o < 16) (w : Int32) : f_X4_most σ (nI o) w = some (iv (gsv α o (Fw (σ 22) w 0 N) 0)) :=
  mo_m hN hN2 h0 hz ho w N 0 40 0 (by omega) (by omega)
/-! members by the order in which they came -/
theorem ma_m1 (hN : σ 8 2 = nI N) (hN2 : N ≤ 16) (w x2 : Int32) {o : Nat} (ho : o < 16) (kc : Int32 → Option RV) : ∀ d k n s, k + d = N → d < n → f_X4_memberAt_29 σ w x2 (nI o) kc n s (nI k) = kc (fsz ((Fw (σ 13) w k d).filter (fun x => decide (σ 14 x < σ 14 o))) s) := by
  intro d
  induction d with
  | zero =>
    intro k n s hk hn
    obtain ⟨n, rfl⟩ : ∃ m, n = m + 1 := ⟨n - 1, by omega⟩
    simp only [f_X4_memberAt_29]
    rw [if_pos (by rw [hN, pz_le (by omega) (by omega)]; omega)]; rfl
  | succ d ih =>
    intro k n s hk hn
    obtain ⟨n, rfl⟩ : ∃ m, n = m + 1 := ⟨n - 1, by omega⟩
    simp only [f_X4_memberAt_29]
    rw [if_neg (by rw [hN, pz_le (by omega) (by omega)]; omega), if_neg (pz_in (by omega) (by omega)), pz_N (by omega), if_neg (pz_in ho (by omega)), pz_N (by omega), pz_s]
    have := fun s => ih (k + 1) n s (by omega) (by omega)
    simp only [this]
    by_cases h1 : σ 13 k = w
    · rw [if_pos h1, Fw_p h1, List.filter_cons]
      by_cases h2 : σ 14 o ≤ σ 14 k
      · rw [if_pos h2, if_neg (show ¬ (decide (σ 14 k < σ 14 o) = true) by simp only [decide_eq_true_eq]; grind)]; simp
      · rw [if_neg h2, if_pos (show (decide (σ 14 k < σ 14 o) = true) by simp only [decide_eq_true_eq]; grind)]; rfl
    · rw [if_neg h1, Fw_n h1]; simp
theorem ma_m2 (hN : σ 8 2 = nI N) (hN2 : N ≤ 16) (w x2 : Int32) : ∀ d k n, k + d = N → d < n → f_X4_memberAt_2 σ w x2 n (nI k) = some (iv (((Fw (σ 13) w k d).find? (fun o => decide (fsz ((Fw (σ 13) w 0 N).filter (fun x => decide (σ 14 x < σ 14 o))) 0 = x2))).elim (-1) nI)) := by
  intro d
  induction d with
  | zero =>
    intro k n hk hn
    obtain ⟨n, rfl⟩ : ∃ m, n = m + 1 := ⟨n - 1, by omega⟩
    simp only [f_X4_memberAt_2]
    rw [if_pos (by rw [hN, pz_le (by omega) (by omega)]; omega)]; rfl
  | succ d ih =>
    intro k n hk hn
    obtain ⟨n, rfl⟩ : ∃ m, n = m + 1 := ⟨n - 1, by omega⟩
    simp only [f_X4_memberAt_2]
    have r := fun kc => ma_m1 hN hN2 w x2 (o := k) (by omega) kc N 0 40 0 (by omega) (by omega)
    rw [show nI 0 = 0 from rfl] at r
    rw [if_neg (by rw [hN, pz_le (by omega) (by omega)]; omega), if_neg (pz_in (by omega) (by omega)), pz_N (by omega), r, pz_s, ih (k + 1) n (by omega) (by omega)]
    by_cases h1 : σ 13 k = w
    · rw [if_pos h1, Fw_p h1, List.find?_cons]
      by_cases h2 : fsz ((Fw (σ 13) w 0 N).filter (fun x => decide (σ 14 x < σ 14 k))) 0 = x2
      · rw [if_pos h2]; simp [h2]
      · rw [if_neg h2]; simp [h2]
    · rw [if_neg h1, Fw_n h1]
theorem ma_mm (hN : σ 8 2 = nI N) (hN2 : N ≤ 16) (w x2 : Int32) : f_X4_memberAt σ w x2 = some (iv (((Fw (σ 13) w 0 N).find? (fun o => decide (fsz ((Fw (σ 13) w 0 N).filter (fun x => decide (σ 14 x < σ 14 o))) 0 = x2))).elim (-1) nI)) :=
  ma_m2 hN hN2 w x2 N 0 40 (by omega) (by omega)
end
