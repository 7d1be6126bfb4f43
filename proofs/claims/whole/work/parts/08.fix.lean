theorem kdc_0 : kd 0 = 3 := by decide
theorem kdc_1 : kd 1 = 0 := by decide
theorem kdc_2 : kd 2 = 5 := by decide
theorem lnc_2 : ln 2 = 10 := by decide
theorem kdc_3 : kd 3 = 5 := by decide
theorem lnc_3 : ln 3 = 10 := by decide
theorem kdc_4 : kd 4 = 5 := by decide
theorem lnc_4 : ln 4 = 10 := by decide
theorem kdc_5 : kd 5 = 5 := by decide
theorem lnc_5 : ln 5 = 10 := by decide
theorem kdc_6 : kd 6 = 7 := by decide
theorem kdc_7 : kd 7 = 8 := by decide
theorem kdc_8 : kd 8 = 4 := by decide
theorem kdc_9 : kd 9 = 5 := by decide
theorem lnc_9 : ln 9 = 16 := by decide
theorem kdc_10 : kd 10 = 5 := by decide
theorem lnc_10 : ln 10 = 16 := by decide
theorem kdc_11 : kd 11 = 5 := by decide
theorem lnc_11 : ln 11 = 16 := by decide
theorem kdc_12 : kd 12 = 5 := by decide
theorem lnc_12 : ln 12 = 16 := by decide
theorem kdc_13 : kd 13 = 5 := by decide
theorem lnc_13 : ln 13 = 16 := by decide
theorem kdc_14 : kd 14 = 5 := by decide
theorem lnc_14 : ln 14 = 16 := by decide
theorem kdc_15 : kd 15 = 6 := by decide
theorem lnc_15 : ln 15 = 16 := by decide
theorem kdc_16 : kd 16 = 5 := by decide
theorem lnc_16 : ln 16 = 160 := by decide
theorem kdc_17 : kd 17 = 5 := by decide
theorem lnc_17 : ln 17 = 10 := by decide
theorem kdc_18 : kd 18 = 5 := by decide
theorem lnc_18 : ln 18 = 10 := by decide
theorem kdc_19 : kd 19 = 5 := by decide
theorem lnc_19 : ln 19 = 10 := by decide
theorem kdc_20 : kd 20 = 6 := by decide
theorem lnc_20 : ln 20 = 17 := by decide
theorem kdc_21 : kd 21 = 5 := by decide
theorem lnc_21 : ln 21 = 10 := by decide
theorem kdc_22 : kd 22 = 5 := by decide
theorem lnc_22 : ln 22 = 16 := by decide
theorem kdc_23 : kd 23 = 5 := by decide
theorem lnc_23 : ln 23 = 16 := by decide
theorem kdc_24 : kd 24 = 6 := by decide
theorem lnc_24 : ln 24 = 16 := by decide
theorem kdc_25 : kd 25 = 9 := by decide
theorem kdc_90 : kd 90 = 2 := by decide
theorem kdc_91 : kd 91 = 5 := by decide
theorem lnc_91 : ln 91 = 16 := by decide
theorem wu0_3 {G : GT} {lo : Nat → Int64} {σ : St} {p : Nat} {v : Int32} (h : kd p = 0) : wcell G lo (up2 σ p 3 v) p = .inr (0, ([.ref (gA G 2), .ref (gA G 3), .ref (gA G 4), .int (σ p 3)] : List Value).set 3 (.int v)) := by simp [wc0 h, up2_eq, upd]
theorem wu1_0 {G : GT} {lo : Nat → Int64} {σ : St} {p : Nat} {v : Int32} (h : kd p = 1) : wcell G lo (up2 σ p 0 v) p = .inr (1, ([.int (σ p 0), .int (σ p 1), .int (σ p 2), .int (σ p 3), .int (σ p 4), .ref (gA G (p + 1)), .int (σ p 6), .int (σ p 7), .int (σ p 8)] : List Value).set 0 (.int v)) := by simp [wc1 h, up2_eq, upd]
theorem wu1_1 {G : GT} {lo : Nat → Int64} {σ : St} {p : Nat} {v : Int32} (h : kd p = 1) : wcell G lo (up2 σ p 1 v) p = .inr (1, ([.int (σ p 0), .int (σ p 1), .int (σ p 2), .int (σ p 3), .int (σ p 4), .ref (gA G (p + 1)), .int (σ p 6), .int (σ p 7), .int (σ p 8)] : List Value).set 1 (.int v)) := by simp [wc1 h, up2_eq, upd]
theorem wu1_2 {G : GT} {lo : Nat → Int64} {σ : St} {p : Nat} {v : Int32} (h : kd p = 1) : wcell G lo (up2 σ p 2 v) p = .inr (1, ([.int (σ p 0), .int (σ p 1), .int (σ p 2), .int (σ p 3), .int (σ p 4), .ref (gA G (p + 1)), .int (σ p 6), .int (σ p 7), .int (σ p 8)] : List Value).set 2 (.int v)) := by simp [wc1 h, up2_eq, upd]
theorem wu1_3 {G : GT} {lo : Nat → Int64} {σ : St} {p : Nat} {v : Int32} (h : kd p = 1) : wcell G lo (up2 σ p 3 v) p = .inr (1, ([.int (σ p 0), .int (σ p 1), .int (σ p 2), .int (σ p 3), .int (σ p 4), .ref (gA G (p + 1)), .int (σ p 6), .int (σ p 7), .int (σ p 8)] : List Value).set 3 (.int v)) := by simp [wc1 h, up2_eq, upd]
theorem wu1_4 {G : GT} {lo : Nat → Int64} {σ : St} {p : Nat} {v : Int32} (h : kd p = 1) : wcell G lo (up2 σ p 4 v) p = .inr (1, ([.int (σ p 0), .int (σ p 1), .int (σ p 2), .int (σ p 3), .int (σ p 4), .ref (gA G (p + 1)), .int (σ p 6), .int (σ p 7), .int (σ p 8)] : List Value).set 4 (.int v)) := by simp [wc1 h, up2_eq, upd]
theorem wu1_6 {G : GT} {lo : Nat → Int64} {σ : St} {p : Nat} {v : Int32} (h : kd p = 1) : wcell G lo (up2 σ p 6 v) p = .inr (1, ([.int (σ p 0), .int (σ p 1), .int (σ p 2), .int (σ p 3), .int (σ p 4), .ref (gA G (p + 1)), .int (σ p 6), .int (σ p 7), .int (σ p 8)] : List Value).set 6 (.int v)) := by simp [wc1 h, up2_eq, upd]
theorem wu1_7 {G : GT} {lo : Nat → Int64} {σ : St} {p : Nat} {v : Int32} (h : kd p = 1) : wcell G lo (up2 σ p 7 v) p = .inr (1, ([.int (σ p 0), .int (σ p 1), .int (σ p 2), .int (σ p 3), .int (σ p 4), .ref (gA G (p + 1)), .int (σ p 6), .int (σ p 7), .int (σ p 8)] : List Value).set 7 (.int v)) := by simp [wc1 h, up2_eq, upd]
theorem wu1_8 {G : GT} {lo : Nat → Int64} {σ : St} {p : Nat} {v : Int32} (h : kd p = 1) : wcell G lo (up2 σ p 8 v) p = .inr (1, ([.int (σ p 0), .int (σ p 1), .int (σ p 2), .int (σ p 3), .int (σ p 4), .ref (gA G (p + 1)), .int (σ p 6), .int (σ p 7), .int (σ p 8)] : List Value).set 8 (.int v)) := by simp [wc1 h, up2_eq, upd]
theorem wu2_1 {G : GT} {lo : Nat → Int64} {σ : St} {p : Nat} {v : Int32} (h : kd p = 2) : wcell G lo (up2 σ p 1 v) p = .inr (2, ([.ref (gA G (p + 1)), .int (σ p 1), .int (σ p 2), .int (σ p 3)] : List Value).set 1 (.int v)) := by simp [wc2 h, up2_eq, upd]
theorem wu2_2 {G : GT} {lo : Nat → Int64} {σ : St} {p : Nat} {v : Int32} (h : kd p = 2) : wcell G lo (up2 σ p 2 v) p = .inr (2, ([.ref (gA G (p + 1)), .int (σ p 1), .int (σ p 2), .int (σ p 3)] : List Value).set 2 (.int v)) := by simp [wc2 h, up2_eq, upd]
theorem wu2_3 {G : GT} {lo : Nat → Int64} {σ : St} {p : Nat} {v : Int32} (h : kd p = 2) : wcell G lo (up2 σ p 3 v) p = .inr (2, ([.ref (gA G (p + 1)), .int (σ p 1), .int (σ p 2), .int (σ p 3)] : List Value).set 3 (.int v)) := by simp [wc2 h, up2_eq, upd]
theorem wu3_0 {G : GT} {lo : Nat → Int64} {σ : St} {p : Nat} {v : Int32} (h : kd p = 3) : wcell G lo (up2 σ p 0 v) p = .inr (3, ([.int (σ p 0), .ref (gA G 1), .ref (gA G 5), .ref (gA G 6), .int (σ p 4), .ref (gA G 7), .int (σ p 6), .ref (gA G 90)] : List Value).set 0 (.int v)) := by simp [wc3 h, up2_eq, upd]
theorem wu3_4 {G : GT} {lo : Nat → Int64} {σ : St} {p : Nat} {v : Int32} (h : kd p = 3) : wcell G lo (up2 σ p 4 v) p = .inr (3, ([.int (σ p 0), .ref (gA G 1), .ref (gA G 5), .ref (gA G 6), .int (σ p 4), .ref (gA G 7), .int (σ p 6), .ref (gA G 90)] : List Value).set 4 (.int v)) := by simp [wc3 h, up2_eq, upd]
theorem wu3_6 {G : GT} {lo : Nat → Int64} {σ : St} {p : Nat} {v : Int32} (h : kd p = 3) : wcell G lo (up2 σ p 6 v) p = .inr (3, ([.int (σ p 0), .ref (gA G 1), .ref (gA G 5), .ref (gA G 6), .int (σ p 4), .ref (gA G 7), .int (σ p 6), .ref (gA G 90)] : List Value).set 6 (.int v)) := by simp [wc3 h, up2_eq, upd]
theorem wu4_0 {G : GT} {lo : Nat → Int64} {σ : St} {p : Nat} {v : Int32} (h : kd p = 4) : wcell G lo (up2 σ p 0 v) p = .inr (4, ([.int (σ p 0), .int (σ p 1), .int (σ p 2), .ref (gA G 9), .ref (gA G 10), .ref (gA G 11), .ref (gA G 12), .ref (gA G 13), .ref (gA G 14), .ref (gA G 15), .ref (gA G 16), .int (σ p 11), .int (σ p 12), .ref (gA G 17), .ref (gA G 18), .ref (gA G 19), .int (σ p 16), .ref (gA G 20), .ref (gA G 21), .ref (gA G 22), .ref (gA G 23), .ref (gA G 24)] : List Value).set 0 (.int v)) := by simp [wc4 h, up2_eq, upd]
theorem wu4_1 {G : GT} {lo : Nat → Int64} {σ : St} {p : Nat} {v : Int32} (h : kd p = 4) : wcell G lo (up2 σ p 1 v) p = .inr (4, ([.int (σ p 0), .int (σ p 1), .int (σ p 2), .ref (gA G 9), .ref (gA G 10), .ref (gA G 11), .ref (gA G 12), .ref (gA G 13), .ref (gA G 14), .ref (gA G 15), .ref (gA G 16), .int (σ p 11), .int (σ p 12), .ref (gA G 17), .ref (gA G 18), .ref (gA G 19), .int (σ p 16), .ref (gA G 20), .ref (gA G 21), .ref (gA G 22), .ref (gA G 23), .ref (gA G 24)] : List Value).set 1 (.int v)) := by simp [wc4 h, up2_eq, upd]
theorem wu4_2 {G : GT} {lo : Nat → Int64} {σ : St} {p : Nat} {v : Int32} (h : kd p = 4) : wcell G lo (up2 σ p 2 v) p = .inr (4, ([.int (σ p 0), .int (σ p 1), .int (σ p 2), .ref (gA G 9), .ref (gA G 10), .ref (gA G 11), .ref (gA G 12), .ref (gA G 13), .ref (gA G 14), .ref (gA G 15), .ref (gA G 16), .int (σ p 11), .int (σ p 12), .ref (gA G 17), .ref (gA G 18), .ref (gA G 19), .int (σ p 16), .ref (gA G 20), .ref (gA G 21), .ref (gA G 22), .ref (gA G 23), .ref (gA G 24)] : List Value).set 2 (.int v)) := by simp [wc4 h, up2_eq, upd]
theorem wu4_11 {G : GT} {lo : Nat → Int64} {σ : St} {p : Nat} {v : Int32} (h : kd p = 4) : wcell G lo (up2 σ p 11 v) p = .inr (4, ([.int (σ p 0), .int (σ p 1), .int (σ p 2), .ref (gA G 9), .ref (gA G 10), .ref (gA G 11), .ref (gA G 12), .ref (gA G 13), .ref (gA G 14), .ref (gA G 15), .ref (gA G 16), .int (σ p 11), .int (σ p 12), .ref (gA G 17), .ref (gA G 18), .ref (gA G 19), .int (σ p 16), .ref (gA G 20), .ref (gA G 21), .ref (gA G 22), .ref (gA G 23), .ref (gA G 24)] : List Value).set 11 (.int v)) := by simp [wc4 h, up2_eq, upd]
theorem wu4_12 {G : GT} {lo : Nat → Int64} {σ : St} {p : Nat} {v : Int32} (h : kd p = 4) : wcell G lo (up2 σ p 12 v) p = .inr (4, ([.int (σ p 0), .int (σ p 1), .int (σ p 2), .ref (gA G 9), .ref (gA G 10), .ref (gA G 11), .ref (gA G 12), .ref (gA G 13), .ref (gA G 14), .ref (gA G 15), .ref (gA G 16), .int (σ p 11), .int (σ p 12), .ref (gA G 17), .ref (gA G 18), .ref (gA G 19), .int (σ p 16), .ref (gA G 20), .ref (gA G 21), .ref (gA G 22), .ref (gA G 23), .ref (gA G 24)] : List Value).set 12 (.int v)) := by simp [wc4 h, up2_eq, upd]
theorem wu4_16 {G : GT} {lo : Nat → Int64} {σ : St} {p : Nat} {v : Int32} (h : kd p = 4) : wcell G lo (up2 σ p 16 v) p = .inr (4, ([.int (σ p 0), .int (σ p 1), .int (σ p 2), .ref (gA G 9), .ref (gA G 10), .ref (gA G 11), .ref (gA G 12), .ref (gA G 13), .ref (gA G 14), .ref (gA G 15), .ref (gA G 16), .int (σ p 11), .int (σ p 12), .ref (gA G 17), .ref (gA G 18), .ref (gA G 19), .int (σ p 16), .ref (gA G 20), .ref (gA G 21), .ref (gA G 22), .ref (gA G 23), .ref (gA G 24)] : List Value).set 16 (.int v)) := by simp [wc4 h, up2_eq, upd]
set_option maxRecDepth 20000 in
theorem xt_158_1 : ∀ w ∈ (vx_atS RX3 158 "java/lang/IllegalArgumentException" ["java/lang/RuntimeException", "java/lang/Exception"]).filter goodWord, w ∈ TB := fun w h => List.mem_filter.mpr ⟨(show ∀ w ∈ (vx_atS RX3 158 "java/lang/IllegalArgumentException" ["java/lang/RuntimeException", "java/lang/Exception"]).filter goodWord, w ∈ lw_tbl by decide +kernel) w h, (List.mem_filter.mp h).2⟩
set_option maxRecDepth 20000 in
theorem xt_158_2 : ∀ w ∈ (vx_atS RX3 158 "java/lang/IllegalArgumentException" ["java/lang/RuntimeException", "java/lang/Exception"]).filter (fun w => !goodWord w), w ∈ nst := by decide +kernel
set_option maxRecDepth 20000 in
theorem xt_158_154 : ∀ w ∈ Cond.classLink RX3 154 "java/lang/IllegalArgumentException" :: Cond.initialized "java/lang/IllegalArgumentException" :: vx_atS RX3 158 "java/lang/IllegalArgumentException" ["java/lang/RuntimeException", "java/lang/Exception"], vx_ot w = true := by decide +kernel
set_option maxRecDepth 20000 in
theorem xt_64_1 : ∀ w ∈ (vx_atS RX3 64 "java/lang/UnsupportedOperationException" ["java/lang/RuntimeException", "java/lang/Exception"]).filter goodWord, w ∈ TB := fun w h => List.mem_filter.mpr ⟨(show ∀ w ∈ (vx_atS RX3 64 "java/lang/UnsupportedOperationException" ["java/lang/RuntimeException", "java/lang/Exception"]).filter goodWord, w ∈ lw_tbl by decide +kernel) w h, (List.mem_filter.mp h).2⟩
set_option maxRecDepth 20000 in
theorem xt_64_2 : ∀ w ∈ (vx_atS RX3 64 "java/lang/UnsupportedOperationException" ["java/lang/RuntimeException", "java/lang/Exception"]).filter (fun w => !goodWord w), w ∈ nst := by decide +kernel
set_option maxRecDepth 20000 in
theorem xt_64_60 : ∀ w ∈ Cond.classLink RX3 60 "java/lang/UnsupportedOperationException" :: Cond.initialized "java/lang/UnsupportedOperationException" :: vx_atS RX3 64 "java/lang/UnsupportedOperationException" ["java/lang/RuntimeException", "java/lang/Exception"], vx_ot w = true := by decide +kernel
set_option maxRecDepth 20000 in
theorem xt_91_1 : ∀ w ∈ (vx_atS RX3 91 "java/lang/IllegalStateException" ["java/lang/RuntimeException", "java/lang/Exception"]).filter goodWord, w ∈ TB := fun w h => List.mem_filter.mpr ⟨(show ∀ w ∈ (vx_atS RX3 91 "java/lang/IllegalStateException" ["java/lang/RuntimeException", "java/lang/Exception"]).filter goodWord, w ∈ lw_tbl by decide +kernel) w h, (List.mem_filter.mp h).2⟩
set_option maxRecDepth 20000 in
theorem xt_91_2 : ∀ w ∈ (vx_atS RX3 91 "java/lang/IllegalStateException" ["java/lang/RuntimeException", "java/lang/Exception"]).filter (fun w => !goodWord w), w ∈ nst := by decide +kernel
set_option maxRecDepth 20000 in
theorem xt_91_87 : ∀ w ∈ Cond.classLink RX3 87 "java/lang/IllegalStateException" :: Cond.initialized "java/lang/IllegalStateException" :: vx_atS RX3 91 "java/lang/IllegalStateException" ["java/lang/RuntimeException", "java/lang/Exception"], vx_ot w = true := by decide +kernel
theorem nar_b {v : Int32} (h : v = 0 ∨ v = 1) : narrow .boolean (.int v) = .int v := by
  rcases h with h | h <;> subst h <;> rfl
/-! a callee's outcome, and what goes on with it: n.. it writes; r.. it only reads; q.. it only reads, and may throw -/
def ni (m : Option (RV × St)) (k : Int32 → St → Option (RV × St)) : Option (RV × St) := match m with
  | some (.inl (some (.inl x)), σ) => k x σ
  | _ => none
def nv (m : Option (RV × St)) (k : St → Option (RV × St)) : Option (RV × St) := match m with
  | some (.inl none, σ) => k σ
  | _ => none
def ri {β : Type} (m : Option RV) (k : Int32 → Option β) : Option β := match m with
  | some (.inl (some (.inl x))) => k x
  | _ => none
def qi {β : Type} (m : Option RV) (h : String → Option β) (k : Int32 → Option β) : Option β := match m with
  | some (.inl (some (.inl x))) => k x
  | some (.inr E) => h E
  | _ => none
def qp {β : Type} (m : Option RV) (h : String → Option β) (k : Nat → Option β) : Option β := match m with
  | some (.inl (some (.inr x))) => k x
  | some (.inr E) => h E
  | _ => none
def qv {β : Type} (m : Option RV) (h : String → Option β) (k : Option β) : Option β := match m with
  | some (.inl none) => k
  | some (.inr E) => h E
  | _ => none
theorem ni_inv {m : Option (RV × St)} {k : Int32 → St → Option (RV × St)} {r : RV × St} (h : ni m k = some r) : ∃ x σ, m = some (.inl (some (.inl x)), σ) ∧ k x σ = some r := by
  unfold ni at h
  split at h
  · exact ⟨_, _, rfl, h⟩
  · cases h
theorem nv_inv {m : Option (RV × St)} {k : St → Option (RV × St)} {r : RV × St} (h : nv m k = some r) : ∃ σ, m = some (.inl none, σ) ∧ k σ = some r := by
  unfold nv at h
  split at h
  · exact ⟨_, rfl, h⟩
  · cases h
theorem ri_inv {β : Type} {m : Option RV} {k : Int32 → Option β} {r : β} (h : ri m k = some r) : ∃ x, m = some (.inl (some (.inl x))) ∧ k x = some r := by
  unfold ri at h
  split at h
  · exact ⟨_, rfl, h⟩
  · cases h
theorem qi_inv {β : Type} {m : Option RV} {f : String → Option β} {k : Int32 → Option β} {r : β} (h : qi m f k = some r) : (∃ x, m = some (.inl (some (.inl x))) ∧ k x = some r) ∨ ∃ E, m = some (.inr E) ∧ f E = some r := by
  unfold qi at h
  split at h
  · exact Or.inl ⟨_, rfl, h⟩
  · exact Or.inr ⟨_, rfl, h⟩
  · cases h
theorem qp_inv {β : Type} {m : Option RV} {f : String → Option β} {k : Nat → Option β} {r : β} (h : qp m f k = some r) : (∃ x, m = some (.inl (some (.inr x))) ∧ k x = some r) ∨ ∃ E, m = some (.inr E) ∧ f E = some r := by
  unfold qp at h
  split at h
  · exact Or.inl ⟨_, rfl, h⟩
  · exact Or.inr ⟨_, rfl, h⟩
  · cases h
theorem qv_inv {β : Type} {m : Option RV} {f : String → Option β} {k : Option β} {r : β} (h : qv m f k = some r) : (m = some (.inl none) ∧ k = some r) ∨ ∃ E, m = some (.inr E) ∧ f E = some r := by
  unfold qv at h
  split at h
  · exact Or.inl ⟨rfl, h⟩
  · exact Or.inr ⟨_, rfl, h⟩
  · cases h
