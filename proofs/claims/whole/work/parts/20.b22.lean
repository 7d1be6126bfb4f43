/-! all calls; the beginning -/
theorem PSok : PSall Inv := ⟨PSorder, PSline, PScarrier, PShour, PSstock, PSplan, PSwave, PStold, PSmember, PSreplenish, PSlacks, PSrelease, PSdone, PSchange, PSjoin, PScutoff, PSlate, PScount⟩
theorem Inv.mon : ∀ n σ, Inv n σ → Inv (n + 4) σ := by
  rintro n σ ⟨N, M, K, L, w, r, c⟩
  exact ⟨N, M, K, L, w, r, c.f rfl rfl⟩
/-- all zeros, but the capacity -/
def s0 (z : Int32) : St := fun p k => if (p = 0 ∧ k = 0) ∨ (p = 8 ∧ k = 1) then z else 0
theorem s0_z {z : Int32} {p k : Nat} (h : ¬ ((p = 0 ∧ k = 0) ∨ (p = 8 ∧ k = 1))) : s0 z p k = 0 := if_neg h
theorem lcn_0 {u : Nat → Int32} (h : ∀ g, u g = 0) : lcn u = 0 := by
  unfold lcn
  simp [h]
theorem Inv.beg {z : Int32} (h : ∃ c, c ≤ 65536 ∧ z = nI c) (n : Nat) : Inv n (s0 z) := by
  obtain ⟨c, hc, rfl⟩ := h
  refine ⟨0, 0, 0, fun _ => [], ⟨⟨rfl, by omega⟩, ⟨rfl, by omega⟩, ⟨rfl, by omega⟩, ⟨c, hc, rfl⟩, fun i hi => ?_, fun g hg => ⟨0, by omega, s0_z (by omega)⟩, fun j hj => ?_⟩, ⟨⟨⟨rfl, rfl, rfl⟩, fun i hi => ?_, fun k hk => ?_, fun j hj => ?_⟩, rfl, fun i hi => ?_⟩, ⟨0, ⟨rfl, by omega⟩, fun j hj => ⟨List.Pairwise.nil, fun i hi => by simp at hi⟩⟩⟩
  · have hl : lcn (s0 (nI c) (26 + 2 * i + 1)) = 0 := lcn_0 fun g => s0_z (by omega)
    unfold OW
    rw [hl]
    exact ⟨⟨0, by omega, s0_z (by omega)⟩, ⟨0, by omega, s0_z (by omega)⟩, fun g hg => ⟨0, by omega, s0_z (by omega)⟩, ⟨s0_z (by omega), by omega⟩, Or.inr ⟨0, by omega, s0_z (by omega)⟩, fun _ => s0_z (by omega)⟩
  · refine ⟨⟨s0_z (by omega), by simp, fun k x hk => by simp at hk, fun x hx => by simp at hx⟩, List.nodup_nil, fun i => ?_, fun i hi => by simp at hi⟩
    constructor
    · intro q; simp at q
    · rintro ⟨q, _⟩; omega
  · exact ⟨(s0_z (by omega)).trans (s0_z (by omega)).symm, (s0_z (by omega)).trans (s0_z (by omega)).symm, (s0_z (by omega)).trans (s0_z (by omega)).symm, (s0_z (by omega)).trans (s0_z (by omega)).symm, (s0_z (by omega)).trans (s0_z (by omega)).symm, fun g hg => (s0_z (by omega)).trans (s0_z (by omega)).symm⟩
  · exact ⟨(s0_z (by omega)).trans (s0_z (by omega)).symm, (s0_z (by omega)).trans (s0_z (by omega)).symm, (s0_z (by omega)).trans (s0_z (by omega)).symm, (s0_z (by omega)).trans (s0_z (by omega)).symm⟩
  · exact (s0_z (by omega)).trans (s0_z (by omega)).symm
  · exact (s0_z (by omega)).trans (s0_z (by omega)).symm
