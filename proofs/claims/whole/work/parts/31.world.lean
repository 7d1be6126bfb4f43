/-! ===== the world that the constructors leave, in the order of the places ===== -/
def posn (p : Nat) : Nat := if p ≤ 6 then p else if p = 7 then 39 else if p = 8 then 74 else if p ≤ 24 then 66 + p else if p = 25 then 91 else if p < 58 then p - 19 else p - 18
theorem posn_inj : ∀ i, i < 92 → ∀ j, j < 92 → posn i = posn j → i = j := by decide +kernel
theorem posn_o {i : Nat} (h : i < 16) : posn (26 + 2 * i) = 2 * i + 7 ∧ posn (26 + 2 * i + 1) = 2 * i + 1 + 7 := by
  unfold posn
  simp [show ¬ 26 + 2 * i ≤ 6 by omega, show ¬ 26 + 2 * i = 7 by omega, show ¬ 26 + 2 * i = 8 by omega, show ¬ 26 + 2 * i ≤ 24 by omega, show ¬ 26 + 2 * i = 25 by omega, show 26 + 2 * i < 58 by omega, show ¬ 26 + 2 * i + 1 ≤ 6 by omega, show ¬ 26 + 2 * i + 1 = 7 by omega, show ¬ 26 + 2 * i + 1 = 8 by omega, show ¬ 26 + 2 * i + 1 ≤ 24 by omega, show ¬ 26 + 2 * i + 1 = 25 by omega, show 26 + 2 * i + 1 < 58 by omega]
  omega
theorem posn_v {i : Nat} (h : i < 16) : posn (58 + 2 * i) = 2 * i + 33 + 7 ∧ posn (58 + 2 * i + 1) = 2 * i + 34 + 7 := by
  unfold posn
  simp [show ¬ 58 + 2 * i ≤ 6 by omega, show ¬ 58 + 2 * i = 7 by omega, show ¬ 58 + 2 * i = 8 by omega, show ¬ 58 + 2 * i ≤ 24 by omega, show ¬ 58 + 2 * i = 25 by omega, show ¬ 58 + 2 * i < 58 by omega, show ¬ 58 + 2 * i + 1 ≤ 6 by omega, show ¬ 58 + 2 * i + 1 = 7 by omega, show ¬ 58 + 2 * i + 1 = 8 by omega, show ¬ 58 + 2 * i + 1 ≤ 24 by omega, show ¬ 58 + 2 * i + 1 = 25 by omega, show ¬ 58 + 2 * i + 1 < 58 by omega]
  omega
def adr (ws : va_W) (p : Nat) : Nat := ((ws[posn p]?).map Prod.fst).getD 0
theorem adr_e {ws : va_W} {p x : Nat} {e : va_E} (h : ws[posn p]? = some (x, e)) : adr ws p = x := by simp [adr, h]
def YY (G : GT) (z : Int32) (t tm h8 a25 : Nat) (A : Nat → Nat) : va_W := (t, vC tm) :: (tm, z0 (gC G 0) 16) :: (h8, .inr (4, [.int 0, .int z, .int 0, .ref (A 0), .ref (A 1), .ref (A 2), .ref (A 3), .ref (A 4), .ref (A 5), .ref (A 6), .ref (A 7), .int 0, .int 0, .ref (A 8), .ref (A 9), .ref (A 10), .int 0, .ref (A 11), .ref (A 12), .ref (A 13), .ref (A 14), .ref (A 15)])) :: ([(A 0, .inl (gC G 0, 16, .inl (fun _ => 0))), (A 1, .inl (gC G 0, 16, .inl (fun _ => 0))), (A 2, .inl (gC G 0, 16, .inl (fun _ => 0))), (A 3, .inl (gC G 0, 16, .inl (fun _ => 0))), (A 4, .inl (gC G 0, 16, .inl (fun _ => 0))), (A 5, .inl (gC G 0, 16, .inl (fun _ => 0))), (A 6, .inl (gC G 1, 16, .inl (fun _ => 0))), (A 7, .inl (gC G 0, 160, .inl (fun _ => 0))), (A 8, .inl (gC G 0, 10, .inl (fun _ => 0))), (A 9, .inl (gC G 0, 10, .inl (fun _ => 0))), (A 10, .inl (gC G 0, 10, .inl (fun _ => 0))), (A 11, .inl (gC G 1, 17, .inl (fun _ => 0))), (A 12, .inl (gC G 0, 10, .inl (fun _ => 0))), (A 13, .inl (gC G 0, 16, .inl (fun _ => 0))), (A 14, .inl (gC G 0, 16, .inl (fun _ => 0))), (A 15, .inl (gC G 1, 16, .inl (fun _ => 0)))] ++ [(a25, .inl (gC G 4, 1, .inr (.inl (fun _ => 0))))])
def W92 (G : GT) (z : Int32) (h0 d a1 a2 a3 a5 oA vA t tm h8 a25 : Nat) (fo fv : Nat → Option Nat) (Os Vs : va_W) (A : Nat → Nat) : va_W := (h0, .inr (3, [.int z, .ref d, .ref a5, .ref oA, .int 0, .ref vA, .int 0, .ref t])) :: (d, .inr (0, [.ref a1, .ref a2, .ref a3, .int 0])) :: (a1, z0 (gC G 0) 10) :: (a2, z0 (gC G 0) 10) :: (a3, z0 (gC G 0) 10) :: (a5, z0 (gC G 0) 10) :: (oA, qA (gC G 2) fo) :: (Os ++ (vA, qA (gC G 3) fv) :: (Vs ++ YY G z t tm h8 a25 A))
theorem s0_f {z : Int32} {p : Nat} (h0 : p ≠ 0) (h8 : p ≠ 8) : s0 z p = fun _ => 0 := funext fun k => s0_z (by omega)
theorem q_cell {c : ClassId} {f g : Nat → Option Nat} (h : ∀ j, j < 16 → f j = g j) : vp_cell c (16, .inr (.inr (.inr (.inr f)))) = vp_cell c (16, .inr (.inr (.inr (.inr g)))) := by
  rw [vp_cell_q, vp_cell_q]
  unfold arrV
  congr 2
  funext j
  show va_rf (f j.1) = va_rf (g j.1)
  rw [h j.1 j.2]
set_option maxRecDepth 100000 in
theorem w92 {G : GT} {z : Int32} {h0 d a1 a2 a3 a5 oA vA t tm h8 a25 : Nat} {fo fv : Nat → Option Nat} {Os Vs : va_W} {A : Nat → Nat} (hO : Mk oC (z0 (gC G 0) 10) 16 fo Os) (hV : Mk vC (z0 (gC G 0) 16) 16 fv Vs) {ws : va_W} (hw : ws = W92 G z h0 d a1 a2 a3 a5 oA vA t tm h8 a25 fo fv Os Vs A) {H : Heap} (hP : va_P (gD G) vwCl ws H) (hD : va_D (gF G) ws) {F : Nat → Prop} (hF : gF G = F) :
    va_P (gD G) vwCl (wld (gD G, gC G, adr ws, F) (fun _ => 0) (s0 z)) H ∧ ((∀ i j : Nat, i < 92 → j < 92 → adr ws i = adr ws j → i = j) ∧ ∀ i : Nat, i < 92 → F (adr ws i)) ∧ adr ws 0 = h0 ∧ adr ws 8 = h8 ∧ adr ws 25 = a25 := by
  have lo : ∀ k, ws[k + 7]? = (Os ++ (vA, qA (gC G 3) fv) :: (Vs ++ YY G z t tm h8 a25 A))[k]? := fun k => by rw [hw]; rfl
  have e39 : ws[39]? = some (vA, qA (gC G 3) fv) := by
    rw [show 39 = 32 + 7 from rfl, lo, List.getElem?_append_right (by rw [hO.1]; omega), hO.1]; rfl
  have ly : ∀ k, ws[k + 72]? = (YY G z t tm h8 a25 A)[k]? := fun k => by
    rw [show k + 72 = (k + 65) + 7 by omega, lo, List.getElem?_append_right (by rw [hO.1]; omega), hO.1, show k + 65 - 2 * 16 = (k + 32) + 1 by omega, List.getElem?_cons_succ, List.getElem?_append_right (by rw [hV.1]; omega), hV.1, show k + 32 - 2 * 16 = k by omega]
  have lso : ∀ i, i < 16 → ∃ a w, fo i = some a ∧ ws[2 * i + 7]? = some (a, oC w) ∧ ws[2 * i + 1 + 7]? = some (w, z0 (gC G 0) 10) := fun i hi => by
    obtain ⟨a, w, q1, q2, q3⟩ := hO.2 i hi
    have := hO.1
    exact ⟨a, w, q1, by rw [lo, List.getElem?_append_left (by omega)]; exact q2, by rw [lo, List.getElem?_append_left (by omega)]; exact q3⟩
  have lsv : ∀ i, i < 16 → ∃ a w, fv i = some a ∧ ws[2 * i + 33 + 7]? = some (a, vC w) ∧ ws[2 * i + 34 + 7]? = some (w, z0 (gC G 0) 16) := fun i hi => by
    obtain ⟨a, w, q1, q2, q3⟩ := hV.2 i hi
    have h1 := hO.1
    have h2 := hV.1
    refine ⟨a, w, q1, ?_, ?_⟩
    · rw [lo, List.getElem?_append_right (by omega), h1, show 2 * i + 33 - 2 * 16 = (2 * i) + 1 by omega, List.getElem?_cons_succ, List.getElem?_append_left (by omega)]; exact q2
    · rw [lo, List.getElem?_append_right (by omega), h1, show 2 * i + 34 - 2 * 16 = (2 * i + 1) + 1 by omega, List.getElem?_cons_succ, List.getElem?_append_left (by omega)]; exact q3
  have l0 : ws[posn 0]? = some (h0, .inr (3, [.int z, .ref d, .ref a5, .ref oA, .int 0, .ref vA, .int 0, .ref t])) := by rw [hw]; rfl
  have g0 : adr ws 0 = h0 := adr_e l0
  have l1 : ws[posn 1]? = some (d, .inr (0, [.ref a1, .ref a2, .ref a3, .int 0])) := by rw [hw]; rfl
  have g1 : adr ws 1 = d := adr_e l1
  have l2 : ws[posn 2]? = some (a1, z0 (gC G 0) 10) := by rw [hw]; rfl
  have g2 : adr ws 2 = a1 := adr_e l2
  have l3 : ws[posn 3]? = some (a2, z0 (gC G 0) 10) := by rw [hw]; rfl
  have g3 : adr ws 3 = a2 := adr_e l3
  have l4 : ws[posn 4]? = some (a3, z0 (gC G 0) 10) := by rw [hw]; rfl
  have g4 : adr ws 4 = a3 := adr_e l4
  have l5 : ws[posn 5]? = some (a5, z0 (gC G 0) 10) := by rw [hw]; rfl
  have g5 : adr ws 5 = a5 := adr_e l5
  have l6 : ws[posn 6]? = some (oA, qA (gC G 2) fo) := by rw [hw]; rfl
  have g6 : adr ws 6 = oA := adr_e l6
  have l7 : ws[posn 7]? = some (vA, qA (gC G 3) fv) := by exact e39
  have g7 : adr ws 7 = vA := adr_e l7
  have l8 : ws[posn 8]? = some (h8, .inr (4, [.int 0, .int z, .int 0, .ref (A 0), .ref (A 1), .ref (A 2), .ref (A 3), .ref (A 4), .ref (A 5), .ref (A 6), .ref (A 7), .int 0, .int 0, .ref (A 8), .ref (A 9), .ref (A 10), .int 0, .ref (A 11), .ref (A 12), .ref (A 13), .ref (A 14), .ref (A 15)])) := by exact ly 2
  have g8 : adr ws 8 = h8 := adr_e l8
  have l9 : ws[posn 9]? = some (A 0, .inl (gC G 0, 16, .inl (fun _ => 0))) := by exact ly 3
  have g9 : adr ws 9 = A 0 := adr_e l9
  have l10 : ws[posn 10]? = some (A 1, .inl (gC G 0, 16, .inl (fun _ => 0))) := by exact ly 4
  have g10 : adr ws 10 = A 1 := adr_e l10
  have l11 : ws[posn 11]? = some (A 2, .inl (gC G 0, 16, .inl (fun _ => 0))) := by exact ly 5
  have g11 : adr ws 11 = A 2 := adr_e l11
  have l12 : ws[posn 12]? = some (A 3, .inl (gC G 0, 16, .inl (fun _ => 0))) := by exact ly 6
  have g12 : adr ws 12 = A 3 := adr_e l12
  have l13 : ws[posn 13]? = some (A 4, .inl (gC G 0, 16, .inl (fun _ => 0))) := by exact ly 7
  have g13 : adr ws 13 = A 4 := adr_e l13
  have l14 : ws[posn 14]? = some (A 5, .inl (gC G 0, 16, .inl (fun _ => 0))) := by exact ly 8
  have g14 : adr ws 14 = A 5 := adr_e l14
  have l15 : ws[posn 15]? = some (A 6, .inl (gC G 1, 16, .inl (fun _ => 0))) := by exact ly 9
  have g15 : adr ws 15 = A 6 := adr_e l15
  have l16 : ws[posn 16]? = some (A 7, .inl (gC G 0, 160, .inl (fun _ => 0))) := by exact ly 10
  have g16 : adr ws 16 = A 7 := adr_e l16
  have l17 : ws[posn 17]? = some (A 8, .inl (gC G 0, 10, .inl (fun _ => 0))) := by exact ly 11
  have g17 : adr ws 17 = A 8 := adr_e l17
  have l18 : ws[posn 18]? = some (A 9, .inl (gC G 0, 10, .inl (fun _ => 0))) := by exact ly 12
  have g18 : adr ws 18 = A 9 := adr_e l18
  have l19 : ws[posn 19]? = some (A 10, .inl (gC G 0, 10, .inl (fun _ => 0))) := by exact ly 13
  have g19 : adr ws 19 = A 10 := adr_e l19
  have l20 : ws[posn 20]? = some (A 11, .inl (gC G 1, 17, .inl (fun _ => 0))) := by exact ly 14
  have g20 : adr ws 20 = A 11 := adr_e l20
  have l21 : ws[posn 21]? = some (A 12, .inl (gC G 0, 10, .inl (fun _ => 0))) := by exact ly 15
  have g21 : adr ws 21 = A 12 := adr_e l21
  have l22 : ws[posn 22]? = some (A 13, .inl (gC G 0, 16, .inl (fun _ => 0))) := by exact ly 16
  have g22 : adr ws 22 = A 13 := adr_e l22
  have l23 : ws[posn 23]? = some (A 14, .inl (gC G 0, 16, .inl (fun _ => 0))) := by exact ly 17
  have g23 : adr ws 23 = A 14 := adr_e l23
  have l24 : ws[posn 24]? = some (A 15, .inl (gC G 1, 16, .inl (fun _ => 0))) := by exact ly 18
  have g24 : adr ws 24 = A 15 := adr_e l24
  have l25 : ws[posn 25]? = some (a25, .inl (gC G 4, 1, .inr (.inl (fun _ => 0)))) := by exact ly 19
  have g25 : adr ws 25 = a25 := adr_e l25
  have l90 : ws[posn 90]? = some (t, vC tm) := by exact ly 0
  have g90 : adr ws 90 = t := adr_e l90
  have l91 : ws[posn 91]? = some (tm, z0 (gC G 0) 16) := by exact ly 1
  have g91 : adr ws 91 = tm := adr_e l91
  have lk : ∀ p, p < 92 → ∃ x e, ws[posn p]? = some (x, e) := fun p hp => by
    have h : p < 26 ∨ (∃ i, i < 16 ∧ (p = 26 + 2 * i ∨ p = 26 + 2 * i + 1)) ∨ (∃ i, i < 16 ∧ (p = 58 + 2 * i ∨ p = 58 + 2 * i + 1)) ∨ p = 90 ∨ p = 91 := by
      rcases Nat.lt_or_ge p 26 with q | q
      · exact Or.inl q
      · rcases Nat.lt_or_ge p 58 with q2 | q2
        · exact Or.inr (Or.inl ⟨(p - 26) / 2, by omega, by omega⟩)
        · rcases Nat.lt_or_ge p 90 with q3 | q3
          · exact Or.inr (Or.inr (Or.inl ⟨(p - 58) / 2, by omega, by omega⟩))
          · exact Or.inr (Or.inr (Or.inr (by omega)))
    rcases h with h | ⟨i, hi, q | q⟩ | ⟨i, hi, q | q⟩ | q | q
    · match p, h with
      | 0, _ => exact ⟨_, _, l0⟩
      | 1, _ => exact ⟨_, _, l1⟩
      | 2, _ => exact ⟨_, _, l2⟩
      | 3, _ => exact ⟨_, _, l3⟩
      | 4, _ => exact ⟨_, _, l4⟩
      | 5, _ => exact ⟨_, _, l5⟩
      | 6, _ => exact ⟨_, _, l6⟩
      | 7, _ => exact ⟨_, _, l7⟩
      | 8, _ => exact ⟨_, _, l8⟩
      | 9, _ => exact ⟨_, _, l9⟩
      | 10, _ => exact ⟨_, _, l10⟩
      | 11, _ => exact ⟨_, _, l11⟩
      | 12, _ => exact ⟨_, _, l12⟩
      | 13, _ => exact ⟨_, _, l13⟩
      | 14, _ => exact ⟨_, _, l14⟩
      | 15, _ => exact ⟨_, _, l15⟩
      | 16, _ => exact ⟨_, _, l16⟩
      | 17, _ => exact ⟨_, _, l17⟩
      | 18, _ => exact ⟨_, _, l18⟩
      | 19, _ => exact ⟨_, _, l19⟩
      | 20, _ => exact ⟨_, _, l20⟩
      | 21, _ => exact ⟨_, _, l21⟩
      | 22, _ => exact ⟨_, _, l22⟩
      | 23, _ => exact ⟨_, _, l23⟩
      | 24, _ => exact ⟨_, _, l24⟩
      | 25, _ => exact ⟨_, _, l25⟩
      | _ + 26, h => exact absurd h (by omega)
    · obtain ⟨a, w, _, q2, q3⟩ := lso i hi
      exact ⟨_, _, by rw [q, (posn_o hi).1]; exact q2⟩
    · obtain ⟨a, w, _, q2, q3⟩ := lso i hi
      exact ⟨_, _, by rw [q, (posn_o hi).2]; exact q3⟩
    · obtain ⟨a, w, _, q2, q3⟩ := lsv i hi
      exact ⟨_, _, by rw [q, (posn_v hi).1]; exact q2⟩
    · obtain ⟨a, w, _, q2, q3⟩ := lsv i hi
      exact ⟨_, _, by rw [q, (posn_v hi).2]; exact q3⟩
    · subst q; exact ⟨_, _, l90⟩
    · subst q; exact ⟨_, _, l91⟩
  refine ⟨fun k q hk => ?_, ⟨fun i j hi hj he => ?_, fun i hi => ?_⟩, g0, g8, g25⟩
  · rcases Nat.lt_or_ge k 92 with hk92 | hk92
    · rw [wld_at hk92] at hk
      cases hk
      have at_p : ∀ (p x : Nat) (e : va_E), ws[posn p]? = some (x, e) → wcell (gD G, gC G, adr ws, F) (fun _ => 0) (s0 z) p = e → va_at (gD G) vwCl (gA (gD G, gC G, adr ws, F) p, wcell (gD G, gC G, adr ws, F) (fun _ => 0) (s0 z) p) H := by
        intro p x e h1 h2
        rw [h2, show gA (gD G, gC G, adr ws, F) p = x from adr_e h1]
        exact hP _ _ h1
      have h : k < 26 ∨ (∃ i, i < 16 ∧ (k = 26 + 2 * i ∨ k = 26 + 2 * i + 1)) ∨ (∃ i, i < 16 ∧ (k = 58 + 2 * i ∨ k = 58 + 2 * i + 1)) ∨ k = 90 ∨ k = 91 := by
        rcases Nat.lt_or_ge k 26 with q | q
        · exact Or.inl q
        · rcases Nat.lt_or_ge k 58 with q2 | q2
          · exact Or.inr (Or.inl ⟨(k - 26) / 2, by omega, by omega⟩)
          · rcases Nat.lt_or_ge k 90 with q3 | q3
            · exact Or.inr (Or.inr (Or.inl ⟨(k - 58) / 2, by omega, by omega⟩))
            · exact Or.inr (Or.inr (Or.inr (by omega)))
      rcases h with h | ⟨i, hi, q | q⟩ | ⟨i, hi, q | q⟩ | q | q
      · match k, h with
        | 0, _ => exact at_p 0 _ _ l0 (by rw [wc3 kdc_0]; show Sum.inr (3, [Value.int (s0 z 0 0), .ref (adr ws 1), .ref (adr ws 5), .ref (adr ws 6), .int (s0 z 0 4), .ref (adr ws 7), .int (s0 z 0 6), .ref (adr ws 90)]) = _; rw [g1, g5, g6, g7, g90]; rfl)
        | 1, _ => exact at_p 1 _ _ l1 (by rw [wc0 kdc_1]; show Sum.inr (0, [Value.ref (adr ws 2), .ref (adr ws 3), .ref (adr ws 4), .int (s0 z 1 3)]) = _; rw [g2, g3, g4]; rfl)
        | 2, _ => exact at_p 2 _ _ l2 (by rw [wc5 kdc_2, lnc_2, s0_f (by omega) (by omega)]; rfl)
        | 3, _ => exact at_p 3 _ _ l3 (by rw [wc5 kdc_3, lnc_3, s0_f (by omega) (by omega)]; rfl)
        | 4, _ => exact at_p 4 _ _ l4 (by rw [wc5 kdc_4, lnc_4, s0_f (by omega) (by omega)]; rfl)
        | 5, _ => exact at_p 5 _ _ l5 (by rw [wc5 kdc_5, lnc_5, s0_f (by omega) (by omega)]; rfl)
        | 6, _ => 
          show va_at (gD G) vwCl (adr ws 6, wcell (gD G, gC G, adr ws, F) (fun _ => 0) (s0 z) 6) H
          rw [wc7 kdc_6, g6]
          have := hP _ _ l6
          show H[_]? = some (vp_cell _ _)
          refine Eq.trans this ?_
          congr 1
          refine q_cell fun j hj => ?_
          obtain ⟨a, w, q1, q2, _⟩ := lso j hj
          have ga : adr ws (26 + 2 * j) = a := adr_e (by rw [(posn_o hj).1]; exact q2)
          show fo j = some (adr ws (26 + 2 * j))
          rw [ga]; exact q1
        | 7, _ => 
          show va_at (gD G) vwCl (adr ws 7, wcell (gD G, gC G, adr ws, F) (fun _ => 0) (s0 z) 7) H
          rw [wc8 kdc_7, g7]
          have := hP _ _ l7
          show H[_]? = some (vp_cell _ _)
          refine Eq.trans this ?_
          congr 1
          refine q_cell fun j hj => ?_
          obtain ⟨a, w, q1, q2, _⟩ := lsv j hj
          have ga : adr ws (58 + 2 * j) = a := adr_e (by rw [(posn_v hj).1]; exact q2)
          show fv j = some (adr ws (58 + 2 * j))
          rw [ga]; exact q1
        | 8, _ => exact at_p 8 _ _ l8 (by rw [wc4 kdc_8]; show Sum.inr (4, [Value.int (s0 z 8 0), .int (s0 z 8 1), .int (s0 z 8 2), .ref (adr ws 9), .ref (adr ws 10), .ref (adr ws 11), .ref (adr ws 12), .ref (adr ws 13), .ref (adr ws 14), .ref (adr ws 15), .ref (adr ws 16), .int (s0 z 8 11), .int (s0 z 8 12), .ref (adr ws 17), .ref (adr ws 18), .ref (adr ws 19), .int (s0 z 8 16), .ref (adr ws 20), .ref (adr ws 21), .ref (adr ws 22), .ref (adr ws 23), .ref (adr ws 24)]) = _; rw [g9, g10, g11, g12, g13, g14, g15, g16, g17, g18, g19, g20, g21, g22, g23, g24]; rfl)
        | 9, _ => exact at_p 9 _ _ l9 (by rw [wc5 kdc_9, lnc_9, s0_f (by omega) (by omega)])
        | 10, _ => exact at_p 10 _ _ l10 (by rw [wc5 kdc_10, lnc_10, s0_f (by omega) (by omega)])
        | 11, _ => exact at_p 11 _ _ l11 (by rw [wc5 kdc_11, lnc_11, s0_f (by omega) (by omega)])
        | 12, _ => exact at_p 12 _ _ l12 (by rw [wc5 kdc_12, lnc_12, s0_f (by omega) (by omega)])
        | 13, _ => exact at_p 13 _ _ l13 (by rw [wc5 kdc_13, lnc_13, s0_f (by omega) (by omega)])
        | 14, _ => exact at_p 14 _ _ l14 (by rw [wc5 kdc_14, lnc_14, s0_f (by omega) (by omega)])
        | 15, _ => exact at_p 15 _ _ l15 (by rw [wc6 kdc_15, lnc_15, s0_f (by omega) (by omega)])
        | 16, _ => exact at_p 16 _ _ l16 (by rw [wc5 kdc_16, lnc_16, s0_f (by omega) (by omega)])
        | 17, _ => exact at_p 17 _ _ l17 (by rw [wc5 kdc_17, lnc_17, s0_f (by omega) (by omega)])
        | 18, _ => exact at_p 18 _ _ l18 (by rw [wc5 kdc_18, lnc_18, s0_f (by omega) (by omega)])
        | 19, _ => exact at_p 19 _ _ l19 (by rw [wc5 kdc_19, lnc_19, s0_f (by omega) (by omega)])
        | 20, _ => exact at_p 20 _ _ l20 (by rw [wc6 kdc_20, lnc_20, s0_f (by omega) (by omega)])
        | 21, _ => exact at_p 21 _ _ l21 (by rw [wc5 kdc_21, lnc_21, s0_f (by omega) (by omega)])
        | 22, _ => exact at_p 22 _ _ l22 (by rw [wc5 kdc_22, lnc_22, s0_f (by omega) (by omega)])
        | 23, _ => exact at_p 23 _ _ l23 (by rw [wc5 kdc_23, lnc_23, s0_f (by omega) (by omega)])
        | 24, _ => exact at_p 24 _ _ l24 (by rw [wc6 kdc_24, lnc_24, s0_f (by omega) (by omega)])
        | 25, _ => exact at_p 25 _ _ l25 (wc9 kdc_25)
        | _ + 26, h => exact absurd h (by omega)
      · obtain ⟨a, w, _, q2, q3⟩ := lso i hi
        subst q
        have gw : gA (gD G, gC G, adr ws, F) (26 + 2 * i + 1) = w := adr_e (by rw [(posn_o hi).2]; exact q3)
        refine at_p _ _ _ (by rw [(posn_o hi).1]; exact q2) ?_
        rw [wc1 (kd_o hi)]
        simp only [s0_f (z := z) (show 26 + 2 * i ≠ 0 by omega) (show 26 + 2 * i ≠ 8 by omega), gw]; rfl
      · obtain ⟨a, w, _, q2, q3⟩ := lso i hi
        subst q
        refine at_p _ _ _ (by rw [(posn_o hi).2]; exact q3) ?_
        rw [wc5 (kd_ordA _ (kd_o hi)).1, (kd_ordA _ (kd_o hi)).2, s0_f (by omega) (by omega)]; rfl
      · obtain ⟨a, w, _, q2, q3⟩ := lsv i hi
        subst q
        have gw : gA (gD G, gC G, adr ws, F) (58 + 2 * i + 1) = w := adr_e (by rw [(posn_v hi).2]; exact q3)
        refine at_p _ _ _ (by rw [(posn_v hi).1]; exact q2) ?_
        rw [wc2 (kd_w hi)]
        simp only [s0_f (z := z) (show 58 + 2 * i ≠ 0 by omega) (show 58 + 2 * i ≠ 8 by omega), gw]; rfl
      · obtain ⟨a, w, _, q2, q3⟩ := lsv i hi
        subst q
        refine at_p _ _ _ (by rw [(posn_v hi).2]; exact q3) ?_
        rw [wc5 (kd_wavA _ (kd_w hi)).1, (kd_wavA _ (kd_w hi)).2, s0_f (by omega) (by omega)]; rfl
      · subst q
        refine at_p _ _ _ l90 ?_
        rw [wc2 kdc_90]
        simp only [s0_f (z := z) (show (90 : Nat) ≠ 0 by omega) (show (90 : Nat) ≠ 8 by omega), show gA (gD G, gC G, adr ws, F) (90 + 1) = tm from g91]; rfl
      · subst q
        refine at_p _ _ _ l91 ?_
        rw [wc5 kdc_91, lnc_91, s0_f (by omega) (by omega)]; rfl
    · rw [wld_none hk92] at hk; cases hk
  · obtain ⟨x, e, h1⟩ := lk i hi
    obtain ⟨y, e', h2⟩ := lk j hj
    have hxy : x = y := by rw [← adr_e h1, ← adr_e h2]; exact he
    exact posn_inj i hi j hj (hD.1 _ _ _ _ h1 h2 hxy)
  · obtain ⟨x, e, h1⟩ := lk i hi
    rw [adr_e h1, ← hF]
    exact hD.2 _ _ h1
