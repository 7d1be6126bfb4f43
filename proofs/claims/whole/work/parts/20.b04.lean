/-! a wave's members, by the order in which they came -/
def SL (pl cm : Nat → Int32) (N : Nat) (w : Int32) (l : List Nat) : Prop := (∀ i, i ∈ l ↔ i < N ∧ pl i = w) ∧ l.Pairwise (fun a b => cm a < cm b)
section
variable {pl cm : Nat → Int32} {N : Nat} {w : Int32} {l : List Nat}
theorem SL.nd (h : SL pl cm N w l) : l.Nodup := by
  refine List.Pairwise.imp ?_ h.2
  intro a b hab e
  subst e
  grind
theorem Fw_nd (pl : Nat → Int32) (w : Int32) (k d : Nat) : (Fw pl w k d).Nodup := List.Nodup.sublist List.filter_sublist (List.nodup_range')
theorem Fw_mem {i : Nat} : i ∈ Fw pl w 0 N ↔ i < N ∧ pl i = w := by
  simp only [Fw, List.mem_filter, List.mem_range'_1, decide_eq_true_eq, Nat.zero_le, true_and, Nat.zero_add]
theorem SL.perm (h : SL pl cm N w l) : (Fw pl w 0 N).Perm l :=
  (List.perm_ext_iff_of_nodup (Fw_nd _ _ _ _) h.nd).mpr fun i => Fw_mem.trans (h.1 i).symm
theorem SL.permB (h : SL pl cm N w l) {pre r : List Nat} {x : Nat} (e : l = pre ++ x :: r) : (Fb pl cm x 0 N).Perm pre := by
  have hx := (h.1 x).mp (by rw [e]; simp)
  have hp := h.2
  rw [e] at hp
  obtain ⟨p1, p2, p3⟩ := List.pairwise_append.mp hp
  obtain ⟨p4, p5⟩ := List.pairwise_cons.mp p2
  have hnd := h.nd
  rw [e] at hnd
  refine (List.perm_ext_iff_of_nodup (List.Nodup.sublist List.filter_sublist (List.nodup_range')) (List.nodup_append.mp hnd).1).mpr fun i => ?_
  simp only [List.mem_filter, List.mem_range'_1, decide_eq_true_eq]
  constructor
  · rintro ⟨⟨_, h1⟩, h2, h3⟩
    have : i ∈ l := (h.1 i).mpr ⟨by omega, h2.trans hx.2⟩
    rw [e] at this
    rcases List.mem_append.mp this with q | q
    · exact q
    · rcases List.mem_cons.mp q with q | q
      · subst q; grind
      · have := p4 i q; grind
  · intro hi
    have h1 := (h.1 i).mp (by rw [e]; simp [hi])
    exact ⟨by omega, h1.2.trans hx.2.symm, p3 i hi x (by simp)⟩
theorem gsv_perm {α : St} {o : Nat} {l1 l2 : List Nat} (h : l1.Perm l2) (m : Int32) : gsv α o l1 m = gsv α o l2 m := by
  refine List.Perm.foldl_eq' h ?_ m
  intro x _ y _ z
  (repeat' split) <;> grind
theorem fse_perm {α : St} {l1 l2 : List Nat} (h : l1.Perm l2) (m : Int32) : fse α l1 m = fse α l2 m := by
  refine List.Perm.foldl_eq' h ?_ m
  intro x _ y _ z
  grind
theorem fdu_perm {α : St} {l1 l2 : List Nat} (h : l1.Perm l2) (m : Int32) : fdu α l1 m = fdu α l2 m := by
  refine List.Perm.foldl_eq' h ?_ m
  intro x _ y _ z
  (repeat' split) <;> grind
theorem ffi_perm {α : St} {l1 l2 : List Nat} (h : l1.Perm l2) (m : Int32) : ffi α l1 m = ffi α l2 m := by
  refine List.Perm.foldl_eq' h ?_ m
  intro x _ y _ z
  (repeat' split) <;> grind
theorem fwa_perm {α : St} {g : Nat} {l1 l2 : List Nat} (h : l1.Perm l2) (m : Int32) : fwa α g l1 m = fwa α g l2 m := by
  refine List.Perm.foldl_eq' h ?_ m
  intro x _ y _ z
  (repeat' split) <;> grind
theorem fsz_len (l : List Nat) : ∀ k, fsz l (nI k) = nI (k + l.length) := by
  induction l with
  | nil => intro k; rfl
  | cons x r ih => intro k; show fsz r (nI k + 1) = _; rw [pz_s, ih]; simp only [List.length_cons]; congr 1; omega
theorem fsz_0 (l : List Nat) : fsz l 0 = nI l.length := by
  have := fsz_len l 0
  rw [Nat.zero_add] at this; exact this
theorem SL.so {α : St} (h : SL pl cm N w l) : (Fw pl w 0 N).foldl (fun s o => s + gsv α o (Fb pl cm o 0 N) 0) 0 = so α [] l 0 := by
  rw [List.Perm.foldl_eq' h.perm (by intro x _ y _ z; grind) 0]
  have : ∀ suf pre s, l = pre ++ suf → suf.foldl (fun s o => s + gsv α o (Fb pl cm o 0 N) 0) s = Jvm.Pilot.CWavePlansLaw_law_r2148_20f0fd.so α pre suf s := by
    intro suf
    induction suf with
    | nil => intro pre s _; rfl
    | cons x r ih =>
      intro pre s e
      rw [List.foldl_cons, ih (pre ++ [x]) _ (by rw [e]; simp), gsv_perm (h.permB e)]
      rfl
  exact this l [] 0 rfl
theorem SL.bef (h : SL pl cm N w l) {pre r : List Nat} {x : Nat} (e : l = pre ++ x :: r) : fsz ((Fw pl w 0 N).filter (fun y => decide (cm y < cm x))) 0 = nI pre.length := by
  rw [fsz_0]
  have hp := h.2
  rw [e] at hp
  obtain ⟨p1, p2, p3⟩ := List.pairwise_append.mp hp
  obtain ⟨p4, p5⟩ := List.pairwise_cons.mp p2
  have h1 := (h.perm.filter (fun y => decide (cm y < cm x))).length_eq
  rw [h1, e, List.filter_append, List.filter_cons]
  have e1 : List.filter (fun y => decide (cm y < cm x)) pre = pre := List.filter_eq_self.mpr fun a ha => decide_eq_true (p3 a ha x (by simp))
  have e2 : List.filter (fun y => decide (cm y < cm x)) r = [] := List.filter_eq_nil_iff.mpr fun a ha => by
    have := p4 a ha
    simp only [decide_eq_true_eq]; grind
  rw [e1, e2, if_neg (by simp only [decide_eq_true_eq]; grind)]
  simp
theorem SL.find (h : SL pl cm N w l) (hl : l.length ≤ 16) {i : Nat} (hi : i < 2147483648) : ((Fw pl w 0 N).find? (fun o => decide (fsz ((Fw pl w 0 N).filter (fun x => decide (cm x < cm o))) 0 = nI i))) = l[i]? := by
  have key : ∀ o, o ∈ l → (fsz ((Fw pl w 0 N).filter (fun x => decide (cm x < cm o))) 0 = nI i ↔ l[i]? = some o) := by
    intro o ho
    obtain ⟨pre, r, e⟩ := List.append_of_mem ho
    have hlen : l.length = pre.length + (r.length + 1) := by rw [e]; simp
    rw [h.bef e, pz_eq (by omega) hi]
    constructor
    · intro q; subst q; rw [e]; simp
    · intro q
      have hn := h.nd
      have h1 : l[pre.length]? = some o := by rw [e]; simp
      exact (List.getElem?_inj (i := pre.length) (by omega) hn).mp (h1.trans q.symm)
  cases hc : l[i]? with
  | none =>
    rw [List.find?_eq_none]
    intro x hx
    have hm := h.perm.mem_iff.mp hx
    simp only [decide_eq_true_eq, key x hm, hc]
    exact fun q => nomatch q
  | some o =>
    have ho : o ∈ l := List.mem_iff_getElem?.mpr ⟨i, hc⟩
    cases hf : (Fw pl w 0 N).find? (fun o => decide (fsz ((Fw pl w 0 N).filter (fun x => decide (cm x < cm o))) 0 = nI i)) with
    | none =>
      have := List.find?_eq_none.mp hf o (h.perm.mem_iff.mpr ho)
      simp only [decide_eq_true_eq, key o ho, hc] at this
      exact absurd trivial this
    | some o' =>
      have h1 := List.find?_some hf
      have h2 := h.perm.mem_iff.mp (List.mem_of_find?_eq_some hf)
      simp only [decide_eq_true_eq, key o' h2, hc] at h1
      exact h1.symm
end
