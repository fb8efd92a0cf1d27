/-! what both sides read, as functions of the text T of length L -/
def spF (T : Nat → Int32) (L k : Nat) : Nat := if k < L ∧ T k = 32 then spF T L (k + 1) else k
termination_by L - k
decreasing_by omega
def lfF (T : Nat → Int32) (L k : Nat) : Nat := if k < L ∧ T k ≠ 10 then lfF T L (k + 1) else k
termination_by L - k
decreasing_by omega
def restF (T : Nat → Int32) (L k : Nat) : Nat := if spF T L k < L ∧ T (spF T L k) = 59 then lfF T L (spF T L k) else spF T L k
theorem spF_ge (T : Nat → Int32) (L k : Nat) : k ≤ spF T L k := by
  rw [spF]
  split
  · have := spF_ge T L (k + 1); omega
  · exact Nat.le_refl _
termination_by L - k
decreasing_by omega
theorem spF_le (T : Nat → Int32) {L k : Nat} (h : k ≤ L) : spF T L k ≤ L := by
  rw [spF]
  split
  · exact spF_le T (by omega)
  · exact h
termination_by L - k
decreasing_by omega
theorem lfF_ge (T : Nat → Int32) (L k : Nat) : k ≤ lfF T L k := by
  rw [lfF]
  split
  · have := lfF_ge T L (k + 1); omega
  · exact Nat.le_refl _
termination_by L - k
decreasing_by omega
theorem lfF_le (T : Nat → Int32) {L k : Nat} (h : k ≤ L) : lfF T L k ≤ L := by
  rw [lfF]
  split
  · exact lfF_le T (by omega)
  · exact h
termination_by L - k
decreasing_by omega
theorem restF_ge (T : Nat → Int32) (L k : Nat) : k ≤ restF T L k := by
  unfold restF
  have h1 := spF_ge T L k
  split
  · have := lfF_ge T L (spF T L k); omega
  · exact h1
theorem restF_le (T : Nat → Int32) {L k : Nat} (h : k ≤ L) : restF T L k ≤ L := by
  unfold restF
  split
  · exact lfF_le T (spF_le T h)
  · exact spF_le T h
/-- the first line from k on that isn't blank, or the end -/
def lineF (T : Nat → Int32) (L k : Nat) : Nat :=
  if h : k < L then (if restF T L k < L ∧ T (restF T L k) ≠ 10 then k else lineF T L (if restF T L k < L then restF T L k + 1 else L)) else L
termination_by L - k
decreasing_by
  have := restF_ge T L k
  split <;> omega
theorem lineF_le (T : Nat → Int32) (L k : Nat) : lineF T L k ≤ L := by
  rw [lineF]
  split
  · split
    · omega
    · exact lineF_le T L _
  · exact Nat.le_refl _
termination_by L - k
decreasing_by
  have := restF_ge T L k
  split <;> omega
theorem lineF_ge (T : Nat → Int32) {L k : Nat} (h : k ≤ L) : k ≤ lineF T L k := by
  rw [lineF]
  split
  · split
    · exact Nat.le_refl _
    · have h1 := restF_ge T L k
      have h2 := restF_le T h
      refine Nat.le_trans ?_ (lineF_ge T (k := if restF T L k < L then restF T L k + 1 else L) ?_)
      · split <;> omega
      · split <;> omega
  · exact h
termination_by L - k
decreasing_by
  have := restF_ge T L k
  split <;> omega
/-- behind a gap -/
def gapF (T : Nat → Int32) (L a : Nat) : Nat :=
  if h : restF T L a < L ∧ T (restF T L a) = 10 ∧ lineF T L (restF T L a + 1) < L ∧ T (lineF T L (restF T L a + 1)) = 32 then gapF T L (lineF T L (restF T L a + 1)) else restF T L a
termination_by L - a
decreasing_by
  have h1 := restF_ge T L a
  have h2 := lineF_ge T (L := L) (k := restF T L a + 1) (by omega)
  omega
/-- the same, from within a remark -/
def gapC (T : Nat → Int32) (L a : Nat) : Nat :=
  if lfF T L a < L ∧ lineF T L (lfF T L a + 1) < L ∧ T (lineF T L (lfF T L a + 1)) = 32 then gapF T L (lineF T L (lfF T L a + 1)) else lfF T L a
theorem lfF_at (T : Nat → Int32) (L k : Nat) (h : lfF T L k < L) : T (lfF T L k) = 10 := by
  rw [lfF] at h ⊢
  split
  · rename_i q
    rw [if_pos q] at h
    exact lfF_at T L (k + 1) h
  · rename_i q
    rw [if_neg q] at h
    exact Classical.byContradiction (fun z => q ⟨h, z⟩)
termination_by L - k
decreasing_by omega
theorem restF_sp {T : Nat → Int32} {L k : Nat} (h : k < L) (hs : T k = 32) : restF T L k = restF T L (k + 1) := by
  have e : spF T L k = spF T L (k + 1) := by conv => lhs; rw [spF, if_pos ⟨h, hs⟩]
  unfold restF
  rw [e]
theorem restF_no {T : Nat → Int32} {L k : Nat} (hs : ¬ (k < L ∧ T k = 32)) (hc : ¬ (k < L ∧ T k = 59)) : restF T L k = k := by
  have e : spF T L k = k := by rw [spF, if_neg hs]
  unfold restF
  rw [e, if_neg hc]
theorem restF_co {T : Nat → Int32} {L k : Nat} (h : k < L) (hc : T k = 59) : restF T L k = lfF T L (k + 1) := by
  have e : spF T L k = k := by rw [spF, if_neg (fun z => by rw [hc] at z; exact absurd z.2 (by decide))]
  unfold restF
  rw [e, if_pos ⟨h, hc⟩, lfF, if_pos ⟨h, by rw [hc]; decide⟩]
theorem gapF_sp {T : Nat → Int32} {L k : Nat} (h : k < L) (hs : T k = 32) : gapF T L k = gapF T L (k + 1) := by
  conv => lhs; rw [gapF]
  conv => rhs; rw [gapF]
  simp only [restF_sp h hs]
theorem gapF_co {T : Nat → Int32} {L k : Nat} (h : k < L) (hc : T k = 59) : gapF T L k = gapC T L (k + 1) := by
  rw [gapF]
  unfold gapC
  rw [restF_co h hc]
  by_cases q : lfF T L (k + 1) < L
  · have := lfF_at T L (k + 1) q
    simp [q, this]
  · simp [q]
/-- a line's end, or the text's: the gap ends here or goes on behind -/
theorem gapF_lf {T : Nat → Int32} {L k : Nat} (h : k < L) (hc : T k = 10) : gapF T L k = if lineF T L (k + 1) < L ∧ T (lineF T L (k + 1)) = 32 then gapF T L (lineF T L (k + 1)) else k := by
  have e : restF T L k = k := restF_no (fun z => by rw [hc] at z; exact absurd z.2 (by decide)) (fun z => by rw [hc] at z; exact absurd z.2 (by decide))
  conv => lhs; rw [gapF]
  simp only [e, h, hc, true_and]
  split <;> rfl
theorem gapF_no {T : Nat → Int32} {L k : Nat} (h1 : ¬ (k < L ∧ T k = 32)) (h2 : ¬ (k < L ∧ T k = 59)) (h3 : ¬ (k < L ∧ T k = 10)) : gapF T L k = k := by
  have e : restF T L k = k := restF_no h1 h2
  rw [gapF]
  simp only [e]
  rw [dif_neg (fun z => h3 ⟨z.1, z.2.1⟩)]
theorem gapC_on {T : Nat → Int32} {L k : Nat} (h : k < L) (hc : T k ≠ 10) : gapC T L k = gapC T L (k + 1) := by
  have e : lfF T L k = lfF T L (k + 1) := by conv => lhs; rw [lfF, if_pos ⟨h, hc⟩]
  unfold gapC
  rw [e]
theorem gapC_lf {T : Nat → Int32} {L k : Nat} (h : k < L) (hc : T k = 10) : gapC T L k = gapF T L k := by
  have e : lfF T L k = k := by rw [lfF, if_neg (fun z => z.2 hc)]
  rw [gapF_lf h hc]
  unfold gapC
  rw [e]
  simp only [h, true_and]
theorem gapC_end {T : Nat → Int32} {L k : Nat} (h : ¬ k < L) : gapC T L k = k := by
  have e : lfF T L k = k := by rw [lfF, if_neg (fun z => h z.1)]
  unfold gapC
  rw [e, if_neg (fun z => h z.1)]
theorem gapF_ge (T : Nat → Int32) (L a : Nat) : a ≤ gapF T L a := by
  rw [gapF]
  have h1 := restF_ge T L a
  split
  · rename_i q
    have h2 := lineF_ge T (L := L) (k := restF T L a + 1) (by omega)
    have := gapF_ge T L (lineF T L (restF T L a + 1))
    omega
  · exact h1
termination_by L - a
decreasing_by
  have h1 := restF_ge T L a
  have h2 := lineF_ge T (L := L) (k := restF T L a + 1) (by omega)
  omega
theorem gapF_le (T : Nat → Int32) {L a : Nat} (h : a ≤ L) : gapF T L a ≤ L := by
  rw [gapF]
  split
  · exact gapF_le T (lineF_le T L _)
  · exact restF_le T h
termination_by L - a
decreasing_by
  have h1 := restF_ge T L a
  have h2 := lineF_ge T (L := L) (k := restF T L a + 1) (by omega)
  omega
theorem spF_at (T : Nat → Int32) (L k : Nat) : ¬ (spF T L k < L ∧ T (spF T L k) = 32) := by
  rw [spF]
  split
  · exact spF_at T L (k + 1)
  · assumption
termination_by L - k
decreasing_by omega
theorem restF_at (T : Nat → Int32) (L k : Nat) : ¬ (restF T L k < L ∧ T (restF T L k) = 32) ∧ ¬ (restF T L k < L ∧ T (restF T L k) = 59) := by
  unfold restF
  split
  · refine ⟨fun z => ?_, fun z => ?_⟩
    · have := lfF_at T L _ z.1; rw [this] at z; exact absurd z.2 (by decide)
    · have := lfF_at T L _ z.1; rw [this] at z; exact absurd z.2 (by decide)
  · rename_i q
    exact ⟨spF_at T L k, q⟩
/-- gap twice is gap -/
theorem gapF_idem (T : Nat → Int32) (L a : Nat) : gapF T L (gapF T L a) = gapF T L a := by
  conv => lhs; rw [gapF.eq_def T L a]
  conv => rhs; rw [gapF]
  split
  · exact gapF_idem T L _
  · rename_i q
    have h := restF_at T L a
    have e : restF T L (restF T L a) = restF T L a := restF_no h.1 h.2
    rw [gapF, e, dif_neg q]
termination_by L - a
decreasing_by
  have h1 := restF_ge T L a
  have h2 := lineF_ge T (L := L) (k := restF T L a + 1) (by omega)
  omega
