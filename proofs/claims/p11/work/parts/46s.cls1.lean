theorem ti_48 : (48 : Int32).toInt = 48 := by decide
theorem ti_57 : (57 : Int32).toInt = 57 := by decide
theorem ti_65 : (65 : Int32).toInt = 65 := by decide
theorem ti_70 : (70 : Int32).toInt = 70 := by decide
theorem ti_90 : (90 : Int32).toInt = 90 := by decide
theorem ti_97 : (97 : Int32).toInt = 97 := by decide
theorem ti_102 : (102 : Int32).toInt = 102 := by decide
theorem ti_122 : (122 : Int32).toInt = 122 := by decide
theorem ti_10 : (10 : Int32).toInt = 10 := by decide
theorem ti_87 : (87 : Int32).toInt = 87 := by decide
theorem ti_32 : (32 : Int32).toInt = 32 := by decide
theorem sm_ar (x : Int32) : x - 65 + 97 = x + 32 := by
  rw [Int32.sub_eq_add_neg, Int32.add_assoc]
  rfl
def nmC (x : Int32) : Int32 := if ltF x ≠ 0 ∨ dgF x ≠ 0 ∨ x = 45 then 1 else 0
def bpF (x : Int32) : Int32 := if dgF x ≠ 0 ∨ x = 42 then 1 else 0
def stC (x : Int32) : Int32 := if ¬ (x < 32 ∨ 126 < x) ∧ ¬ x = 34 then 1 else 0
def rdF (x b : Int32) : Int32 := if ¬ (x < 48 ∨ 57 < x) then x - 48 else if b = 16 ∧ ¬ (x < 97 ∨ 102 < x) then x - 97 + 10 else if b = 16 ∧ ¬ (x < 65 ∨ 70 < x) then x - 65 + 10 else -1
theorem rdF_fig (x b : Int32) : rdF x b = figF x b := by
  unfold rdF figF
  by_cases h1 : x < 48 ∨ 57 < x
  · rw [if_neg (fun z => z h1), if_neg (show ¬ dgF x ≠ 0 from fun z => z (by unfold dgF; rw [if_pos h1]))]
    by_cases h2 : b = 16
    · by_cases h3 : x < 97 ∨ 102 < x
      · rw [if_neg (fun z => z.2 h3)]
        by_cases h4 : x < 65 ∨ 70 < x
        · rw [if_neg (fun z => z.2 h4)]
          rw [if_neg]
          rintro ⟨-, h5⟩
          apply h5
          unfold smF
          split
          · exact h3
          · rename_i h6
            simp only [Int32.lt_iff_toInt_lt, ti_65, ti_70, ti_90, ti_97, ti_102] at h3 h4 h6 ⊢
            have e : (x + 32).toInt = x.toInt + 32 := by
              rw [Int32.toInt_add, ti_32]
              exact Int.bmod_eq_of_le (by omega) (by omega)
            rw [e]
            omega
        · rw [if_pos ⟨h2, h4⟩]
          have h6 : ¬ (x < 65 ∨ 90 < x) := by
            simp only [Int32.lt_iff_toInt_lt, ti_65, ti_70, ti_90] at h4 ⊢
            omega
          have e : smF x = x + 32 := by unfold smF; rw [if_neg h6]
          rw [e, if_pos]
          · rw [Int32.sub_eq_add_neg, Int32.add_assoc, Int32.sub_eq_add_neg, Int32.add_assoc]
            rfl
          · refine ⟨h2, ?_⟩
            simp only [Int32.lt_iff_toInt_lt, ti_65, ti_70, ti_97, ti_102] at h4 ⊢
            have e : (x + 32).toInt = x.toInt + 32 := by
              rw [Int32.toInt_add, ti_32]
              exact Int.bmod_eq_of_le (by omega) (by omega)
            rw [e]
            omega
      · have h6 : x < 65 ∨ 90 < x := by
          simp only [Int32.lt_iff_toInt_lt, ti_65, ti_90, ti_97, ti_102] at h3 ⊢
          omega
        have e : smF x = x := by unfold smF; rw [if_pos h6]
        rw [if_pos ⟨h2, h3⟩, e, if_pos ⟨h2, h3⟩, Int32.sub_eq_add_neg, Int32.add_assoc, Int32.sub_eq_add_neg]
        rfl
    · rw [if_neg (fun z => h2 z.1), if_neg (fun z => h2 z.1), if_neg (fun z => h2 z.1)]
  · rw [if_pos h1, if_pos (show dgF x ≠ 0 by unfold dgF; rw [if_neg h1]; decide)]
theorem bg_raw (x : Int32) : (if bpF x ≠ 0 ∨ ltF x ≠ 0 ∨ x = 40 ∨ x = 91 ∨ x = 34 ∨ x = 37 then (1 : Int32) else 0) = (if bgF x then 1 else 0) := by
  have e : (bgF x = true) ↔ (bpF x ≠ 0 ∨ ltF x ≠ 0 ∨ x = 40 ∨ x = 91 ∨ x = 34 ∨ x = 37) := by
    have e2 : bpF x ≠ 0 ↔ (dgF x ≠ 0 ∨ x = 42) := by
      unfold bpF
      by_cases q : dgF x ≠ 0 ∨ x = 42
      · rw [if_pos q]; exact ⟨fun _ => q, fun _ => by decide⟩
      · rw [if_neg q]; exact ⟨fun z => absurd rfl z, fun z => absurd z q⟩
    unfold bgF
    simp only [Bool.or_eq_true, decide_eq_true_eq]
    rw [e2]
    constructor
    · rintro ((((((z | z) | z) | z) | z) | z) | z)
      · exact Or.inr (Or.inl z)
      · exact Or.inl (Or.inl z)
      · exact Or.inl (Or.inr z)
      · exact Or.inr (Or.inr (Or.inl z))
      · exact Or.inr (Or.inr (Or.inr (Or.inl z)))
      · exact Or.inr (Or.inr (Or.inr (Or.inr (Or.inl z))))
      · exact Or.inr (Or.inr (Or.inr (Or.inr (Or.inr z))))
    · rintro ((z | z) | z | z | z | z | z)
      · exact Or.inl (Or.inl (Or.inl (Or.inl (Or.inl (Or.inr z)))))
      · exact Or.inl (Or.inl (Or.inl (Or.inl (Or.inr z))))
      · exact Or.inl (Or.inl (Or.inl (Or.inl (Or.inl (Or.inl z)))))
      · exact Or.inl (Or.inl (Or.inl (Or.inr z)))
      · exact Or.inl (Or.inl (Or.inr z))
      · exact Or.inl (Or.inr z)
      · exact Or.inr z
  by_cases q : bgF x = true
  · rw [if_pos (e.mp q), if_pos q]
  · rw [if_neg (fun z => q (e.mpr z)), if_neg q]
set_option maxHeartbeats 4000000 in
set_option maxRecDepth 100000 in
theorem m_Ab_isLetterX (l : Launch) (x : Int32) : MS l y_Ab_isLetter c_Ab_isLetter 1 (some .boolean) ({ frames := 0, cells := 0, slots := 0, locals := 0 } : Room) [.int (x)] (fun r => r = ltF x) := by
  refine Met.ofW (cc := c_Ab_isLetter) (maxL := 1) (ret := (some .boolean)) (by decide) rfl ?_
  intro p e s m args below meth c s₁ B hml hv
  obtain ⟨rfl, hN⟩ := hv
  have hx := B.exec
  have hb := B.bytes
  have hr := B.returns
  have hlocks := B.notSynchronized
  have Bx : p.tables.exec = Jvm.exec ∧ c.code = c_Ab_isLetter ∧ (∀ w ∈ TB, w.before [.int (x)].toArray s = true) ∧ s.vm.findClass "AbnfChart" = some m.cls ∧ True := ⟨hx, hb, tb_all (atoms_spec B.pre) hN, findClass_of_methodNamed B.named, trivial⟩
  have hl := lv_entry ([.int (x)]) (n := 1) (Nat.le_of_ble_eq_true rfl)
  rw [lg_entry_eq]
  generalize (lg_sl ([.int (x)]) ++ List.replicate (1 - (lg_sl ([.int (x)])).length) Slot.unset).toArray = ls at hl ⊢
  have hl : lv_has ls 1 [(0, .int (x))] := hl
  refine lv_iload_n Bx.1 Bx.2.1 d_Ab_isLetter_0 rfl (lv_at hl 0 rfl) ?_
  refine lv_bipush (v := 97) Bx.1 Bx.2.1 d_Ab_isLetter_1 (by decide) ?_
  refine lv_icmp_lt Bx.1 Bx.2.1 d_Ab_isLetter_3 rfl (fun hc1 => ?_) (fun hc1 => ?_)
  · refine lv_iload_n Bx.1 Bx.2.1 d_Ab_isLetter_12 rfl (lv_at hl 0 rfl) ?_
    refine lv_bipush (v := 65) Bx.1 Bx.2.1 d_Ab_isLetter_13 (by decide) ?_
    refine lv_icmp_lt Bx.1 Bx.2.1 d_Ab_isLetter_15 rfl (fun hc2 => ?_) (fun hc2 => ?_)
    · refine lv_iconst (v := 0) Bx.1 Bx.2.1 d_Ab_isLetter_28 (by decide) ?_
      exact W.zret (v := 0) hx hb hr rfl (fun t ht hW => ⟨0, rfl, by unfold ltF; simp only [hc1, hc2, true_and, and_true, false_and, and_false, true_or, or_true, false_or, or_false, not_true_eq_false, not_false_eq_true, if_true, if_false, ne_eq, ↓reduceIte], ht⟩) (fun _ h => by cases h) d_Ab_isLetter_29
    · refine lv_iload_n Bx.1 Bx.2.1 d_Ab_isLetter_18 rfl (lv_at hl 0 rfl) ?_
      refine lv_bipush (v := 90) Bx.1 Bx.2.1 d_Ab_isLetter_19 (by decide) ?_
      refine lv_icmp_gt Bx.1 Bx.2.1 d_Ab_isLetter_21 rfl (fun hc3 => ?_) (fun hc3 => ?_)
      · refine lv_iconst (v := 0) Bx.1 Bx.2.1 d_Ab_isLetter_28 (by decide) ?_
        exact W.zret (v := 0) hx hb hr rfl (fun t ht hW => ⟨0, rfl, by unfold ltF; simp only [hc1, hc2, hc3, true_and, and_true, false_and, and_false, true_or, or_true, false_or, or_false, not_true_eq_false, not_false_eq_true, if_true, if_false, ne_eq, ↓reduceIte], ht⟩) (fun _ h => by cases h) d_Ab_isLetter_29
      · refine lv_iconst (v := 1) Bx.1 Bx.2.1 d_Ab_isLetter_24 (by decide) ?_
        refine lv_goto Bx.1 Bx.2.1 d_Ab_isLetter_25 rfl ?_
        exact W.zret (v := 1) hx hb hr rfl (fun t ht hW => ⟨1, rfl, by unfold ltF; simp only [hc1, hc2, hc3, true_and, and_true, false_and, and_false, true_or, or_true, false_or, or_false, not_true_eq_false, not_false_eq_true, if_true, if_false, ne_eq, ↓reduceIte], ht⟩) (fun _ h => by cases h) d_Ab_isLetter_29
  · refine lv_iload_n Bx.1 Bx.2.1 d_Ab_isLetter_6 rfl (lv_at hl 0 rfl) ?_
    refine lv_bipush (v := 122) Bx.1 Bx.2.1 d_Ab_isLetter_7 (by decide) ?_
    refine lv_icmp_le Bx.1 Bx.2.1 d_Ab_isLetter_9 rfl (fun hc4 => ?_) (fun hc4 => ?_)
    · refine lv_iconst (v := 1) Bx.1 Bx.2.1 d_Ab_isLetter_24 (by decide) ?_
      refine lv_goto Bx.1 Bx.2.1 d_Ab_isLetter_25 rfl ?_
      exact W.zret (v := 1) hx hb hr rfl (fun t ht hW => ⟨1, rfl, by unfold ltF; simp only [hc1, Int32.not_lt.mpr hc4, true_and, and_true, false_and, and_false, true_or, or_true, false_or, or_false, not_true_eq_false, not_false_eq_true, if_true, if_false, ne_eq, ↓reduceIte], ht⟩) (fun _ h => by cases h) d_Ab_isLetter_29
    · refine lv_iload_n Bx.1 Bx.2.1 d_Ab_isLetter_12 rfl (lv_at hl 0 rfl) ?_
      refine lv_bipush (v := 65) Bx.1 Bx.2.1 d_Ab_isLetter_13 (by decide) ?_
      refine lv_icmp_lt Bx.1 Bx.2.1 d_Ab_isLetter_15 rfl (fun hc5 => ?_) (fun hc5 => ?_)
      · refine lv_iconst (v := 0) Bx.1 Bx.2.1 d_Ab_isLetter_28 (by decide) ?_
        exact W.zret (v := 0) hx hb hr rfl (fun t ht hW => ⟨0, rfl, by unfold ltF; simp only [hc1, Int32.not_le.mp hc4, hc5, true_and, and_true, false_and, and_false, true_or, or_true, false_or, or_false, not_true_eq_false, not_false_eq_true, if_true, if_false, ne_eq, ↓reduceIte], ht⟩) (fun _ h => by cases h) d_Ab_isLetter_29
      · refine lv_iload_n Bx.1 Bx.2.1 d_Ab_isLetter_18 rfl (lv_at hl 0 rfl) ?_
        refine lv_bipush (v := 90) Bx.1 Bx.2.1 d_Ab_isLetter_19 (by decide) ?_
        refine lv_icmp_gt Bx.1 Bx.2.1 d_Ab_isLetter_21 rfl (fun hc6 => ?_) (fun hc6 => ?_)
        · refine lv_iconst (v := 0) Bx.1 Bx.2.1 d_Ab_isLetter_28 (by decide) ?_
          exact W.zret (v := 0) hx hb hr rfl (fun t ht hW => ⟨0, rfl, by unfold ltF; simp only [hc1, Int32.not_le.mp hc4, hc5, hc6, true_and, and_true, false_and, and_false, true_or, or_true, false_or, or_false, not_true_eq_false, not_false_eq_true, if_true, if_false, ne_eq, ↓reduceIte], ht⟩) (fun _ h => by cases h) d_Ab_isLetter_29
        · refine lv_iconst (v := 1) Bx.1 Bx.2.1 d_Ab_isLetter_24 (by decide) ?_
          refine lv_goto Bx.1 Bx.2.1 d_Ab_isLetter_25 rfl ?_
          exact W.zret (v := 1) hx hb hr rfl (fun t ht hW => ⟨1, rfl, by unfold ltF; simp only [hc1, Int32.not_le.mp hc4, hc5, hc6, true_and, and_true, false_and, and_false, true_or, or_true, false_or, or_false, not_true_eq_false, not_false_eq_true, if_true, if_false, ne_eq, ↓reduceIte], ht⟩) (fun _ h => by cases h) d_Ab_isLetter_29
set_option maxHeartbeats 4000000 in
set_option maxRecDepth 100000 in
theorem m_Ab_isDigitX (l : Launch) (x : Int32) : MS l y_Ab_isDigit c_Ab_isDigit 1 (some .boolean) ({ frames := 0, cells := 0, slots := 0, locals := 0 } : Room) [.int (x)] (fun r => r = dgF x) := by
  refine Met.ofW (cc := c_Ab_isDigit) (maxL := 1) (ret := (some .boolean)) (by decide) rfl ?_
  intro p e s m args below meth c s₁ B hml hv
  obtain ⟨rfl, hN⟩ := hv
  have hx := B.exec
  have hb := B.bytes
  have hr := B.returns
  have hlocks := B.notSynchronized
  have Bx : p.tables.exec = Jvm.exec ∧ c.code = c_Ab_isDigit ∧ (∀ w ∈ TB, w.before [.int (x)].toArray s = true) ∧ s.vm.findClass "AbnfChart" = some m.cls ∧ True := ⟨hx, hb, tb_all (atoms_spec B.pre) hN, findClass_of_methodNamed B.named, trivial⟩
  have hl := lv_entry ([.int (x)]) (n := 1) (Nat.le_of_ble_eq_true rfl)
  rw [lg_entry_eq]
  generalize (lg_sl ([.int (x)]) ++ List.replicate (1 - (lg_sl ([.int (x)])).length) Slot.unset).toArray = ls at hl ⊢
  have hl : lv_has ls 1 [(0, .int (x))] := hl
  refine lv_iload_n Bx.1 Bx.2.1 d_Ab_isDigit_0 rfl (lv_at hl 0 rfl) ?_
  refine lv_bipush (v := 48) Bx.1 Bx.2.1 d_Ab_isDigit_1 (by decide) ?_
  refine lv_icmp_lt Bx.1 Bx.2.1 d_Ab_isDigit_3 rfl (fun hc1 => ?_) (fun hc1 => ?_)
  · refine lv_iconst (v := 0) Bx.1 Bx.2.1 d_Ab_isDigit_16 (by decide) ?_
    exact W.zret (v := 0) hx hb hr rfl (fun t ht hW => ⟨0, rfl, by unfold dgF; simp only [hc1, true_and, and_true, false_and, and_false, true_or, or_true, false_or, or_false, not_true_eq_false, not_false_eq_true, if_true, if_false, ne_eq, ↓reduceIte], ht⟩) (fun _ h => by cases h) d_Ab_isDigit_17
  · refine lv_iload_n Bx.1 Bx.2.1 d_Ab_isDigit_6 rfl (lv_at hl 0 rfl) ?_
    refine lv_bipush (v := 57) Bx.1 Bx.2.1 d_Ab_isDigit_7 (by decide) ?_
    refine lv_icmp_gt Bx.1 Bx.2.1 d_Ab_isDigit_9 rfl (fun hc2 => ?_) (fun hc2 => ?_)
    · refine lv_iconst (v := 0) Bx.1 Bx.2.1 d_Ab_isDigit_16 (by decide) ?_
      exact W.zret (v := 0) hx hb hr rfl (fun t ht hW => ⟨0, rfl, by unfold dgF; simp only [hc1, hc2, true_and, and_true, false_and, and_false, true_or, or_true, false_or, or_false, not_true_eq_false, not_false_eq_true, if_true, if_false, ne_eq, ↓reduceIte], ht⟩) (fun _ h => by cases h) d_Ab_isDigit_17
    · refine lv_iconst (v := 1) Bx.1 Bx.2.1 d_Ab_isDigit_12 (by decide) ?_
      refine lv_goto Bx.1 Bx.2.1 d_Ab_isDigit_13 rfl ?_
      exact W.zret (v := 1) hx hb hr rfl (fun t ht hW => ⟨1, rfl, by unfold dgF; simp only [hc1, hc2, true_and, and_true, false_and, and_false, true_or, or_true, false_or, or_false, not_true_eq_false, not_false_eq_true, if_true, if_false, ne_eq, ↓reduceIte], ht⟩) (fun _ h => by cases h) d_Ab_isDigit_17
set_option maxHeartbeats 4000000 in
set_option maxRecDepth 100000 in
theorem m_Ab_smallOfX (l : Launch) (x : Int32) : MS l y_Ab_smallOf c_Ab_smallOf 1 (some .int) ({ frames := 0, cells := 0, slots := 0, locals := 0 } : Room) [.int (x)] (fun r => r = smF x) := by
  refine Met.ofW (cc := c_Ab_smallOf) (maxL := 1) (ret := (some .int)) (by decide) rfl ?_
  intro p e s m args below meth c s₁ B hml hv
  obtain ⟨rfl, hN⟩ := hv
  have hx := B.exec
  have hb := B.bytes
  have hr := B.returns
  have hlocks := B.notSynchronized
  have Bx : p.tables.exec = Jvm.exec ∧ c.code = c_Ab_smallOf ∧ (∀ w ∈ TB, w.before [.int (x)].toArray s = true) ∧ s.vm.findClass "AbnfChart" = some m.cls ∧ True := ⟨hx, hb, tb_all (atoms_spec B.pre) hN, findClass_of_methodNamed B.named, trivial⟩
  have hl := lv_entry ([.int (x)]) (n := 1) (Nat.le_of_ble_eq_true rfl)
  rw [lg_entry_eq]
  generalize (lg_sl ([.int (x)]) ++ List.replicate (1 - (lg_sl ([.int (x)])).length) Slot.unset).toArray = ls at hl ⊢
  have hl : lv_has ls 1 [(0, .int (x))] := hl
  refine lv_iload_n Bx.1 Bx.2.1 d_Ab_smallOf_0 rfl (lv_at hl 0 rfl) ?_
  refine lv_bipush (v := 65) Bx.1 Bx.2.1 d_Ab_smallOf_1 (by decide) ?_
  refine lv_icmp_lt Bx.1 Bx.2.1 d_Ab_smallOf_3 rfl (fun hc1 => ?_) (fun hc1 => ?_)
  · refine lv_iload_n Bx.1 Bx.2.1 d_Ab_smallOf_22 rfl (lv_at hl 0 rfl) ?_
    exact W.iret (v := x) hx hb hr (fun t ht hW => ⟨x, rfl, by unfold smF; simp only [hc1, true_and, and_true, false_and, and_false, true_or, or_true, false_or, or_false, not_true_eq_false, not_false_eq_true, if_true, if_false, ne_eq, ↓reduceIte], ht⟩) (fun _ h => by cases h) d_Ab_smallOf_23
  · refine lv_iload_n Bx.1 Bx.2.1 d_Ab_smallOf_6 rfl (lv_at hl 0 rfl) ?_
    refine lv_bipush (v := 90) Bx.1 Bx.2.1 d_Ab_smallOf_7 (by decide) ?_
    refine lv_icmp_gt Bx.1 Bx.2.1 d_Ab_smallOf_9 rfl (fun hc2 => ?_) (fun hc2 => ?_)
    · refine lv_iload_n Bx.1 Bx.2.1 d_Ab_smallOf_22 rfl (lv_at hl 0 rfl) ?_
      exact W.iret (v := x) hx hb hr (fun t ht hW => ⟨x, rfl, by unfold smF; simp only [hc1, hc2, true_and, and_true, false_and, and_false, true_or, or_true, false_or, or_false, not_true_eq_false, not_false_eq_true, if_true, if_false, ne_eq, ↓reduceIte], ht⟩) (fun _ h => by cases h) d_Ab_smallOf_23
    · refine lv_iload_n Bx.1 Bx.2.1 d_Ab_smallOf_12 rfl (lv_at hl 0 rfl) ?_
      refine lv_bipush (v := 65) Bx.1 Bx.2.1 d_Ab_smallOf_13 (by decide) ?_
      refine lv_isub Bx.1 Bx.2.1 d_Ab_smallOf_15 ?_
      refine lv_bipush (v := 97) Bx.1 Bx.2.1 d_Ab_smallOf_16 (by decide) ?_
      refine lv_iadd Bx.1 Bx.2.1 d_Ab_smallOf_18 ?_
      refine lv_goto Bx.1 Bx.2.1 d_Ab_smallOf_19 rfl ?_
      exact W.iret (v := x - 65 + 97) hx hb hr (fun t ht hW => ⟨x - 65 + 97, rfl, by unfold smF; simp only [hc1, hc2, true_and, and_true, false_and, and_false, true_or, or_true, false_or, or_false, not_true_eq_false, not_false_eq_true, if_true, if_false, ne_eq, ↓reduceIte]; exact sm_ar x, ht⟩) (fun _ h => by cases h) d_Ab_smallOf_23
set_option maxHeartbeats 4000000 in
set_option maxRecDepth 100000 in
theorem m_Rd_isNameCodeX (l : Launch) (x : Int32) : MS l y_Rd_isNameCode c_Rd_isNameCode 1 (some .boolean) ({ frames := 1, cells := 0, slots := 0, locals := 30 } : Room) [.int (x)] (fun r => r = nmC x) := by
  refine Met.ofW (cc := c_Rd_isNameCode) (maxL := 1) (ret := (some .boolean)) (by decide) rfl ?_
  intro p e s m args below meth c s₁ B hml hv
  obtain ⟨rfl, hN⟩ := hv
  have hx := B.exec
  have hb := B.bytes
  have hr := B.returns
  have hlocks := B.notSynchronized
  have Bx : p.tables.exec = Jvm.exec ∧ c.code = c_Rd_isNameCode ∧ (∀ w ∈ TB, w.before [.int (x)].toArray s = true) ∧ s.vm.findClass "AbnfChart$Reader" = some m.cls ∧ True := ⟨hx, hb, tb_all (atoms_spec B.pre) hN, findClass_of_methodNamed B.named, trivial⟩
  have hl := lv_entry ([.int (x)]) (n := 1) (Nat.le_of_ble_eq_true rfl)
  rw [lg_entry_eq]
  generalize (lg_sl ([.int (x)]) ++ List.replicate (1 - (lg_sl ([.int (x)])).length) Slot.unset).toArray = ls at hl ⊢
  have hl : lv_has ls 1 [(0, .int (x))] := hl
  refine lv_iload_n Bx.1 Bx.2.1 d_Rd_isNameCode_0 rfl (lv_at hl 0 rfl) ?_
  refine f_callSNi (na := 1) (As := [.int (x)]) (rest := []) Bx hml hN (m_Ab_isLetterX l (x)) kw_357 kw_358 kw_1 kw_359 (by decide +kernel) ⟨rfl, rfl⟩ ⟨Nat.le_of_ble_eq_true rfl, Nat.le_of_ble_eq_true rfl⟩ rfl hl.1 (Nat.le_of_ble_eq_true rfl) d_Rd_isNameCode_1 ⟨Nat.le_of_ble_eq_true rfl, Nat.le_of_ble_eq_true rfl⟩ (fun r2 hs1 => ?_)
  subst hs1
  refine lv_if_ne Bx.1 Bx.2.1 d_Rd_isNameCode_4 rfl (fun hc3 => ?_) (fun hc3 => ?_)
  · refine lv_iconst (v := 1) Bx.1 Bx.2.1 d_Rd_isNameCode_20 (by decide) ?_
    refine lv_goto Bx.1 Bx.2.1 d_Rd_isNameCode_21 rfl ?_
    exact W.zret (v := 1) hx hb hr rfl (fun t ht hW => ⟨1, rfl, by unfold nmC; simp only [hc3, true_and, and_true, false_and, and_false, true_or, or_true, false_or, or_false, not_true_eq_false, not_false_eq_true, if_true, if_false, ne_eq, ↓reduceIte], ht⟩) (fun _ h => by cases h) d_Rd_isNameCode_25
  · refine lv_iload_n Bx.1 Bx.2.1 d_Rd_isNameCode_7 rfl (lv_at hl 0 rfl) ?_
    refine f_callSNi (na := 1) (As := [.int (x)]) (rest := []) Bx hml hN (m_Ab_isDigitX l (x)) kw_369 kw_370 kw_1 kw_371 (by decide +kernel) ⟨rfl, rfl⟩ ⟨Nat.le_of_ble_eq_true rfl, Nat.le_of_ble_eq_true rfl⟩ rfl hl.1 (Nat.le_of_ble_eq_true rfl) d_Rd_isNameCode_8 ⟨Nat.le_of_ble_eq_true rfl, Nat.le_of_ble_eq_true rfl⟩ (fun r5 hs4 => ?_)
    subst hs4
    refine lv_if_ne Bx.1 Bx.2.1 d_Rd_isNameCode_11 rfl (fun hc6 => ?_) (fun hc6 => ?_)
    · refine lv_iconst (v := 1) Bx.1 Bx.2.1 d_Rd_isNameCode_20 (by decide) ?_
      refine lv_goto Bx.1 Bx.2.1 d_Rd_isNameCode_21 rfl ?_
      exact W.zret (v := 1) hx hb hr rfl (fun t ht hW => ⟨1, rfl, by unfold nmC; simp only [hc3, hc6, true_and, and_true, false_and, and_false, true_or, or_true, false_or, or_false, not_true_eq_false, not_false_eq_true, if_true, if_false, ne_eq, ↓reduceIte], ht⟩) (fun _ h => by cases h) d_Rd_isNameCode_25
    · refine lv_iload_n Bx.1 Bx.2.1 d_Rd_isNameCode_14 rfl (lv_at hl 0 rfl) ?_
      refine lv_bipush (v := 45) Bx.1 Bx.2.1 d_Rd_isNameCode_15 (by decide) ?_
      refine lv_icmp_ne Bx.1 Bx.2.1 d_Rd_isNameCode_17 rfl (fun hc7 => ?_) (fun hc7 => ?_)
      · refine lv_iconst (v := 0) Bx.1 Bx.2.1 d_Rd_isNameCode_24 (by decide) ?_
        exact W.zret (v := 0) hx hb hr rfl (fun t ht hW => ⟨0, rfl, by unfold nmC; simp only [hc3, hc6, hc7, true_and, and_true, false_and, and_false, true_or, or_true, false_or, or_false, not_true_eq_false, not_false_eq_true, if_true, if_false, ne_eq, ↓reduceIte], ht⟩) (fun _ h => by cases h) d_Rd_isNameCode_25
      · refine lv_iconst (v := 1) Bx.1 Bx.2.1 d_Rd_isNameCode_20 (by decide) ?_
        refine lv_goto Bx.1 Bx.2.1 d_Rd_isNameCode_21 rfl ?_
        exact W.zret (v := 1) hx hb hr rfl (fun t ht hW => ⟨1, rfl, by unfold nmC; simp only [hc3, hc6, hc7, true_and, and_true, false_and, and_false, true_or, or_true, false_or, or_false, not_true_eq_false, not_false_eq_true, if_true, if_false, ne_eq, ↓reduceIte], ht⟩) (fun _ h => by cases h) d_Rd_isNameCode_25
set_option maxHeartbeats 4000000 in
set_option maxRecDepth 100000 in
theorem m_Rd_beginsRepeatX (l : Launch) (x : Int32) : MS l y_Rd_beginsRepeat c_Rd_beginsRepeat 1 (some .boolean) ({ frames := 1, cells := 0, slots := 0, locals := 30 } : Room) [.int (x)] (fun r => r = bpF x) := by
  refine Met.ofW (cc := c_Rd_beginsRepeat) (maxL := 1) (ret := (some .boolean)) (by decide) rfl ?_
  intro p e s m args below meth c s₁ B hml hv
  obtain ⟨rfl, hN⟩ := hv
  have hx := B.exec
  have hb := B.bytes
  have hr := B.returns
  have hlocks := B.notSynchronized
  have Bx : p.tables.exec = Jvm.exec ∧ c.code = c_Rd_beginsRepeat ∧ (∀ w ∈ TB, w.before [.int (x)].toArray s = true) ∧ s.vm.findClass "AbnfChart$Reader" = some m.cls ∧ True := ⟨hx, hb, tb_all (atoms_spec B.pre) hN, findClass_of_methodNamed B.named, trivial⟩
  have hl := lv_entry ([.int (x)]) (n := 1) (Nat.le_of_ble_eq_true rfl)
  rw [lg_entry_eq]
  generalize (lg_sl ([.int (x)]) ++ List.replicate (1 - (lg_sl ([.int (x)])).length) Slot.unset).toArray = ls at hl ⊢
  have hl : lv_has ls 1 [(0, .int (x))] := hl
  refine lv_iload_n Bx.1 Bx.2.1 d_Rd_beginsRepeat_0 rfl (lv_at hl 0 rfl) ?_
  refine f_callSNi (na := 1) (As := [.int (x)]) (rest := []) Bx hml hN (m_Ab_isDigitX l (x)) kw_369 kw_370 kw_1 kw_371 (by decide +kernel) ⟨rfl, rfl⟩ ⟨Nat.le_of_ble_eq_true rfl, Nat.le_of_ble_eq_true rfl⟩ rfl hl.1 (Nat.le_of_ble_eq_true rfl) d_Rd_beginsRepeat_1 ⟨Nat.le_of_ble_eq_true rfl, Nat.le_of_ble_eq_true rfl⟩ (fun r2 hs1 => ?_)
  subst hs1
  refine lv_if_ne Bx.1 Bx.2.1 d_Rd_beginsRepeat_4 rfl (fun hc3 => ?_) (fun hc3 => ?_)
  · refine lv_iconst (v := 1) Bx.1 Bx.2.1 d_Rd_beginsRepeat_13 (by decide) ?_
    refine lv_goto Bx.1 Bx.2.1 d_Rd_beginsRepeat_14 rfl ?_
    exact W.zret (v := 1) hx hb hr rfl (fun t ht hW => ⟨1, rfl, by unfold bpF; simp only [hc3, true_and, and_true, false_and, and_false, true_or, or_true, false_or, or_false, not_true_eq_false, not_false_eq_true, if_true, if_false, ne_eq, ↓reduceIte], ht⟩) (fun _ h => by cases h) d_Rd_beginsRepeat_18
  · refine lv_iload_n Bx.1 Bx.2.1 d_Rd_beginsRepeat_7 rfl (lv_at hl 0 rfl) ?_
    refine lv_bipush (v := 42) Bx.1 Bx.2.1 d_Rd_beginsRepeat_8 (by decide) ?_
    refine lv_icmp_ne Bx.1 Bx.2.1 d_Rd_beginsRepeat_10 rfl (fun hc4 => ?_) (fun hc4 => ?_)
    · refine lv_iconst (v := 0) Bx.1 Bx.2.1 d_Rd_beginsRepeat_17 (by decide) ?_
      exact W.zret (v := 0) hx hb hr rfl (fun t ht hW => ⟨0, rfl, by unfold bpF; simp only [hc3, hc4, true_and, and_true, false_and, and_false, true_or, or_true, false_or, or_false, not_true_eq_false, not_false_eq_true, if_true, if_false, ne_eq, ↓reduceIte], ht⟩) (fun _ h => by cases h) d_Rd_beginsRepeat_18
    · refine lv_iconst (v := 1) Bx.1 Bx.2.1 d_Rd_beginsRepeat_13 (by decide) ?_
      refine lv_goto Bx.1 Bx.2.1 d_Rd_beginsRepeat_14 rfl ?_
      exact W.zret (v := 1) hx hb hr rfl (fun t ht hW => ⟨1, rfl, by unfold bpF; simp only [hc3, hc4, true_and, and_true, false_and, and_false, true_or, or_true, false_or, or_false, not_true_eq_false, not_false_eq_true, if_true, if_false, ne_eq, ↓reduceIte], ht⟩) (fun _ h => by cases h) d_Rd_beginsRepeat_18
set_option maxHeartbeats 4000000 in
set_option maxRecDepth 100000 in
theorem m_Rd_beginsRepetitionX (l : Launch) (x : Int32) : MS l y_Rd_beginsRepetition c_Rd_beginsRepetition 1 (some .boolean) ({ frames := 2, cells := 0, slots := 0, locals := 60 } : Room) [.int (x)] (fun r => r = if bgF x then 1 else 0) := by
  refine Met.ofW (cc := c_Rd_beginsRepetition) (maxL := 1) (ret := (some .boolean)) (by decide) rfl ?_
  intro p e s m args below meth c s₁ B hml hv
  obtain ⟨rfl, hN⟩ := hv
  have hx := B.exec
  have hb := B.bytes
  have hr := B.returns
  have hlocks := B.notSynchronized
  have Bx : p.tables.exec = Jvm.exec ∧ c.code = c_Rd_beginsRepetition ∧ (∀ w ∈ TB, w.before [.int (x)].toArray s = true) ∧ s.vm.findClass "AbnfChart$Reader" = some m.cls ∧ True := ⟨hx, hb, tb_all (atoms_spec B.pre) hN, findClass_of_methodNamed B.named, trivial⟩
  have hl := lv_entry ([.int (x)]) (n := 1) (Nat.le_of_ble_eq_true rfl)
  rw [lg_entry_eq]
  generalize (lg_sl ([.int (x)]) ++ List.replicate (1 - (lg_sl ([.int (x)])).length) Slot.unset).toArray = ls at hl ⊢
  have hl : lv_has ls 1 [(0, .int (x))] := hl
  refine lv_iload_n Bx.1 Bx.2.1 d_Rd_beginsRepetition_0 rfl (lv_at hl 0 rfl) ?_
  refine f_callSi (na := 1) (As := [.int (x)]) (rest := []) Bx hml hN (m_Rd_beginsRepeatX l (x)) kw_416 kw_417 kw_6 kw_418 (by decide +kernel) ⟨rfl, rfl⟩ ⟨Nat.le_of_ble_eq_true rfl, Nat.le_of_ble_eq_true rfl⟩ rfl hl.1 (Nat.le_of_ble_eq_true rfl) d_Rd_beginsRepetition_1 ⟨Nat.le_of_ble_eq_true rfl, Nat.le_of_ble_eq_true rfl⟩ (fun r2 hs1 => ?_)
  subst hs1
  refine lv_if_ne Bx.1 Bx.2.1 d_Rd_beginsRepetition_4 rfl (fun hc3 => ?_) (fun hc3 => ?_)
  · refine lv_iconst (v := 1) Bx.1 Bx.2.1 d_Rd_beginsRepetition_38 (by decide) ?_
    refine lv_goto Bx.1 Bx.2.1 d_Rd_beginsRepetition_39 rfl ?_
    exact W.zret (v := 1) hx hb hr rfl (fun t ht hW => ⟨1, rfl, by rw [← bg_raw]; simp only [hc3, true_and, and_true, false_and, and_false, true_or, or_true, false_or, or_false, not_true_eq_false, not_false_eq_true, if_true, if_false, ne_eq, ↓reduceIte], ht⟩) (fun _ h => by cases h) d_Rd_beginsRepetition_43
  · refine lv_iload_n Bx.1 Bx.2.1 d_Rd_beginsRepetition_7 rfl (lv_at hl 0 rfl) ?_
    refine f_callSNi (na := 1) (As := [.int (x)]) (rest := []) Bx hml hN (m_Ab_isLetterX l (x)) kw_357 kw_358 kw_1 kw_359 (by decide +kernel) ⟨rfl, rfl⟩ ⟨Nat.le_of_ble_eq_true rfl, Nat.le_of_ble_eq_true rfl⟩ rfl hl.1 (Nat.le_of_ble_eq_true rfl) d_Rd_beginsRepetition_8 ⟨Nat.le_of_ble_eq_true rfl, Nat.le_of_ble_eq_true rfl⟩ (fun r5 hs4 => ?_)
    subst hs4
    refine lv_if_ne Bx.1 Bx.2.1 d_Rd_beginsRepetition_11 rfl (fun hc6 => ?_) (fun hc6 => ?_)
    · refine lv_iconst (v := 1) Bx.1 Bx.2.1 d_Rd_beginsRepetition_38 (by decide) ?_
      refine lv_goto Bx.1 Bx.2.1 d_Rd_beginsRepetition_39 rfl ?_
      exact W.zret (v := 1) hx hb hr rfl (fun t ht hW => ⟨1, rfl, by rw [← bg_raw]; simp only [hc3, hc6, true_and, and_true, false_and, and_false, true_or, or_true, false_or, or_false, not_true_eq_false, not_false_eq_true, if_true, if_false, ne_eq, ↓reduceIte], ht⟩) (fun _ h => by cases h) d_Rd_beginsRepetition_43
    · refine lv_iload_n Bx.1 Bx.2.1 d_Rd_beginsRepetition_14 rfl (lv_at hl 0 rfl) ?_
      refine lv_bipush (v := 40) Bx.1 Bx.2.1 d_Rd_beginsRepetition_15 (by decide) ?_
      refine lv_icmp_eq Bx.1 Bx.2.1 d_Rd_beginsRepetition_17 rfl (fun hc7 => ?_) (fun hc7 => ?_)
      · refine lv_iconst (v := 1) Bx.1 Bx.2.1 d_Rd_beginsRepetition_38 (by decide) ?_
        refine lv_goto Bx.1 Bx.2.1 d_Rd_beginsRepetition_39 rfl ?_
        exact W.zret (v := 1) hx hb hr rfl (fun t ht hW => ⟨1, rfl, by rw [← bg_raw]; simp only [hc3, hc6, hc7, true_and, and_true, false_and, and_false, true_or, or_true, false_or, or_false, not_true_eq_false, not_false_eq_true, if_true, if_false, ne_eq, ↓reduceIte], ht⟩) (fun _ h => by cases h) d_Rd_beginsRepetition_43
      · refine lv_iload_n Bx.1 Bx.2.1 d_Rd_beginsRepetition_20 rfl (lv_at hl 0 rfl) ?_
        refine lv_bipush (v := 91) Bx.1 Bx.2.1 d_Rd_beginsRepetition_21 (by decide) ?_
        refine lv_icmp_eq Bx.1 Bx.2.1 d_Rd_beginsRepetition_23 rfl (fun hc8 => ?_) (fun hc8 => ?_)
        · refine lv_iconst (v := 1) Bx.1 Bx.2.1 d_Rd_beginsRepetition_38 (by decide) ?_
          refine lv_goto Bx.1 Bx.2.1 d_Rd_beginsRepetition_39 rfl ?_
          exact W.zret (v := 1) hx hb hr rfl (fun t ht hW => ⟨1, rfl, by rw [← bg_raw]; simp only [hc3, hc6, hc7, hc8, true_and, and_true, false_and, and_false, true_or, or_true, false_or, or_false, not_true_eq_false, not_false_eq_true, if_true, if_false, ne_eq, ↓reduceIte], ht⟩) (fun _ h => by cases h) d_Rd_beginsRepetition_43
        · refine lv_iload_n Bx.1 Bx.2.1 d_Rd_beginsRepetition_26 rfl (lv_at hl 0 rfl) ?_
          refine lv_bipush (v := 34) Bx.1 Bx.2.1 d_Rd_beginsRepetition_27 (by decide) ?_
          refine lv_icmp_eq Bx.1 Bx.2.1 d_Rd_beginsRepetition_29 rfl (fun hc9 => ?_) (fun hc9 => ?_)
          · refine lv_iconst (v := 1) Bx.1 Bx.2.1 d_Rd_beginsRepetition_38 (by decide) ?_
            refine lv_goto Bx.1 Bx.2.1 d_Rd_beginsRepetition_39 rfl ?_
            exact W.zret (v := 1) hx hb hr rfl (fun t ht hW => ⟨1, rfl, by rw [← bg_raw]; simp only [hc3, hc6, hc7, hc8, hc9, true_and, and_true, false_and, and_false, true_or, or_true, false_or, or_false, not_true_eq_false, not_false_eq_true, if_true, if_false, ne_eq, ↓reduceIte], ht⟩) (fun _ h => by cases h) d_Rd_beginsRepetition_43
          · refine lv_iload_n Bx.1 Bx.2.1 d_Rd_beginsRepetition_32 rfl (lv_at hl 0 rfl) ?_
            refine lv_bipush (v := 37) Bx.1 Bx.2.1 d_Rd_beginsRepetition_33 (by decide) ?_
            refine lv_icmp_ne Bx.1 Bx.2.1 d_Rd_beginsRepetition_35 rfl (fun hc10 => ?_) (fun hc10 => ?_)
            · refine lv_iconst (v := 0) Bx.1 Bx.2.1 d_Rd_beginsRepetition_42 (by decide) ?_
              exact W.zret (v := 0) hx hb hr rfl (fun t ht hW => ⟨0, rfl, by rw [← bg_raw]; simp only [hc3, hc6, hc7, hc8, hc9, hc10, true_and, and_true, false_and, and_false, true_or, or_true, false_or, or_false, not_true_eq_false, not_false_eq_true, if_true, if_false, ne_eq, ↓reduceIte], ht⟩) (fun _ h => by cases h) d_Rd_beginsRepetition_43
            · refine lv_iconst (v := 1) Bx.1 Bx.2.1 d_Rd_beginsRepetition_38 (by decide) ?_
              refine lv_goto Bx.1 Bx.2.1 d_Rd_beginsRepetition_39 rfl ?_
              exact W.zret (v := 1) hx hb hr rfl (fun t ht hW => ⟨1, rfl, by rw [← bg_raw]; simp only [hc3, hc6, hc7, hc8, hc9, hc10, true_and, and_true, false_and, and_false, true_or, or_true, false_or, or_false, not_true_eq_false, not_false_eq_true, if_true, if_false, ne_eq, ↓reduceIte], ht⟩) (fun _ h => by cases h) d_Rd_beginsRepetition_43
set_option maxHeartbeats 4000000 in
set_option maxRecDepth 100000 in
theorem m_Rd_isStringCodeX (l : Launch) (x : Int32) : MS l y_Rd_isStringCode c_Rd_isStringCode 1 (some .boolean) ({ frames := 0, cells := 0, slots := 0, locals := 0 } : Room) [.int (x)] (fun r => r = stC x) := by
  refine Met.ofW (cc := c_Rd_isStringCode) (maxL := 1) (ret := (some .boolean)) (by decide) rfl ?_
  intro p e s m args below meth c s₁ B hml hv
  obtain ⟨rfl, hN⟩ := hv
  have hx := B.exec
  have hb := B.bytes
  have hr := B.returns
  have hlocks := B.notSynchronized
  have Bx : p.tables.exec = Jvm.exec ∧ c.code = c_Rd_isStringCode ∧ (∀ w ∈ TB, w.before [.int (x)].toArray s = true) ∧ s.vm.findClass "AbnfChart$Reader" = some m.cls ∧ True := ⟨hx, hb, tb_all (atoms_spec B.pre) hN, findClass_of_methodNamed B.named, trivial⟩
  have hl := lv_entry ([.int (x)]) (n := 1) (Nat.le_of_ble_eq_true rfl)
  rw [lg_entry_eq]
  generalize (lg_sl ([.int (x)]) ++ List.replicate (1 - (lg_sl ([.int (x)])).length) Slot.unset).toArray = ls at hl ⊢
  have hl : lv_has ls 1 [(0, .int (x))] := hl
  refine lv_iload_n Bx.1 Bx.2.1 d_Rd_isStringCode_0 rfl (lv_at hl 0 rfl) ?_
  refine lv_bipush (v := 32) Bx.1 Bx.2.1 d_Rd_isStringCode_1 (by decide) ?_
  refine lv_icmp_lt Bx.1 Bx.2.1 d_Rd_isStringCode_3 rfl (fun hc1 => ?_) (fun hc1 => ?_)
  · refine lv_iconst (v := 0) Bx.1 Bx.2.1 d_Rd_isStringCode_22 (by decide) ?_
    exact W.zret (v := 0) hx hb hr rfl (fun t ht hW => ⟨0, rfl, by unfold stC; simp only [hc1, true_and, and_true, false_and, and_false, true_or, or_true, false_or, or_false, not_true_eq_false, not_false_eq_true, if_true, if_false, ne_eq, ↓reduceIte], ht⟩) (fun _ h => by cases h) d_Rd_isStringCode_23
  · refine lv_iload_n Bx.1 Bx.2.1 d_Rd_isStringCode_6 rfl (lv_at hl 0 rfl) ?_
    refine lv_bipush (v := 126) Bx.1 Bx.2.1 d_Rd_isStringCode_7 (by decide) ?_
    refine lv_icmp_gt Bx.1 Bx.2.1 d_Rd_isStringCode_9 rfl (fun hc2 => ?_) (fun hc2 => ?_)
    · refine lv_iconst (v := 0) Bx.1 Bx.2.1 d_Rd_isStringCode_22 (by decide) ?_
      exact W.zret (v := 0) hx hb hr rfl (fun t ht hW => ⟨0, rfl, by unfold stC; simp only [hc1, hc2, true_and, and_true, false_and, and_false, true_or, or_true, false_or, or_false, not_true_eq_false, not_false_eq_true, if_true, if_false, ne_eq, ↓reduceIte], ht⟩) (fun _ h => by cases h) d_Rd_isStringCode_23
    · refine lv_iload_n Bx.1 Bx.2.1 d_Rd_isStringCode_12 rfl (lv_at hl 0 rfl) ?_
      refine lv_bipush (v := 34) Bx.1 Bx.2.1 d_Rd_isStringCode_13 (by decide) ?_
      refine lv_icmp_eq Bx.1 Bx.2.1 d_Rd_isStringCode_15 rfl (fun hc3 => ?_) (fun hc3 => ?_)
      · refine lv_iconst (v := 0) Bx.1 Bx.2.1 d_Rd_isStringCode_22 (by decide) ?_
        exact W.zret (v := 0) hx hb hr rfl (fun t ht hW => ⟨0, rfl, by unfold stC; simp only [hc1, hc2, hc3, true_and, and_true, false_and, and_false, true_or, or_true, false_or, or_false, not_true_eq_false, not_false_eq_true, if_true, if_false, ne_eq, ↓reduceIte], ht⟩) (fun _ h => by cases h) d_Rd_isStringCode_23
      · refine lv_iconst (v := 1) Bx.1 Bx.2.1 d_Rd_isStringCode_18 (by decide) ?_
        refine lv_goto Bx.1 Bx.2.1 d_Rd_isStringCode_19 rfl ?_
        exact W.zret (v := 1) hx hb hr rfl (fun t ht hW => ⟨1, rfl, by unfold stC; simp only [hc1, hc2, hc3, true_and, and_true, false_and, and_false, true_or, or_true, false_or, or_false, not_true_eq_false, not_false_eq_true, if_true, if_false, ne_eq, ↓reduceIte], ht⟩) (fun _ h => by cases h) d_Rd_isStringCode_23
set_option maxHeartbeats 4000000 in
set_option maxRecDepth 100000 in
theorem m_Rd_digitOfX (l : Launch) (x y : Int32) : MS l y_Rd_digitOf c_Rd_digitOf 2 (some .int) ({ frames := 0, cells := 0, slots := 0, locals := 0 } : Room) [.int (x), .int (y)] (fun r => r = figF x y) := by
  refine Met.ofW (cc := c_Rd_digitOf) (maxL := 2) (ret := (some .int)) (by decide) rfl ?_
  intro p e s m args below meth c s₁ B hml hv
  obtain ⟨rfl, hN⟩ := hv
  have hx := B.exec
  have hb := B.bytes
  have hr := B.returns
  have hlocks := B.notSynchronized
  have Bx : p.tables.exec = Jvm.exec ∧ c.code = c_Rd_digitOf ∧ (∀ w ∈ TB, w.before [.int (x), .int (y)].toArray s = true) ∧ s.vm.findClass "AbnfChart$Reader" = some m.cls ∧ True := ⟨hx, hb, tb_all (atoms_spec B.pre) hN, findClass_of_methodNamed B.named, trivial⟩
  have hl := lv_entry ([.int (x), .int (y)]) (n := 2) (Nat.le_of_ble_eq_true rfl)
  rw [lg_entry_eq]
  generalize (lg_sl ([.int (x), .int (y)]) ++ List.replicate (2 - (lg_sl ([.int (x), .int (y)])).length) Slot.unset).toArray = ls at hl ⊢
  have hl : lv_has ls 2 [(0, .int (x)), (1, .int (y))] := hl
  refine lv_iload_n Bx.1 Bx.2.1 d_Rd_digitOf_0 rfl (lv_at hl 0 rfl) ?_
  refine lv_bipush (v := 48) Bx.1 Bx.2.1 d_Rd_digitOf_1 (by decide) ?_
  refine lv_icmp_lt Bx.1 Bx.2.1 d_Rd_digitOf_3 rfl (fun hc1 => ?_) (fun hc1 => ?_)
  · refine lv_iload_n Bx.1 Bx.2.1 d_Rd_digitOf_17 rfl (lv_at hl 1 rfl) ?_
    refine lv_bipush (v := 16) Bx.1 Bx.2.1 d_Rd_digitOf_18 (by decide) ?_
    refine lv_icmp_ne Bx.1 Bx.2.1 d_Rd_digitOf_20 rfl (fun hc2 => ?_) (fun hc2 => ?_)
    · refine lv_iload_n Bx.1 Bx.2.1 d_Rd_digitOf_43 rfl (lv_at hl 1 rfl) ?_
      refine lv_bipush (v := 16) Bx.1 Bx.2.1 d_Rd_digitOf_44 (by decide) ?_
      refine lv_icmp_ne Bx.1 Bx.2.1 d_Rd_digitOf_46 rfl (fun hc3 => ?_) (fun hc3 => ?_)
      · refine lv_iconst (v := -1) Bx.1 Bx.2.1 d_Rd_digitOf_71 (by decide) ?_
        exact W.iret (v := (-1)) hx hb hr (fun t ht hW => ⟨(-1), rfl, by first | contradiction | (rw [← rdF_fig]; unfold rdF; simp only [hc1, hc2, hc3, true_and, and_true, false_and, and_false, true_or, or_true, false_or, or_false, not_true_eq_false, not_false_eq_true, if_true, if_false, ne_eq, ↓reduceIte]), ht⟩) (fun _ h => by cases h) d_Rd_digitOf_72
      · refine lv_iload_n Bx.1 Bx.2.1 d_Rd_digitOf_49 rfl (lv_at hl 0 rfl) ?_
        refine lv_bipush (v := 65) Bx.1 Bx.2.1 d_Rd_digitOf_50 (by decide) ?_
        refine lv_icmp_lt Bx.1 Bx.2.1 d_Rd_digitOf_52 rfl (fun hc4 => ?_) (fun hc4 => ?_)
        · refine lv_iconst (v := -1) Bx.1 Bx.2.1 d_Rd_digitOf_71 (by decide) ?_
          exact W.iret (v := (-1)) hx hb hr (fun t ht hW => ⟨(-1), rfl, by first | contradiction | (rw [← rdF_fig]; unfold rdF; simp only [hc1, hc2, hc3, hc4, true_and, and_true, false_and, and_false, true_or, or_true, false_or, or_false, not_true_eq_false, not_false_eq_true, if_true, if_false, ne_eq, ↓reduceIte]), ht⟩) (fun _ h => by cases h) d_Rd_digitOf_72
        · refine lv_iload_n Bx.1 Bx.2.1 d_Rd_digitOf_55 rfl (lv_at hl 0 rfl) ?_
          refine lv_bipush (v := 70) Bx.1 Bx.2.1 d_Rd_digitOf_56 (by decide) ?_
          refine lv_icmp_gt Bx.1 Bx.2.1 d_Rd_digitOf_58 rfl (fun hc5 => ?_) (fun hc5 => ?_)
          · refine lv_iconst (v := -1) Bx.1 Bx.2.1 d_Rd_digitOf_71 (by decide) ?_
            exact W.iret (v := (-1)) hx hb hr (fun t ht hW => ⟨(-1), rfl, by first | contradiction | (rw [← rdF_fig]; unfold rdF; simp only [hc1, hc2, hc3, hc4, hc5, true_and, and_true, false_and, and_false, true_or, or_true, false_or, or_false, not_true_eq_false, not_false_eq_true, if_true, if_false, ne_eq, ↓reduceIte]), ht⟩) (fun _ h => by cases h) d_Rd_digitOf_72
          · refine lv_iload_n Bx.1 Bx.2.1 d_Rd_digitOf_61 rfl (lv_at hl 0 rfl) ?_
            refine lv_bipush (v := 65) Bx.1 Bx.2.1 d_Rd_digitOf_62 (by decide) ?_
            refine lv_isub Bx.1 Bx.2.1 d_Rd_digitOf_64 ?_
            refine lv_bipush (v := 10) Bx.1 Bx.2.1 d_Rd_digitOf_65 (by decide) ?_
            refine lv_iadd Bx.1 Bx.2.1 d_Rd_digitOf_67 ?_
            refine lv_goto Bx.1 Bx.2.1 d_Rd_digitOf_68 rfl ?_
            exact W.iret (v := x - 65 + 10) hx hb hr (fun t ht hW => ⟨x - 65 + 10, rfl, by first | contradiction | (rw [← rdF_fig]; unfold rdF; simp only [hc1, hc2, hc3, hc4, hc5, true_and, and_true, false_and, and_false, true_or, or_true, false_or, or_false, not_true_eq_false, not_false_eq_true, if_true, if_false, ne_eq, ↓reduceIte]), ht⟩) (fun _ h => by cases h) d_Rd_digitOf_72
    · refine lv_iload_n Bx.1 Bx.2.1 d_Rd_digitOf_23 rfl (lv_at hl 0 rfl) ?_
      refine lv_bipush (v := 97) Bx.1 Bx.2.1 d_Rd_digitOf_24 (by decide) ?_
      refine lv_icmp_lt Bx.1 Bx.2.1 d_Rd_digitOf_26 rfl (fun hc6 => ?_) (fun hc6 => ?_)
      · refine lv_iload_n Bx.1 Bx.2.1 d_Rd_digitOf_43 rfl (lv_at hl 1 rfl) ?_
        refine lv_bipush (v := 16) Bx.1 Bx.2.1 d_Rd_digitOf_44 (by decide) ?_
        refine lv_icmp_ne Bx.1 Bx.2.1 d_Rd_digitOf_46 rfl (fun hc7 => ?_) (fun hc7 => ?_)
        · refine lv_iconst (v := -1) Bx.1 Bx.2.1 d_Rd_digitOf_71 (by decide) ?_
          exact W.iret (v := (-1)) hx hb hr (fun t ht hW => ⟨(-1), rfl, by first | contradiction | (rw [← rdF_fig]; unfold rdF; simp only [hc1, hc2, hc6, hc7, true_and, and_true, false_and, and_false, true_or, or_true, false_or, or_false, not_true_eq_false, not_false_eq_true, if_true, if_false, ne_eq, ↓reduceIte]), ht⟩) (fun _ h => by cases h) d_Rd_digitOf_72
        · refine lv_iload_n Bx.1 Bx.2.1 d_Rd_digitOf_49 rfl (lv_at hl 0 rfl) ?_
          refine lv_bipush (v := 65) Bx.1 Bx.2.1 d_Rd_digitOf_50 (by decide) ?_
          refine lv_icmp_lt Bx.1 Bx.2.1 d_Rd_digitOf_52 rfl (fun hc8 => ?_) (fun hc8 => ?_)
          · refine lv_iconst (v := -1) Bx.1 Bx.2.1 d_Rd_digitOf_71 (by decide) ?_
            exact W.iret (v := (-1)) hx hb hr (fun t ht hW => ⟨(-1), rfl, by first | contradiction | (rw [← rdF_fig]; unfold rdF; simp only [hc1, hc2, hc6, hc7, hc8, true_and, and_true, false_and, and_false, true_or, or_true, false_or, or_false, not_true_eq_false, not_false_eq_true, if_true, if_false, ne_eq, ↓reduceIte]), ht⟩) (fun _ h => by cases h) d_Rd_digitOf_72
          · refine lv_iload_n Bx.1 Bx.2.1 d_Rd_digitOf_55 rfl (lv_at hl 0 rfl) ?_
            refine lv_bipush (v := 70) Bx.1 Bx.2.1 d_Rd_digitOf_56 (by decide) ?_
            refine lv_icmp_gt Bx.1 Bx.2.1 d_Rd_digitOf_58 rfl (fun hc9 => ?_) (fun hc9 => ?_)
            · refine lv_iconst (v := -1) Bx.1 Bx.2.1 d_Rd_digitOf_71 (by decide) ?_
              exact W.iret (v := (-1)) hx hb hr (fun t ht hW => ⟨(-1), rfl, by first | contradiction | (rw [← rdF_fig]; unfold rdF; simp only [hc1, hc2, hc6, hc7, hc8, hc9, true_and, and_true, false_and, and_false, true_or, or_true, false_or, or_false, not_true_eq_false, not_false_eq_true, if_true, if_false, ne_eq, ↓reduceIte]), ht⟩) (fun _ h => by cases h) d_Rd_digitOf_72
            · refine lv_iload_n Bx.1 Bx.2.1 d_Rd_digitOf_61 rfl (lv_at hl 0 rfl) ?_
              refine lv_bipush (v := 65) Bx.1 Bx.2.1 d_Rd_digitOf_62 (by decide) ?_
              refine lv_isub Bx.1 Bx.2.1 d_Rd_digitOf_64 ?_
              refine lv_bipush (v := 10) Bx.1 Bx.2.1 d_Rd_digitOf_65 (by decide) ?_
              refine lv_iadd Bx.1 Bx.2.1 d_Rd_digitOf_67 ?_
              refine lv_goto Bx.1 Bx.2.1 d_Rd_digitOf_68 rfl ?_
              exact W.iret (v := x - 65 + 10) hx hb hr (fun t ht hW => ⟨x - 65 + 10, rfl, by first | contradiction | (rw [← rdF_fig]; unfold rdF; simp only [hc1, hc2, hc6, hc7, hc8, hc9, true_and, and_true, false_and, and_false, true_or, or_true, false_or, or_false, not_true_eq_false, not_false_eq_true, if_true, if_false, ne_eq, ↓reduceIte]), ht⟩) (fun _ h => by cases h) d_Rd_digitOf_72
      · refine lv_iload_n Bx.1 Bx.2.1 d_Rd_digitOf_29 rfl (lv_at hl 0 rfl) ?_
        refine lv_bipush (v := 102) Bx.1 Bx.2.1 d_Rd_digitOf_30 (by decide) ?_
        refine lv_icmp_gt Bx.1 Bx.2.1 d_Rd_digitOf_32 rfl (fun hc10 => ?_) (fun hc10 => ?_)
        · refine lv_iload_n Bx.1 Bx.2.1 d_Rd_digitOf_43 rfl (lv_at hl 1 rfl) ?_
          refine lv_bipush (v := 16) Bx.1 Bx.2.1 d_Rd_digitOf_44 (by decide) ?_
          refine lv_icmp_ne Bx.1 Bx.2.1 d_Rd_digitOf_46 rfl (fun hc11 => ?_) (fun hc11 => ?_)
          · refine lv_iconst (v := -1) Bx.1 Bx.2.1 d_Rd_digitOf_71 (by decide) ?_
            exact W.iret (v := (-1)) hx hb hr (fun t ht hW => ⟨(-1), rfl, by first | contradiction | (rw [← rdF_fig]; unfold rdF; simp only [hc1, hc2, hc6, hc10, hc11, true_and, and_true, false_and, and_false, true_or, or_true, false_or, or_false, not_true_eq_false, not_false_eq_true, if_true, if_false, ne_eq, ↓reduceIte]), ht⟩) (fun _ h => by cases h) d_Rd_digitOf_72
          · refine lv_iload_n Bx.1 Bx.2.1 d_Rd_digitOf_49 rfl (lv_at hl 0 rfl) ?_
            refine lv_bipush (v := 65) Bx.1 Bx.2.1 d_Rd_digitOf_50 (by decide) ?_
            refine lv_icmp_lt Bx.1 Bx.2.1 d_Rd_digitOf_52 rfl (fun hc12 => ?_) (fun hc12 => ?_)
            · refine lv_iconst (v := -1) Bx.1 Bx.2.1 d_Rd_digitOf_71 (by decide) ?_
              exact W.iret (v := (-1)) hx hb hr (fun t ht hW => ⟨(-1), rfl, by first | contradiction | (rw [← rdF_fig]; unfold rdF; simp only [hc1, hc2, hc6, hc10, hc11, hc12, true_and, and_true, false_and, and_false, true_or, or_true, false_or, or_false, not_true_eq_false, not_false_eq_true, if_true, if_false, ne_eq, ↓reduceIte]), ht⟩) (fun _ h => by cases h) d_Rd_digitOf_72
            · refine lv_iload_n Bx.1 Bx.2.1 d_Rd_digitOf_55 rfl (lv_at hl 0 rfl) ?_
              refine lv_bipush (v := 70) Bx.1 Bx.2.1 d_Rd_digitOf_56 (by decide) ?_
              refine lv_icmp_gt Bx.1 Bx.2.1 d_Rd_digitOf_58 rfl (fun hc13 => ?_) (fun hc13 => ?_)
              · refine lv_iconst (v := -1) Bx.1 Bx.2.1 d_Rd_digitOf_71 (by decide) ?_
                exact W.iret (v := (-1)) hx hb hr (fun t ht hW => ⟨(-1), rfl, by first | contradiction | (rw [← rdF_fig]; unfold rdF; simp only [hc1, hc2, hc6, hc10, hc11, hc12, hc13, true_and, and_true, false_and, and_false, true_or, or_true, false_or, or_false, not_true_eq_false, not_false_eq_true, if_true, if_false, ne_eq, ↓reduceIte]), ht⟩) (fun _ h => by cases h) d_Rd_digitOf_72
              · refine lv_iload_n Bx.1 Bx.2.1 d_Rd_digitOf_61 rfl (lv_at hl 0 rfl) ?_
                refine lv_bipush (v := 65) Bx.1 Bx.2.1 d_Rd_digitOf_62 (by decide) ?_
                refine lv_isub Bx.1 Bx.2.1 d_Rd_digitOf_64 ?_
                refine lv_bipush (v := 10) Bx.1 Bx.2.1 d_Rd_digitOf_65 (by decide) ?_
                refine lv_iadd Bx.1 Bx.2.1 d_Rd_digitOf_67 ?_
                refine lv_goto Bx.1 Bx.2.1 d_Rd_digitOf_68 rfl ?_
                exact W.iret (v := x - 65 + 10) hx hb hr (fun t ht hW => ⟨x - 65 + 10, rfl, by first | contradiction | (rw [← rdF_fig]; unfold rdF; simp only [hc1, hc2, hc6, hc10, hc11, hc12, hc13, true_and, and_true, false_and, and_false, true_or, or_true, false_or, or_false, not_true_eq_false, not_false_eq_true, if_true, if_false, ne_eq, ↓reduceIte]), ht⟩) (fun _ h => by cases h) d_Rd_digitOf_72
        · refine lv_iload_n Bx.1 Bx.2.1 d_Rd_digitOf_35 rfl (lv_at hl 0 rfl) ?_
          refine lv_bipush (v := 97) Bx.1 Bx.2.1 d_Rd_digitOf_36 (by decide) ?_
          refine lv_isub Bx.1 Bx.2.1 d_Rd_digitOf_38 ?_
          refine lv_bipush (v := 10) Bx.1 Bx.2.1 d_Rd_digitOf_39 (by decide) ?_
          refine lv_iadd Bx.1 Bx.2.1 d_Rd_digitOf_41 ?_
          exact W.iret (v := x - 97 + 10) hx hb hr (fun t ht hW => ⟨x - 97 + 10, rfl, by first | contradiction | (rw [← rdF_fig]; unfold rdF; simp only [hc1, hc2, hc6, hc10, true_and, and_true, false_and, and_false, true_or, or_true, false_or, or_false, not_true_eq_false, not_false_eq_true, if_true, if_false, ne_eq, ↓reduceIte]), ht⟩) (fun _ h => by cases h) d_Rd_digitOf_42
  · refine lv_iload_n Bx.1 Bx.2.1 d_Rd_digitOf_6 rfl (lv_at hl 0 rfl) ?_
    refine lv_bipush (v := 57) Bx.1 Bx.2.1 d_Rd_digitOf_7 (by decide) ?_
    refine lv_icmp_gt Bx.1 Bx.2.1 d_Rd_digitOf_9 rfl (fun hc14 => ?_) (fun hc14 => ?_)
    · refine lv_iload_n Bx.1 Bx.2.1 d_Rd_digitOf_17 rfl (lv_at hl 1 rfl) ?_
      refine lv_bipush (v := 16) Bx.1 Bx.2.1 d_Rd_digitOf_18 (by decide) ?_
      refine lv_icmp_ne Bx.1 Bx.2.1 d_Rd_digitOf_20 rfl (fun hc15 => ?_) (fun hc15 => ?_)
      · refine lv_iload_n Bx.1 Bx.2.1 d_Rd_digitOf_43 rfl (lv_at hl 1 rfl) ?_
        refine lv_bipush (v := 16) Bx.1 Bx.2.1 d_Rd_digitOf_44 (by decide) ?_
        refine lv_icmp_ne Bx.1 Bx.2.1 d_Rd_digitOf_46 rfl (fun hc16 => ?_) (fun hc16 => ?_)
        · refine lv_iconst (v := -1) Bx.1 Bx.2.1 d_Rd_digitOf_71 (by decide) ?_
          exact W.iret (v := (-1)) hx hb hr (fun t ht hW => ⟨(-1), rfl, by first | contradiction | (rw [← rdF_fig]; unfold rdF; simp only [hc1, hc14, hc15, hc16, true_and, and_true, false_and, and_false, true_or, or_true, false_or, or_false, not_true_eq_false, not_false_eq_true, if_true, if_false, ne_eq, ↓reduceIte]), ht⟩) (fun _ h => by cases h) d_Rd_digitOf_72
        · refine lv_iload_n Bx.1 Bx.2.1 d_Rd_digitOf_49 rfl (lv_at hl 0 rfl) ?_
          refine lv_bipush (v := 65) Bx.1 Bx.2.1 d_Rd_digitOf_50 (by decide) ?_
          refine lv_icmp_lt Bx.1 Bx.2.1 d_Rd_digitOf_52 rfl (fun hc17 => ?_) (fun hc17 => ?_)
          · refine lv_iconst (v := -1) Bx.1 Bx.2.1 d_Rd_digitOf_71 (by decide) ?_
            exact W.iret (v := (-1)) hx hb hr (fun t ht hW => ⟨(-1), rfl, by first | contradiction | (rw [← rdF_fig]; unfold rdF; simp only [hc1, hc14, hc15, hc16, hc17, true_and, and_true, false_and, and_false, true_or, or_true, false_or, or_false, not_true_eq_false, not_false_eq_true, if_true, if_false, ne_eq, ↓reduceIte]), ht⟩) (fun _ h => by cases h) d_Rd_digitOf_72
          · refine lv_iload_n Bx.1 Bx.2.1 d_Rd_digitOf_55 rfl (lv_at hl 0 rfl) ?_
            refine lv_bipush (v := 70) Bx.1 Bx.2.1 d_Rd_digitOf_56 (by decide) ?_
            refine lv_icmp_gt Bx.1 Bx.2.1 d_Rd_digitOf_58 rfl (fun hc18 => ?_) (fun hc18 => ?_)
            · refine lv_iconst (v := -1) Bx.1 Bx.2.1 d_Rd_digitOf_71 (by decide) ?_
              exact W.iret (v := (-1)) hx hb hr (fun t ht hW => ⟨(-1), rfl, by first | contradiction | (rw [← rdF_fig]; unfold rdF; simp only [hc1, hc14, hc15, hc16, hc17, hc18, true_and, and_true, false_and, and_false, true_or, or_true, false_or, or_false, not_true_eq_false, not_false_eq_true, if_true, if_false, ne_eq, ↓reduceIte]), ht⟩) (fun _ h => by cases h) d_Rd_digitOf_72
            · refine lv_iload_n Bx.1 Bx.2.1 d_Rd_digitOf_61 rfl (lv_at hl 0 rfl) ?_
              refine lv_bipush (v := 65) Bx.1 Bx.2.1 d_Rd_digitOf_62 (by decide) ?_
              refine lv_isub Bx.1 Bx.2.1 d_Rd_digitOf_64 ?_
              refine lv_bipush (v := 10) Bx.1 Bx.2.1 d_Rd_digitOf_65 (by decide) ?_
              refine lv_iadd Bx.1 Bx.2.1 d_Rd_digitOf_67 ?_
              refine lv_goto Bx.1 Bx.2.1 d_Rd_digitOf_68 rfl ?_
              exact W.iret (v := x - 65 + 10) hx hb hr (fun t ht hW => ⟨x - 65 + 10, rfl, by first | contradiction | (rw [← rdF_fig]; unfold rdF; simp only [hc1, hc14, hc15, hc16, hc17, hc18, true_and, and_true, false_and, and_false, true_or, or_true, false_or, or_false, not_true_eq_false, not_false_eq_true, if_true, if_false, ne_eq, ↓reduceIte]), ht⟩) (fun _ h => by cases h) d_Rd_digitOf_72
      · refine lv_iload_n Bx.1 Bx.2.1 d_Rd_digitOf_23 rfl (lv_at hl 0 rfl) ?_
        refine lv_bipush (v := 97) Bx.1 Bx.2.1 d_Rd_digitOf_24 (by decide) ?_
        refine lv_icmp_lt Bx.1 Bx.2.1 d_Rd_digitOf_26 rfl (fun hc19 => ?_) (fun hc19 => ?_)
        · refine lv_iload_n Bx.1 Bx.2.1 d_Rd_digitOf_43 rfl (lv_at hl 1 rfl) ?_
          refine lv_bipush (v := 16) Bx.1 Bx.2.1 d_Rd_digitOf_44 (by decide) ?_
          refine lv_icmp_ne Bx.1 Bx.2.1 d_Rd_digitOf_46 rfl (fun hc20 => ?_) (fun hc20 => ?_)
          · refine lv_iconst (v := -1) Bx.1 Bx.2.1 d_Rd_digitOf_71 (by decide) ?_
            exact W.iret (v := (-1)) hx hb hr (fun t ht hW => ⟨(-1), rfl, by first | contradiction | (rw [← rdF_fig]; unfold rdF; simp only [hc1, hc14, hc15, hc19, hc20, true_and, and_true, false_and, and_false, true_or, or_true, false_or, or_false, not_true_eq_false, not_false_eq_true, if_true, if_false, ne_eq, ↓reduceIte]), ht⟩) (fun _ h => by cases h) d_Rd_digitOf_72
          · refine lv_iload_n Bx.1 Bx.2.1 d_Rd_digitOf_49 rfl (lv_at hl 0 rfl) ?_
            refine lv_bipush (v := 65) Bx.1 Bx.2.1 d_Rd_digitOf_50 (by decide) ?_
            refine lv_icmp_lt Bx.1 Bx.2.1 d_Rd_digitOf_52 rfl (fun hc21 => ?_) (fun hc21 => ?_)
            · refine lv_iconst (v := -1) Bx.1 Bx.2.1 d_Rd_digitOf_71 (by decide) ?_
              exact W.iret (v := (-1)) hx hb hr (fun t ht hW => ⟨(-1), rfl, by first | contradiction | (rw [← rdF_fig]; unfold rdF; simp only [hc1, hc14, hc15, hc19, hc20, hc21, true_and, and_true, false_and, and_false, true_or, or_true, false_or, or_false, not_true_eq_false, not_false_eq_true, if_true, if_false, ne_eq, ↓reduceIte]), ht⟩) (fun _ h => by cases h) d_Rd_digitOf_72
            · refine lv_iload_n Bx.1 Bx.2.1 d_Rd_digitOf_55 rfl (lv_at hl 0 rfl) ?_
              refine lv_bipush (v := 70) Bx.1 Bx.2.1 d_Rd_digitOf_56 (by decide) ?_
              refine lv_icmp_gt Bx.1 Bx.2.1 d_Rd_digitOf_58 rfl (fun hc22 => ?_) (fun hc22 => ?_)
              · refine lv_iconst (v := -1) Bx.1 Bx.2.1 d_Rd_digitOf_71 (by decide) ?_
                exact W.iret (v := (-1)) hx hb hr (fun t ht hW => ⟨(-1), rfl, by first | contradiction | (rw [← rdF_fig]; unfold rdF; simp only [hc1, hc14, hc15, hc19, hc20, hc21, hc22, true_and, and_true, false_and, and_false, true_or, or_true, false_or, or_false, not_true_eq_false, not_false_eq_true, if_true, if_false, ne_eq, ↓reduceIte]), ht⟩) (fun _ h => by cases h) d_Rd_digitOf_72
              · refine lv_iload_n Bx.1 Bx.2.1 d_Rd_digitOf_61 rfl (lv_at hl 0 rfl) ?_
                refine lv_bipush (v := 65) Bx.1 Bx.2.1 d_Rd_digitOf_62 (by decide) ?_
                refine lv_isub Bx.1 Bx.2.1 d_Rd_digitOf_64 ?_
                refine lv_bipush (v := 10) Bx.1 Bx.2.1 d_Rd_digitOf_65 (by decide) ?_
                refine lv_iadd Bx.1 Bx.2.1 d_Rd_digitOf_67 ?_
                refine lv_goto Bx.1 Bx.2.1 d_Rd_digitOf_68 rfl ?_
                exact W.iret (v := x - 65 + 10) hx hb hr (fun t ht hW => ⟨x - 65 + 10, rfl, by first | contradiction | (rw [← rdF_fig]; unfold rdF; simp only [hc1, hc14, hc15, hc19, hc20, hc21, hc22, true_and, and_true, false_and, and_false, true_or, or_true, false_or, or_false, not_true_eq_false, not_false_eq_true, if_true, if_false, ne_eq, ↓reduceIte]), ht⟩) (fun _ h => by cases h) d_Rd_digitOf_72
        · refine lv_iload_n Bx.1 Bx.2.1 d_Rd_digitOf_29 rfl (lv_at hl 0 rfl) ?_
          refine lv_bipush (v := 102) Bx.1 Bx.2.1 d_Rd_digitOf_30 (by decide) ?_
          refine lv_icmp_gt Bx.1 Bx.2.1 d_Rd_digitOf_32 rfl (fun hc23 => ?_) (fun hc23 => ?_)
          · refine lv_iload_n Bx.1 Bx.2.1 d_Rd_digitOf_43 rfl (lv_at hl 1 rfl) ?_
            refine lv_bipush (v := 16) Bx.1 Bx.2.1 d_Rd_digitOf_44 (by decide) ?_
            refine lv_icmp_ne Bx.1 Bx.2.1 d_Rd_digitOf_46 rfl (fun hc24 => ?_) (fun hc24 => ?_)
            · refine lv_iconst (v := -1) Bx.1 Bx.2.1 d_Rd_digitOf_71 (by decide) ?_
              exact W.iret (v := (-1)) hx hb hr (fun t ht hW => ⟨(-1), rfl, by first | contradiction | (rw [← rdF_fig]; unfold rdF; simp only [hc1, hc14, hc15, hc19, hc23, hc24, true_and, and_true, false_and, and_false, true_or, or_true, false_or, or_false, not_true_eq_false, not_false_eq_true, if_true, if_false, ne_eq, ↓reduceIte]), ht⟩) (fun _ h => by cases h) d_Rd_digitOf_72
            · refine lv_iload_n Bx.1 Bx.2.1 d_Rd_digitOf_49 rfl (lv_at hl 0 rfl) ?_
              refine lv_bipush (v := 65) Bx.1 Bx.2.1 d_Rd_digitOf_50 (by decide) ?_
              refine lv_icmp_lt Bx.1 Bx.2.1 d_Rd_digitOf_52 rfl (fun hc25 => ?_) (fun hc25 => ?_)
              · refine lv_iconst (v := -1) Bx.1 Bx.2.1 d_Rd_digitOf_71 (by decide) ?_
                exact W.iret (v := (-1)) hx hb hr (fun t ht hW => ⟨(-1), rfl, by first | contradiction | (rw [← rdF_fig]; unfold rdF; simp only [hc1, hc14, hc15, hc19, hc23, hc24, hc25, true_and, and_true, false_and, and_false, true_or, or_true, false_or, or_false, not_true_eq_false, not_false_eq_true, if_true, if_false, ne_eq, ↓reduceIte]), ht⟩) (fun _ h => by cases h) d_Rd_digitOf_72
              · refine lv_iload_n Bx.1 Bx.2.1 d_Rd_digitOf_55 rfl (lv_at hl 0 rfl) ?_
                refine lv_bipush (v := 70) Bx.1 Bx.2.1 d_Rd_digitOf_56 (by decide) ?_
                refine lv_icmp_gt Bx.1 Bx.2.1 d_Rd_digitOf_58 rfl (fun hc26 => ?_) (fun hc26 => ?_)
                · refine lv_iconst (v := -1) Bx.1 Bx.2.1 d_Rd_digitOf_71 (by decide) ?_
                  exact W.iret (v := (-1)) hx hb hr (fun t ht hW => ⟨(-1), rfl, by first | contradiction | (rw [← rdF_fig]; unfold rdF; simp only [hc1, hc14, hc15, hc19, hc23, hc24, hc25, hc26, true_and, and_true, false_and, and_false, true_or, or_true, false_or, or_false, not_true_eq_false, not_false_eq_true, if_true, if_false, ne_eq, ↓reduceIte]), ht⟩) (fun _ h => by cases h) d_Rd_digitOf_72
                · refine lv_iload_n Bx.1 Bx.2.1 d_Rd_digitOf_61 rfl (lv_at hl 0 rfl) ?_
                  refine lv_bipush (v := 65) Bx.1 Bx.2.1 d_Rd_digitOf_62 (by decide) ?_
                  refine lv_isub Bx.1 Bx.2.1 d_Rd_digitOf_64 ?_
                  refine lv_bipush (v := 10) Bx.1 Bx.2.1 d_Rd_digitOf_65 (by decide) ?_
                  refine lv_iadd Bx.1 Bx.2.1 d_Rd_digitOf_67 ?_
                  refine lv_goto Bx.1 Bx.2.1 d_Rd_digitOf_68 rfl ?_
                  exact W.iret (v := x - 65 + 10) hx hb hr (fun t ht hW => ⟨x - 65 + 10, rfl, by first | contradiction | (rw [← rdF_fig]; unfold rdF; simp only [hc1, hc14, hc15, hc19, hc23, hc24, hc25, hc26, true_and, and_true, false_and, and_false, true_or, or_true, false_or, or_false, not_true_eq_false, not_false_eq_true, if_true, if_false, ne_eq, ↓reduceIte]), ht⟩) (fun _ h => by cases h) d_Rd_digitOf_72
          · refine lv_iload_n Bx.1 Bx.2.1 d_Rd_digitOf_35 rfl (lv_at hl 0 rfl) ?_
            refine lv_bipush (v := 97) Bx.1 Bx.2.1 d_Rd_digitOf_36 (by decide) ?_
            refine lv_isub Bx.1 Bx.2.1 d_Rd_digitOf_38 ?_
            refine lv_bipush (v := 10) Bx.1 Bx.2.1 d_Rd_digitOf_39 (by decide) ?_
            refine lv_iadd Bx.1 Bx.2.1 d_Rd_digitOf_41 ?_
            exact W.iret (v := x - 97 + 10) hx hb hr (fun t ht hW => ⟨x - 97 + 10, rfl, by first | contradiction | (rw [← rdF_fig]; unfold rdF; simp only [hc1, hc14, hc15, hc19, hc23, true_and, and_true, false_and, and_false, true_or, or_true, false_or, or_false, not_true_eq_false, not_false_eq_true, if_true, if_false, ne_eq, ↓reduceIte]), ht⟩) (fun _ h => by cases h) d_Rd_digitOf_42
    · refine lv_iload_n Bx.1 Bx.2.1 d_Rd_digitOf_12 rfl (lv_at hl 0 rfl) ?_
      refine lv_bipush (v := 48) Bx.1 Bx.2.1 d_Rd_digitOf_13 (by decide) ?_
      refine lv_isub Bx.1 Bx.2.1 d_Rd_digitOf_15 ?_
      exact W.iret (v := x - 48) hx hb hr (fun t ht hW => ⟨x - 48, rfl, by first | contradiction | (rw [← rdF_fig]; unfold rdF; simp only [hc1, hc14, true_and, and_true, false_and, and_false, true_or, or_true, false_or, or_false, not_true_eq_false, not_false_eq_true, if_true, if_false, ne_eq, ↓reduceIte]), ht⟩) (fun _ h => by cases h) d_Rd_digitOf_16
