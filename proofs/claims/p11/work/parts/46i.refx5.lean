set_option maxHeartbeats 4000000 in
set_option maxRecDepth 100000 in
theorem m_Mo_beginsX (l : Launch) (x : Int32) : MS l y_Mo_begins c_Mo_begins 1 (some .boolean) ({ frames := 2, cells := 0, slots := 0, locals := 60 } : Room) [.int (x)] (fun r => r = if bgF x then 1 else 0) := by
  refine Met.ofW (cc := c_Mo_begins) (maxL := 1) (ret := (some .boolean)) (by decide) rfl ?_
  intro p e s m args below meth c s₁ B hml hv
  obtain ⟨rfl, hN⟩ := hv
  have hx := B.exec
  have hb := B.bytes
  have hr := B.returns
  have hlocks := B.notSynchronized
  have Bx : p.tables.exec = Jvm.exec ∧ c.code = c_Mo_begins ∧ (∀ w ∈ TB, w.before [.int (x)].toArray s = true) ∧ s.vm.findClass "AbnfChartModel" = some m.cls ∧ True := ⟨hx, hb, tb_all (atoms_spec B.pre) hN, findClass_of_methodNamed B.named, trivial⟩
  have hl := lv_entry ([.int (x)]) (n := 1) (Nat.le_of_ble_eq_true rfl)
  rw [lg_entry_eq]
  generalize (lg_sl ([.int (x)]) ++ List.replicate (1 - (lg_sl ([.int (x)])).length) Slot.unset).toArray = ls at hl ⊢
  have hl : lv_has ls 1 [(0, .int (x))] := hl
  refine lv_iload_n Bx.1 Bx.2.1 d_Mo_begins_0 rfl (lv_at hl 0 rfl) ?_
  refine f_callSi (na := 1) (As := [.int (x)]) (rest := []) Bx hml hN (m_Mo_letter l (x)) kw_782 kw_783 kw_8 kw_784 (by decide +kernel) ⟨rfl, rfl⟩ ⟨Nat.le_of_ble_eq_true rfl, Nat.le_of_ble_eq_true rfl⟩ rfl hl.1 (Nat.le_of_ble_eq_true rfl) d_Mo_begins_1 ⟨Nat.le_of_ble_eq_true rfl, Nat.le_of_ble_eq_true rfl⟩ (fun r1 hr1 => ?_)
  subst hr1
  refine lv_if_ne Bx.1 Bx.2.1 d_Mo_begins_4 rfl (fun h4 => ?_) (fun h4 => ?_)
  · refine lv_iconst (v := 1) Bx.1 Bx.2.1 d_Mo_begins_44 (by decide) ?_
    refine lv_goto Bx.1 Bx.2.1 d_Mo_begins_45 rfl ?_
    exact W.zret (v := 1) hx hb hr rfl (fun t ht hW => ⟨1, rfl, by unfold bgF dgF; simp_all, ht⟩) (fun _ h => by cases h) d_Mo_begins_49
  · refine lv_iload_n Bx.1 Bx.2.1 d_Mo_begins_7 rfl (lv_at hl 0 rfl) ?_
    refine f_callSi (na := 1) (As := [.int (x)]) (rest := []) Bx hml hN (m_Mo_digit l (x)) kw_793 kw_794 kw_8 kw_795 (by decide +kernel) ⟨rfl, rfl⟩ ⟨Nat.le_of_ble_eq_true rfl, Nat.le_of_ble_eq_true rfl⟩ rfl hl.1 (Nat.le_of_ble_eq_true rfl) d_Mo_begins_8 ⟨Nat.le_of_ble_eq_true rfl, Nat.le_of_ble_eq_true rfl⟩ (fun r2 hr8 => ?_)
    subst hr8
    refine lv_if_ne Bx.1 Bx.2.1 d_Mo_begins_11 rfl (fun h11 => ?_) (fun h11 => ?_)
    · refine lv_iconst (v := 1) Bx.1 Bx.2.1 d_Mo_begins_44 (by decide) ?_
      refine lv_goto Bx.1 Bx.2.1 d_Mo_begins_45 rfl ?_
      exact W.zret (v := 1) hx hb hr rfl (fun t ht hW => ⟨1, rfl, by unfold bgF dgF; simp_all, ht⟩) (fun _ h => by cases h) d_Mo_begins_49
    · refine lv_iload_n Bx.1 Bx.2.1 d_Mo_begins_14 rfl (lv_at hl 0 rfl) ?_
      refine lv_bipush (v := 42) Bx.1 Bx.2.1 d_Mo_begins_15 (by decide) ?_
      refine lv_icmp_eq Bx.1 Bx.2.1 d_Mo_begins_17 rfl (fun h17 => ?_) (fun h17 => ?_)
      · refine lv_iconst (v := 1) Bx.1 Bx.2.1 d_Mo_begins_44 (by decide) ?_
        refine lv_goto Bx.1 Bx.2.1 d_Mo_begins_45 rfl ?_
        exact W.zret (v := 1) hx hb hr rfl (fun t ht hW => ⟨1, rfl, by unfold bgF dgF; simp_all, ht⟩) (fun _ h => by cases h) d_Mo_begins_49
      · refine lv_iload_n Bx.1 Bx.2.1 d_Mo_begins_20 rfl (lv_at hl 0 rfl) ?_
        refine lv_bipush (v := 40) Bx.1 Bx.2.1 d_Mo_begins_21 (by decide) ?_
        refine lv_icmp_eq Bx.1 Bx.2.1 d_Mo_begins_23 rfl (fun h23 => ?_) (fun h23 => ?_)
        · refine lv_iconst (v := 1) Bx.1 Bx.2.1 d_Mo_begins_44 (by decide) ?_
          refine lv_goto Bx.1 Bx.2.1 d_Mo_begins_45 rfl ?_
          exact W.zret (v := 1) hx hb hr rfl (fun t ht hW => ⟨1, rfl, by unfold bgF dgF; simp_all, ht⟩) (fun _ h => by cases h) d_Mo_begins_49
        · refine lv_iload_n Bx.1 Bx.2.1 d_Mo_begins_26 rfl (lv_at hl 0 rfl) ?_
          refine lv_bipush (v := 91) Bx.1 Bx.2.1 d_Mo_begins_27 (by decide) ?_
          refine lv_icmp_eq Bx.1 Bx.2.1 d_Mo_begins_29 rfl (fun h29 => ?_) (fun h29 => ?_)
          · refine lv_iconst (v := 1) Bx.1 Bx.2.1 d_Mo_begins_44 (by decide) ?_
            refine lv_goto Bx.1 Bx.2.1 d_Mo_begins_45 rfl ?_
            exact W.zret (v := 1) hx hb hr rfl (fun t ht hW => ⟨1, rfl, by unfold bgF dgF; simp_all, ht⟩) (fun _ h => by cases h) d_Mo_begins_49
          · refine lv_iload_n Bx.1 Bx.2.1 d_Mo_begins_32 rfl (lv_at hl 0 rfl) ?_
            refine lv_bipush (v := 34) Bx.1 Bx.2.1 d_Mo_begins_33 (by decide) ?_
            refine lv_icmp_eq Bx.1 Bx.2.1 d_Mo_begins_35 rfl (fun h35 => ?_) (fun h35 => ?_)
            · refine lv_iconst (v := 1) Bx.1 Bx.2.1 d_Mo_begins_44 (by decide) ?_
              refine lv_goto Bx.1 Bx.2.1 d_Mo_begins_45 rfl ?_
              exact W.zret (v := 1) hx hb hr rfl (fun t ht hW => ⟨1, rfl, by unfold bgF dgF; simp_all, ht⟩) (fun _ h => by cases h) d_Mo_begins_49
            · refine lv_iload_n Bx.1 Bx.2.1 d_Mo_begins_38 rfl (lv_at hl 0 rfl) ?_
              refine lv_bipush (v := 37) Bx.1 Bx.2.1 d_Mo_begins_39 (by decide) ?_
              refine lv_icmp_ne Bx.1 Bx.2.1 d_Mo_begins_41 rfl (fun h41 => ?_) (fun h41 => ?_)
              · refine lv_iconst (v := 0) Bx.1 Bx.2.1 d_Mo_begins_48 (by decide) ?_
                exact W.zret (v := 0) hx hb hr rfl (fun t ht hW => ⟨0, rfl, by unfold bgF dgF; simp_all, ht⟩) (fun _ h => by cases h) d_Mo_begins_49
              · refine lv_iconst (v := 1) Bx.1 Bx.2.1 d_Mo_begins_44 (by decide) ?_
                refine lv_goto Bx.1 Bx.2.1 d_Mo_begins_45 rfl ?_
                exact W.zret (v := 1) hx hb hr rfl (fun t ht hW => ⟨1, rfl, by unfold bgF dgF; simp_all, ht⟩) (fun _ h => by cases h) d_Mo_begins_49
set_option maxHeartbeats 4000000 in
set_option maxRecDepth 100000 in
theorem m_Mo_figureX (l : Launch) (x y : Int32) : MS l y_Mo_figure c_Mo_figure 2 (some .int) ({ frames := 2, cells := 0, slots := 0, locals := 60 } : Room) [.int (x), .int (y)] (fun r => r = figF x y) := by
  refine Met.ofW (cc := c_Mo_figure) (maxL := 2) (ret := (some .int)) (by decide) rfl ?_
  intro p e s m args below meth c s₁ B hml hv
  obtain ⟨rfl, hN⟩ := hv
  have hx := B.exec
  have hb := B.bytes
  have hr := B.returns
  have hlocks := B.notSynchronized
  have Bx : p.tables.exec = Jvm.exec ∧ c.code = c_Mo_figure ∧ (∀ w ∈ TB, w.before [.int (x), .int (y)].toArray s = true) ∧ s.vm.findClass "AbnfChartModel" = some m.cls ∧ True := ⟨hx, hb, tb_all (atoms_spec B.pre) hN, findClass_of_methodNamed B.named, trivial⟩
  have hl := lv_entry ([.int (x), .int (y)]) (n := 2) (Nat.le_of_ble_eq_true rfl)
  rw [lg_entry_eq]
  generalize (lg_sl ([.int (x), .int (y)]) ++ List.replicate (2 - (lg_sl ([.int (x), .int (y)])).length) Slot.unset).toArray = ls at hl ⊢
  have hl : lv_has ls 2 [(0, .int (x)), (1, .int (y))] := hl
  refine lv_iload_n Bx.1 Bx.2.1 d_Mo_figure_0 rfl (lv_at hl 0 rfl) ?_
  refine f_callSi (na := 1) (As := [.int (x)]) (rest := []) Bx hml hN (m_Mo_digit l (x)) kw_793 kw_794 kw_8 kw_795 (by decide +kernel) ⟨rfl, rfl⟩ ⟨Nat.le_of_ble_eq_true rfl, Nat.le_of_ble_eq_true rfl⟩ rfl hl.1 (Nat.le_of_ble_eq_true rfl) d_Mo_figure_1 ⟨Nat.le_of_ble_eq_true rfl, Nat.le_of_ble_eq_true rfl⟩ (fun r1 hr1 => ?_)
  subst hr1
  refine lv_if_eq Bx.1 Bx.2.1 d_Mo_figure_4 rfl (fun h4 => ?_) (fun h4 => ?_)
  · refine lv_iload_n Bx.1 Bx.2.1 d_Mo_figure_12 rfl (lv_at hl 1 rfl) ?_
    refine lv_bipush (v := 16) Bx.1 Bx.2.1 d_Mo_figure_13 (by decide) ?_
    refine lv_icmp_ne Bx.1 Bx.2.1 d_Mo_figure_15 rfl (fun h15 => ?_) (fun h15 => ?_)
    · refine lv_iconst (v := -1) Bx.1 Bx.2.1 d_Mo_figure_42 (by decide) ?_
      exact W.iret (v := (-1)) hx hb hr (fun t ht hW => ⟨(-1), rfl, by unfold figF dgF; first | (simp_all; done) | (simp_all; intro q1 q2; exact absurd q2 (Int32.not_le.mpr (h29 q1))), ht⟩) (fun _ h => by cases h) d_Mo_figure_43
    · refine lv_iload_n Bx.1 Bx.2.1 d_Mo_figure_18 rfl (lv_at hl 0 rfl) ?_
      refine f_callSi (na := 1) (As := [.int (x)]) (rest := []) Bx hml hN (m_Mo_small l (x)) kw_796 kw_797 kw_8 kw_798 (by decide +kernel) ⟨rfl, rfl⟩ ⟨Nat.le_of_ble_eq_true rfl, Nat.le_of_ble_eq_true rfl⟩ rfl hl.1 (Nat.le_of_ble_eq_true rfl) d_Mo_figure_19 ⟨Nat.le_of_ble_eq_true rfl, Nat.le_of_ble_eq_true rfl⟩ (fun r2 hr19 => ?_)
      subst hr19
      refine lv_bipush (v := 97) Bx.1 Bx.2.1 d_Mo_figure_22 (by decide) ?_
      refine lv_bipush (v := 102) Bx.1 Bx.2.1 d_Mo_figure_24 (by decide) ?_
      refine f_callSi (na := 3) (As := [.int (smF (x)), .int (97), .int (102)]) (rest := []) Bx hml hN (m_Mo_within l (smF (x)) (97) (102)) kw_754 kw_755 kw_8 kw_756 (by decide +kernel) ⟨rfl, rfl⟩ ⟨Nat.le_of_ble_eq_true rfl, Nat.le_of_ble_eq_true rfl⟩ rfl hl.1 (Nat.le_of_ble_eq_true rfl) d_Mo_figure_26 ⟨Nat.le_of_ble_eq_true rfl, Nat.le_of_ble_eq_true rfl⟩ (fun r3 hr26 => ?_)
      subst hr26
      refine lv_if_eq Bx.1 Bx.2.1 d_Mo_figure_29 rfl (fun h29 => ?_) (fun h29 => ?_)
      · refine lv_iconst (v := -1) Bx.1 Bx.2.1 d_Mo_figure_42 (by decide) ?_
        exact W.iret (v := (-1)) hx hb hr (fun t ht hW => ⟨(-1), rfl, by unfold figF dgF; first | (simp_all; done) | (simp_all; intro q1 q2; exact absurd q2 (Int32.not_le.mpr (h29 q1))), ht⟩) (fun _ h => by cases h) d_Mo_figure_43
      · refine lv_iload_n Bx.1 Bx.2.1 d_Mo_figure_32 rfl (lv_at hl 0 rfl) ?_
        refine f_callSi (na := 1) (As := [.int (x)]) (rest := []) Bx hml hN (m_Mo_small l (x)) kw_796 kw_797 kw_8 kw_798 (by decide +kernel) ⟨rfl, rfl⟩ ⟨Nat.le_of_ble_eq_true rfl, Nat.le_of_ble_eq_true rfl⟩ rfl hl.1 (Nat.le_of_ble_eq_true rfl) d_Mo_figure_33 ⟨Nat.le_of_ble_eq_true rfl, Nat.le_of_ble_eq_true rfl⟩ (fun r4 hr33 => ?_)
        subst hr33
        refine lv_bipush (v := 87) Bx.1 Bx.2.1 d_Mo_figure_36 (by decide) ?_
        refine lv_isub Bx.1 Bx.2.1 d_Mo_figure_38 ?_
        refine lv_goto Bx.1 Bx.2.1 d_Mo_figure_39 rfl ?_
        exact W.iret (v := smF (x) - 87) hx hb hr (fun t ht hW => ⟨smF (x) - 87, rfl, by unfold figF dgF; first | (simp_all; done) | (simp_all; intro q1 q2; exact absurd q2 (Int32.not_le.mpr (h29 q1))), ht⟩) (fun _ h => by cases h) d_Mo_figure_43
  · refine lv_iload_n Bx.1 Bx.2.1 d_Mo_figure_7 rfl (lv_at hl 0 rfl) ?_
    refine lv_bipush (v := 48) Bx.1 Bx.2.1 d_Mo_figure_8 (by decide) ?_
    refine lv_isub Bx.1 Bx.2.1 d_Mo_figure_10 ?_
    exact W.iret (v := x - 48) hx hb hr (fun t ht hW => ⟨x - 48, rfl, by unfold figF dgF; first | (simp_all; done) | (simp_all; intro q1 q2; exact absurd q2 (Int32.not_le.mpr (h29 q1))), ht⟩) (fun _ h => by cases h) d_Mo_figure_11
