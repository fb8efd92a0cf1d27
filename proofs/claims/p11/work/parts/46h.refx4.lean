set_option maxHeartbeats 4000000 in
set_option maxRecDepth 100000 in
theorem m_Mo_placedX (l : Launch) {D : va_G} {cy : Nat → ClassId} {sz n : Nat} {ad : Nat → Nat} {mem : Nat → va_E} {J : Nat → Int32} {A : Nat → Nat → Int32} {nm : Nat → Int64} {m0 : Nat → va_E} {Ec R u f e9 : Nat} {fc fs ft : Nat → Nat} (hn : 242 ≤ n) (hM : MW cy ad J A nm m0 mem) (hop : J 18 = nI (f + 1)) (hf : f ≤ 6) (hEb : Ec ≤ 100) (hI : Inv R Ec u f True fc fs ft A (fun _ => False)) (he : e9 < Ec) (hse : fs f < e9) (hrr : A 239 f = -1 ∨ ∃ r, A 239 f = nI r ∧ fs f < r ∧ r < e9) (hC : CL e9 A) : MV l D cy sz n ad y_Mo_placed c_Mo_placed 3 ({ frames := 1, cells := 0, slots := 0, locals := 30 } : Room) mem [.ref (ad 224), .int (nI e9)] (fun mem' => MW cy ad J (plcS A f e9) nm m0 mem' ∧ Inv R Ec u f True fc fs ft (plcS A f e9) (fun _ => False) ∧ plcS A f e9 239 f = -1 ∧ ∀ j, j ≠ 232 → j ≠ 233 → j ≠ 239 → plcS A f e9 j = A j) := by
  refine Met.ofW (cc := c_Mo_placed) (maxL := 3) (ret := none) (by decide) rfl ?_
  intro p e s m args below meth c s₁ B hml hv
  obtain ⟨rfl, E, hP, hD⟩ := hv
  have hx := B.exec
  have hb := B.bytes
  have hr := B.returns
  have hlocks := B.notSynchronized
  have Bx : MB p s m [.ref (ad 224), .int (nI e9)].toArray c c_Mo_placed "AbnfChartModel" D cy := ⟨hx, hb, tb_all (atoms_spec B.pre) E.2.1, findClass_of_methodNamed B.named, E.1⟩
  have hS : va_S (Az sz) s.heap s.heap [] := va_S.rf
  have hl := lv_entry ([.ref (ad 224), .int (nI e9)]) (n := 3) (Nat.le_of_ble_eq_true rfl)
  rw [lg_entry_eq]
  generalize (lg_sl ([.ref (ad 224), .int (nI e9)]) ++ List.replicate (3 - (lg_sl ([.ref (ad 224), .int (nI e9)])).length) Slot.unset).toArray = ls at hl ⊢
  have hl : lv_has ls 3 [(0, .ref (ad 224)), (1, .int (nI e9))] := hl
  have hfr := (hI.2.2.2.2 f (Nat.le_refl _)).2.2.2.1 (Or.inr trivial)
  refine lv_aload_n Bx.1 Bx.2.1 d_Mo_placed_0 rfl (lv_at hl 0 rfl) ?_
  refine f_get Bx hP (by omega) hM.1 rfl inMo 18 (by decide) kw_674 rfl rfl d_Mo_placed_1 ?_
  rw [hop]
  refine lv_iconst (v := 1) Bx.1 Bx.2.1 d_Mo_placed_4 (by decide) ?_
  refine lv_isub Bx.1 Bx.2.1 d_Mo_placed_5 ?_
  rw [show nI (f + 1) - 1 = nI (f) from nI_pred (f)]
  refine lv_istore_n (lv' := [(2, .int (nI (f))), (0, .ref (ad 224)), (1, .int (nI e9))]) Bx.1 Bx.2.1 d_Mo_placed_6 rfl hl (by decide) rfl (fun ls hl => ?_)
  refine lv_aload_n Bx.1 Bx.2.1 d_Mo_placed_7 rfl (lv_at hl 1 rfl) ?_
  refine f_get Bx hP (by omega) hM.1 rfl inMo 23 (by decide) kw_679 rfl rfl d_Mo_placed_8 ?_
  refine lv_iload_n Bx.1 Bx.2.1 d_Mo_placed_11 rfl (lv_at hl 0 rfl) ?_
  refine f_iald Bx hP (by omega) (show mem 239 = .inl (cy 1, 8, .inl (A 239)) from hM.2.2.1 239 (by decide) (by decide) (by decide)) (vp_in_nI (n := f) (by omega) (by decide)) d_Mo_placed_12 ?_
  rw [nI_clamp (n := f) (by omega)]
  rcases hrr with hv | ⟨r, hv, hr1, hr2⟩
  · rw [hv]
    refine lv_if_lt Bx.1 Bx.2.1 d_Mo_placed_13 rfl (fun hb1 => ?_) (fun hb1 => ?_)
    · refine lv_aload_n Bx.1 Bx.2.1 d_Mo_placed_30 rfl (lv_at hl 1 rfl) ?_
      refine lv_aload_n Bx.1 Bx.2.1 d_Mo_placed_31 rfl (lv_at hl 1 rfl) ?_
      refine f_get Bx hP (by omega) hM.1 rfl inMo 22 (by decide) kw_678 rfl rfl d_Mo_placed_32 ?_
      refine lv_iload_n Bx.1 Bx.2.1 d_Mo_placed_35 rfl (lv_at hl 0 rfl) ?_
      refine f_iald Bx hP (by omega) (show mem 238 = .inl (cy 1, 8, .inl (A 238)) from hM.2.2.1 238 (by decide) (by decide) (by decide)) (vp_in_nI (n := f) (by omega) (by decide)) d_Mo_placed_36 ?_
      rw [nI_clamp (n := f) (by omega)]
      rw [hfr.1]
      refine lv_iload_n Bx.1 Bx.2.1 d_Mo_placed_37 rfl (lv_at hl 2 rfl) ?_
      refine f_callVv (na := 2) (As := [.int (nI (fs f)), .int (nI e9)]) (rest := []) Bx hml E hP hD hS (by omega) hM.1 rfl (m_Mo_appendX l hn hM (to := fs f) (pa := e9) hEb hse he hI.1 hC) kw_822 kw_824 sel_Mo_append kw_8 kw_825 (by decide +kernel) ⟨rfl, rfl⟩ ⟨Nat.le_of_ble_eq_true rfl, Nat.le_of_ble_eq_true rfl⟩ rfl hl.1 (Nat.le_of_ble_eq_true rfl) d_Mo_placed_38 ⟨Nat.le_of_ble_eq_true rfl, Nat.le_of_ble_eq_true rfl⟩ (fun mem3 H locs hq hP hS => ?_)
      have hD : va_D (Az sz) (fw n ad mem3) := fw_D hD
      obtain ⟨hW5, hap6⟩ := hq
      obtain ⟨A4, eA4⟩ : ∃ z, z = appS A (fs f) (e9) := ⟨_, rfl⟩
      rw [← eA4] at hW5 hap6
      refine lv_aload_n Bx.1 Bx.2.1 d_Mo_placed_41 rfl (lv_at hl 1 rfl) ?_
      refine f_get Bx hP (by omega) hW5.1 rfl inMo 23 (by decide) kw_679 rfl rfl d_Mo_placed_42 ?_
      refine lv_iload_n Bx.1 Bx.2.1 d_Mo_placed_45 rfl (lv_at hl 0 rfl) ?_
      refine lv_iconst (v := -1) Bx.1 Bx.2.1 d_Mo_placed_46 (by decide) ?_
      refine f_iast (x := (-1)) (i := nI (f)) Bx hP hD hS (by omega) (show mem3 239 = .inl (cy 1, 8, .inl (A4 239)) from hW5.2.2.1 239 (by decide) (by decide) (by decide)) (vp_in_nI (n := f) (by omega) (by decide)) d_Mo_placed_47 (fun H locs hP hS => ?_)
      rw [nI_clamp (n := f) (by omega)] at hP
      obtain ⟨A7, eA7⟩ : ∃ z, z = va_up A4 239 (upd (A4 239) (f) ((-1))) := ⟨_, rfl⟩
      obtain ⟨mem8, e_mem8⟩ : ∃ z, z = va_up mem3 239 (.inl (cy 1, 8, .inl (upd (A4 239) (f) ((-1))))) := ⟨_, rfl⟩
      have hP : va_P D vcl (fw n ad mem8) H := by rw [e_mem8]; exact hP
      have hD : va_D (Az sz) (fw n ad mem8) := fw_D hD
      have hW9 : MW cy ad J A7 nm m0 mem8 := by rw [e_mem8, eA7]; exact hW5.upA (j := 239) (by decide) (by decide) (by decide) (Or.inl (by decide))
      have hpl : plcS A f e9 = A7 := by unfold plcS; rw [hv, if_pos (by decide), hfr.1, nI_clamp (n := fs f) (by omega), ← eA4]; exact eA7.symm
      obtain ⟨hinv, h39⟩ := hI.place hEb hap6 he (by omega) (hfr.2.1) (v := -1) (Or.inl rfl) (X' := fun _ => False) (fun k _ z => z.elim) (fun r hr z => absurd (hv.symm.trans z).symm (nI_m (by omega))) eA7
      have hjj : ∀ j, j ≠ 232 → j ≠ 233 → j ≠ 239 → A7 j = A j := fun j q1 q2 q3 => by
        obtain ⟨_, _, _, k3, _⟩ := hap6.at
        rw [eA7, va_up_ne _ _ q3, k3 j q1 q2]
      exact W.vret hx hb hr (fun t ht hW => ⟨⟨mem8, rfl, by rw [hpl]; exact ⟨hW9, hinv, h39, hjj⟩, by show va_P _ _ _ t.heap; rw [ht]; exact hP⟩, hS.F ht⟩) hS.2.2 d_Mo_placed_48
    · exact absurd hb1 (by decide)
  · rw [hv]
    refine lv_if_lt Bx.1 Bx.2.1 d_Mo_placed_13 rfl (fun hb10 => ?_) (fun hb10 => ?_)
    · exact absurd hb10 (by first | exact nI_pos (by omega) | exact fun q9 => q9 (nI_pos' (by omega)))
    · refine lv_aload_n Bx.1 Bx.2.1 d_Mo_placed_16 rfl (lv_at hl 1 rfl) ?_
      refine lv_aload_n Bx.1 Bx.2.1 d_Mo_placed_17 rfl (lv_at hl 1 rfl) ?_
      refine f_get Bx hP (by omega) hM.1 rfl inMo 23 (by decide) kw_679 rfl rfl d_Mo_placed_18 ?_
      refine lv_iload_n Bx.1 Bx.2.1 d_Mo_placed_21 rfl (lv_at hl 0 rfl) ?_
      refine f_iald Bx hP (by omega) (show mem 239 = .inl (cy 1, 8, .inl (A 239)) from hM.2.2.1 239 (by decide) (by decide) (by decide)) (vp_in_nI (n := f) (by omega) (by decide)) d_Mo_placed_22 ?_
      rw [nI_clamp (n := f) (by omega)]
      rw [hv]
      refine lv_iload_n Bx.1 Bx.2.1 d_Mo_placed_23 rfl (lv_at hl 2 rfl) ?_
      refine f_callVv (na := 2) (As := [.int (nI r), .int (nI e9)]) (rest := []) Bx hml E hP hD hS (by omega) hM.1 rfl (m_Mo_appendX l hn hM (to := r) (pa := e9) hEb (show r < e9 by omega) he hI.1 hC) kw_822 kw_824 sel_Mo_append kw_8 kw_825 (by decide +kernel) ⟨rfl, rfl⟩ ⟨Nat.le_of_ble_eq_true rfl, Nat.le_of_ble_eq_true rfl⟩ rfl hl.1 (Nat.le_of_ble_eq_true rfl) d_Mo_placed_24 ⟨Nat.le_of_ble_eq_true rfl, Nat.le_of_ble_eq_true rfl⟩ (fun mem12 H locs hq hP hS => ?_)
      have hD : va_D (Az sz) (fw n ad mem12) := fw_D hD
      obtain ⟨hW14, hap15⟩ := hq
      obtain ⟨A13, eA13⟩ : ∃ z, z = appS A (r) (e9) := ⟨_, rfl⟩
      rw [← eA13] at hW14 hap15
      refine lv_goto Bx.1 Bx.2.1 d_Mo_placed_27 rfl ?_
      refine lv_aload_n Bx.1 Bx.2.1 d_Mo_placed_41 rfl (lv_at hl 1 rfl) ?_
      refine f_get Bx hP (by omega) hW14.1 rfl inMo 23 (by decide) kw_679 rfl rfl d_Mo_placed_42 ?_
      refine lv_iload_n Bx.1 Bx.2.1 d_Mo_placed_45 rfl (lv_at hl 0 rfl) ?_
      refine lv_iconst (v := -1) Bx.1 Bx.2.1 d_Mo_placed_46 (by decide) ?_
      refine f_iast (x := (-1)) (i := nI (f)) Bx hP hD hS (by omega) (show mem12 239 = .inl (cy 1, 8, .inl (A13 239)) from hW14.2.2.1 239 (by decide) (by decide) (by decide)) (vp_in_nI (n := f) (by omega) (by decide)) d_Mo_placed_47 (fun H locs hP hS => ?_)
      rw [nI_clamp (n := f) (by omega)] at hP
      obtain ⟨A16, eA16⟩ : ∃ z, z = va_up A13 239 (upd (A13 239) (f) ((-1))) := ⟨_, rfl⟩
      obtain ⟨mem17, e_mem17⟩ : ∃ z, z = va_up mem12 239 (.inl (cy 1, 8, .inl (upd (A13 239) (f) ((-1))))) := ⟨_, rfl⟩
      have hP : va_P D vcl (fw n ad mem17) H := by rw [e_mem17]; exact hP
      have hD : va_D (Az sz) (fw n ad mem17) := fw_D hD
      have hW18 : MW cy ad J A16 nm m0 mem17 := by rw [e_mem17, eA16]; exact hW14.upA (j := 239) (by decide) (by decide) (by decide) (Or.inl (by decide))
      have hpl : plcS A f e9 = A16 := by unfold plcS; rw [hv, if_neg (nI_pos (by omega)), nI_clamp (n := r) (by omega), ← eA13]; exact eA16.symm
      obtain ⟨hinv, h39⟩ := hI.place hEb hap15 he (by omega) (by omega) (v := -1) (Or.inl rfl) (X' := fun _ => False) (fun k _ z => z.elim) (fun r2 hr z => (nI_eq (by omega) (by omega)).mp (z.symm.trans hv)) eA16
      have hjj : ∀ j, j ≠ 232 → j ≠ 233 → j ≠ 239 → A16 j = A j := fun j q1 q2 q3 => by
        obtain ⟨_, _, _, k3, _⟩ := hap15.at
        rw [eA16, va_up_ne _ _ q3, k3 j q1 q2]
      exact W.vret hx hb hr (fun t ht hW => ⟨⟨mem17, rfl, by rw [hpl]; exact ⟨hW18, hinv, h39, hjj⟩, by show va_P _ _ _ t.heap; rw [ht]; exact hP⟩, hS.F ht⟩) hS.2.2 d_Mo_placed_48
