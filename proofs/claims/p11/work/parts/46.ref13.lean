theorem wr_ok {k : Int32} {R : Nat} (hb : R ≤ 12) (h : ¬ (if k < 0 ∨ nI R - 1 < k then (0 : Int32) else 1) = 0) : ∃ r0 : Nat, r0 < R ∧ k = nI r0 := by
  have h1 : ¬ k < 0 := fun q => h (if_pos (Or.inl q))
  have h2 : ¬ nI R - 1 < k := fun q => h (if_pos (Or.inr q))
  obtain ⟨j, hj, rfl⟩ := nI_of h1
  rcases R with _ | R
  · exact absurd (by rw [nI_sub1, nI_0m1]; exact m1_lt hj) h2
  · rw [nI_pred] at h2
    exact ⟨j, by
      rcases Nat.lt_or_ge j (R + 1) with q | q
      · exact q
      · exact absurd ((nI_ltI (by omega) hj).mpr (by omega)) h2, rfl⟩
theorem wi_ok {k : Int32} {G : Nat} (hb : G ≤ 24) (h : ¬ (if k < 0 ∨ nI G < k then (0 : Int32) else 1) = 0) : ∃ i0 : Nat, i0 ≤ G ∧ k = nI i0 := by
  have h1 : ¬ k < 0 := fun q => h (if_pos (Or.inl q))
  have h2 : ¬ nI G < k := fun q => h (if_pos (Or.inr q))
  obtain ⟨j, hj, rfl⟩ := nI_of h1
  exact ⟨j, (nI_leI hj (by omega)).mp (Int32.not_lt.mp h2), rfl⟩
set_option maxHeartbeats 4000000 in
set_option maxRecDepth 100000 in
theorem m_Mo_matches (l : Launch) {D : va_G} {cy : Nat → ClassId} {sz n : Nat} {ad : Nat → Nat} {mem : Nat → va_E} {J : Nat → Int32} {A : Nat → Nat → Int32} {nm : Nat → Int64} {m0 : Nat → va_E} {G R Ec u : Nat} {i1 i2 i3 : Int32} (hn : 242 ≤ n) (hM : MW cy ad J A nm m0 mem) (h24 : J 24 = nI G) (hGb : G ≤ 24) (h4 : J 4 = nI R) (h7 : J 7 = nI Ec) (hEb : Ec ≤ 100) (hRb : R ≤ 12) (hub : u ≤ 240) (hGd : Gd R Ec u A) (hng : NoG m0) : MI l D cy sz n ad y_Mo_matches c_Mo_matches 4 (some .boolean) ({ frames := 6, cells := 0, slots := 0, locals := 180 } : Room) mem [.ref (ad 224), .int (i1), .int (i2), .int (i3)] (fun r mem' => ∃ J' A', MW cy ad J' A' nm m0 mem' ∧ (∀ i, i ≠ 0 → i ≠ 26 → J' i = J i) ∧ ∀ j, j ≠ 241 → A' j = A j) := by
  refine Met.ofW (cc := c_Mo_matches) (maxL := 4) (ret := (some .boolean)) (by decide) rfl ?_
  intro p e s m args below meth c s₁ B hml hv
  obtain ⟨rfl, E, hP, hD⟩ := hv
  have hx := B.exec
  have hb := B.bytes
  have hr := B.returns
  have hlocks := B.notSynchronized
  have Bx : MB p s m [.ref (ad 224), .int (i1), .int (i2), .int (i3)].toArray c c_Mo_matches "AbnfChartModel" D cy := ⟨hx, hb, tb_all (atoms_spec B.pre) E.2.1, findClass_of_methodNamed B.named, E.1⟩
  have hS : va_S (Az sz) s.heap s.heap [] := va_S.rf
  have hl := lv_entry ([.ref (ad 224), .int (i1), .int (i2), .int (i3)]) (n := 4) (Nat.le_of_ble_eq_true rfl)
  rw [lg_entry_eq]
  generalize (lg_sl ([.ref (ad 224), .int (i1), .int (i2), .int (i3)]) ++ List.replicate (4 - (lg_sl ([.ref (ad 224), .int (i1), .int (i2), .int (i3)])).length) Slot.unset).toArray = ls at hl ⊢
  have hl : lv_has ls 4 [(0, .ref (ad 224)), (1, .int (i1)), (2, .int (i2)), (3, .int (i3))] := hl
  refine lv_aload_n Bx.1 Bx.2.1 d_Mo_matches_0 rfl (lv_at hl 0 rfl) ?_
  refine lv_iconst (v := 0) Bx.1 Bx.2.1 d_Mo_matches_1 (by decide) ?_
  refine f_put Bx hP hD hS (by omega) hM.1 rfl inMo tyMo okMo nmMo 0 (by decide) kw_656 rfl rfl rfl rfl (Nat.le_of_ble_eq_true rfl) d_Mo_matches_2 (fun H locs hP hS => ?_)
  obtain ⟨J1, eJ1⟩ : ∃ z, z = va_up J 0 (0) := ⟨_, rfl⟩
  obtain ⟨mem2, e_mem2⟩ : ∃ z, z = va_up mem 224 (moC ad J1) := ⟨_, rfl⟩
  have hP : va_P D vcl (fw n ad mem2) H := by rw [e_mem2, eJ1]; exact hP
  have hD : va_D (Az sz) (fw n ad mem2) := fw_D hD
  have hW3 : MW cy ad J1 A nm m0 mem2 := by rw [e_mem2]; exact hM.upJ (by rw [eJ1]; exact va_up_ne _ _ (by decide))
  have kk4 : J1 24 = nI G := by rw [eJ1]; exact h24
  have kk5 : J1 4 = nI R := by rw [eJ1]; exact h4
  have kk6 : J1 7 = nI Ec := by rw [eJ1]; exact h7
  have kk7 : J1 0 = 0 := by rw [eJ1, va_up_self]
  have hJ1 : ∀ i, i ≠ 0 → i ≠ 26 → J1 i = J i := fun i q1 q2 => by rw [eJ1, va_up_ne _ _ q1]
  refine lv_iload_n Bx.1 Bx.2.1 d_Mo_matches_5 rfl (lv_at hl 1 rfl) ?_
  refine lv_iconst (v := 0) Bx.1 Bx.2.1 d_Mo_matches_6 (by decide) ?_
  refine lv_aload_n Bx.1 Bx.2.1 d_Mo_matches_7 rfl (lv_at hl 0 rfl) ?_
  refine f_get Bx hP (by omega) hW3.1 rfl inMo 4 (by decide) kw_660 rfl rfl d_Mo_matches_8 ?_
  rw [kk5]
  refine lv_iconst (v := 1) Bx.1 Bx.2.1 d_Mo_matches_11 (by decide) ?_
  refine lv_isub Bx.1 Bx.2.1 d_Mo_matches_12 ?_
  refine f_callSi (na := 3) (As := [.int (i1), .int (0), .int (nI R - 1)]) (rest := []) Bx hml E.2.1 (m_Mo_within l (i1) (0) (nI R - 1)) kw_754 kw_755 kw_8 kw_756 (by decide +kernel) ⟨rfl, rfl⟩ ⟨Nat.le_of_ble_eq_true rfl, Nat.le_of_ble_eq_true rfl⟩ rfl hl.1 (Nat.le_of_ble_eq_true rfl) d_Mo_matches_13 ⟨Nat.le_of_ble_eq_true rfl, Nat.le_of_ble_eq_true rfl⟩ (fun r9 hs8 => ?_)
  subst hs8
  refine lv_if_ne Bx.1 Bx.2.1 d_Mo_matches_16 rfl (fun hb10 => ?_) (fun hb10 => ?_)
  · obtain ⟨r0, hr0, rfl⟩ := wr_ok hRb hb10
    refine lv_iload_n Bx.1 Bx.2.1 d_Mo_matches_33 rfl (lv_at hl 2 rfl) ?_
    refine lv_if_lt Bx.1 Bx.2.1 d_Mo_matches_34 rfl (fun hb11 => ?_) (fun hb11 => ?_)
    · refine lv_aload_n Bx.1 Bx.2.1 d_Mo_matches_50 rfl (lv_at hl 0 rfl) ?_
      refine lv_iconst (v := 2) Bx.1 Bx.2.1 d_Mo_matches_51 (by decide) ?_
      refine f_callVi (na := 1) (As := [.int (2)]) (rest := []) Bx hml E hP hD hS (by omega) hW3.1 rfl (m_Mo_fail l hn (J := J1) hW3.1) kw_757 kw_759 sel_Mo_fail kw_8 kw_760 (by decide +kernel) ⟨rfl, rfl⟩ ⟨Nat.le_of_ble_eq_true rfl, Nat.le_of_ble_eq_true rfl⟩ rfl hl.1 (Nat.le_of_ble_eq_true rfl) d_Mo_matches_52 ⟨Nat.le_of_ble_eq_true rfl, Nat.le_of_ble_eq_true rfl⟩ (fun r12 mem13 H locs hq hP hS => ?_)
      have hD : va_D (Az sz) (fw n ad mem13) := fw_D hD
      obtain ⟨hq0, hq⟩ := hq
      subst hq0
      obtain ⟨J14, eJ14⟩ : ∃ z, z = va_up J1 0 (2) := ⟨_, rfl⟩
      have hW15 : MW cy ad J14 A nm m0 mem13 := by rw [hq, eJ14]; exact hW3.upJ (va_up_ne _ _ (by decide))
      have hJ16 : ∀ i, i ≠ 0 → i ≠ 26 → J14 i = J i := fun i q1 q2 => by rw [eJ14, va_up_ne _ _ q1]; exact hJ1 i q1 q2
      refine lv_if_le Bx.1 Bx.2.1 d_Mo_matches_55 rfl (fun hb17 => ?_) (fun hb17 => ?_)
      · refine lv_iconst (v := 0) Bx.1 Bx.2.1 d_Mo_matches_62 (by decide) ?_
        exact W.zret (v := 0) hx hb hr rfl (fun t ht hW => ⟨⟨0, mem13, rfl, ⟨J14, A, hW15, hJ16, (fun _ _ => rfl)⟩, by show va_P _ _ _ t.heap; rw [ht]; exact hP⟩, hS.F ht⟩) hS.2.2 d_Mo_matches_63
      · exact absurd hb17 (by decide)
    · refine lv_iload_n Bx.1 Bx.2.1 d_Mo_matches_37 rfl (lv_at hl 3 rfl) ?_
      refine lv_iload_n Bx.1 Bx.2.1 d_Mo_matches_38 rfl (lv_at hl 2 rfl) ?_
      refine lv_icmp_lt Bx.1 Bx.2.1 d_Mo_matches_39 rfl (fun hb18 => ?_) (fun hb18 => ?_)
      · refine lv_aload_n Bx.1 Bx.2.1 d_Mo_matches_50 rfl (lv_at hl 0 rfl) ?_
        refine lv_iconst (v := 2) Bx.1 Bx.2.1 d_Mo_matches_51 (by decide) ?_
        refine f_callVi (na := 1) (As := [.int (2)]) (rest := []) Bx hml E hP hD hS (by omega) hW3.1 rfl (m_Mo_fail l hn (J := J1) hW3.1) kw_757 kw_759 sel_Mo_fail kw_8 kw_760 (by decide +kernel) ⟨rfl, rfl⟩ ⟨Nat.le_of_ble_eq_true rfl, Nat.le_of_ble_eq_true rfl⟩ rfl hl.1 (Nat.le_of_ble_eq_true rfl) d_Mo_matches_52 ⟨Nat.le_of_ble_eq_true rfl, Nat.le_of_ble_eq_true rfl⟩ (fun r19 mem20 H locs hq hP hS => ?_)
        have hD : va_D (Az sz) (fw n ad mem20) := fw_D hD
        obtain ⟨hq0, hq⟩ := hq
        subst hq0
        obtain ⟨J21, eJ21⟩ : ∃ z, z = va_up J1 0 (2) := ⟨_, rfl⟩
        have hW22 : MW cy ad J21 A nm m0 mem20 := by rw [hq, eJ21]; exact hW3.upJ (va_up_ne _ _ (by decide))
        have hJ23 : ∀ i, i ≠ 0 → i ≠ 26 → J21 i = J i := fun i q1 q2 => by rw [eJ21, va_up_ne _ _ q1]; exact hJ1 i q1 q2
        refine lv_if_le Bx.1 Bx.2.1 d_Mo_matches_55 rfl (fun hb24 => ?_) (fun hb24 => ?_)
        · refine lv_iconst (v := 0) Bx.1 Bx.2.1 d_Mo_matches_62 (by decide) ?_
          exact W.zret (v := 0) hx hb hr rfl (fun t ht hW => ⟨⟨0, mem20, rfl, ⟨J21, A, hW22, hJ23, (fun _ _ => rfl)⟩, by show va_P _ _ _ t.heap; rw [ht]; exact hP⟩, hS.F ht⟩) hS.2.2 d_Mo_matches_63
        · exact absurd hb24 (by decide)
      · refine lv_iload_n Bx.1 Bx.2.1 d_Mo_matches_42 rfl (lv_at hl 3 rfl) ?_
        refine lv_aload_n Bx.1 Bx.2.1 d_Mo_matches_43 rfl (lv_at hl 0 rfl) ?_
        refine f_get Bx hP (by omega) hW3.1 rfl inMo 24 (by decide) kw_680 rfl rfl d_Mo_matches_44 ?_
        rw [kk4]
        refine lv_icmp_le Bx.1 Bx.2.1 d_Mo_matches_47 rfl (fun hb25 => ?_) (fun hb25 => ?_)
        · obtain ⟨i0, hi0, rfl⟩ := pc_ok hGb hb11 hb18 hb25
          refine lv_aload_n Bx.1 Bx.2.1 d_Mo_matches_64 rfl (lv_at hl 0 rfl) ?_
          refine lv_iload_n Bx.1 Bx.2.1 d_Mo_matches_65 rfl (lv_at hl 1 rfl) ?_
          refine lv_iload_n Bx.1 Bx.2.1 d_Mo_matches_66 rfl (lv_at hl 2 rfl) ?_
          refine f_callVi (na := 2) (As := [.int (nI r0), .int (nI i0)]) (rest := []) Bx hml E hP hD hS (by omega) hW3.1 rfl (m_Mo_endsOf l hn hW3 kk4 hGb kk6 hEb hRb hub (hGd.congr (fun _ _ => rfl)) hng hr0 hi0) kw_878 kw_880 sel_Mo_endsOf kw_8 kw_881 (by decide +kernel) ⟨rfl, rfl⟩ ⟨Nat.le_of_ble_eq_true rfl, Nat.le_of_ble_eq_true rfl⟩ rfl hl.1 (Nat.le_of_ble_eq_true rfl) d_Mo_matches_67 ⟨Nat.le_of_ble_eq_true rfl, Nat.le_of_ble_eq_true rfl⟩ (fun r26 mem27 H locs hq hP hS => ?_)
          have hD : va_D (Az sz) (fw n ad mem27) := fw_D hD
          obtain ⟨J28, A29, hW30, hJ31, hA32⟩ := hq
          have hJ33 : ∀ i, i ≠ 0 → i ≠ 26 → J28 i = J i := fun i q1 q2 => (hJ31 i q2).trans (hJ1 i q1 q2)
          have hA34 : ∀ j, j ≠ 241 → A29 j = A j := fun j q1 => (hA32 j q1).trans ((fun _ _ => rfl) j q1)
          have kk35 : J28 24 = nI G := (hJ31 24 (by decide)).trans kk4
          have kk36 : J28 4 = nI R := (hJ31 4 (by decide)).trans kk5
          have kk37 : J28 7 = nI Ec := (hJ31 7 (by decide)).trans kk6
          refine lv_iload_n Bx.1 Bx.2.1 d_Mo_matches_70 rfl (lv_at hl 3 rfl) ?_
          refine lv_ishr Bx.1 Bx.2.1 d_Mo_matches_71 ?_
          refine lv_iconst (v := 1) Bx.1 Bx.2.1 d_Mo_matches_72 (by decide) ?_
          refine lv_iand Bx.1 Bx.2.1 d_Mo_matches_73 ?_
          refine lv_iconst (v := 1) Bx.1 Bx.2.1 d_Mo_matches_74 (by decide) ?_
          refine lv_icmp_ne Bx.1 Bx.2.1 d_Mo_matches_75 rfl (fun hb38 => ?_) (fun hb38 => ?_)
          · refine lv_iconst (v := 0) Bx.1 Bx.2.1 d_Mo_matches_82 (by decide) ?_
            exact W.zret (v := 0) hx hb hr rfl (fun t ht hW => ⟨⟨0, mem27, rfl, ⟨J28, A29, hW30, hJ33, hA34⟩, by show va_P _ _ _ t.heap; rw [ht]; exact hP⟩, hS.F ht⟩) hS.2.2 d_Mo_matches_83
          · refine lv_iconst (v := 1) Bx.1 Bx.2.1 d_Mo_matches_78 (by decide) ?_
            refine lv_goto Bx.1 Bx.2.1 d_Mo_matches_79 rfl ?_
            exact W.zret (v := 1) hx hb hr rfl (fun t ht hW => ⟨⟨1, mem27, rfl, ⟨J28, A29, hW30, hJ33, hA34⟩, by show va_P _ _ _ t.heap; rw [ht]; exact hP⟩, hS.F ht⟩) hS.2.2 d_Mo_matches_83
        · refine lv_aload_n Bx.1 Bx.2.1 d_Mo_matches_50 rfl (lv_at hl 0 rfl) ?_
          refine lv_iconst (v := 2) Bx.1 Bx.2.1 d_Mo_matches_51 (by decide) ?_
          refine f_callVi (na := 1) (As := [.int (2)]) (rest := []) Bx hml E hP hD hS (by omega) hW3.1 rfl (m_Mo_fail l hn (J := J1) hW3.1) kw_757 kw_759 sel_Mo_fail kw_8 kw_760 (by decide +kernel) ⟨rfl, rfl⟩ ⟨Nat.le_of_ble_eq_true rfl, Nat.le_of_ble_eq_true rfl⟩ rfl hl.1 (Nat.le_of_ble_eq_true rfl) d_Mo_matches_52 ⟨Nat.le_of_ble_eq_true rfl, Nat.le_of_ble_eq_true rfl⟩ (fun r39 mem40 H locs hq hP hS => ?_)
          have hD : va_D (Az sz) (fw n ad mem40) := fw_D hD
          obtain ⟨hq0, hq⟩ := hq
          subst hq0
          obtain ⟨J41, eJ41⟩ : ∃ z, z = va_up J1 0 (2) := ⟨_, rfl⟩
          have hW42 : MW cy ad J41 A nm m0 mem40 := by rw [hq, eJ41]; exact hW3.upJ (va_up_ne _ _ (by decide))
          have hJ43 : ∀ i, i ≠ 0 → i ≠ 26 → J41 i = J i := fun i q1 q2 => by rw [eJ41, va_up_ne _ _ q1]; exact hJ1 i q1 q2
          refine lv_if_le Bx.1 Bx.2.1 d_Mo_matches_55 rfl (fun hb44 => ?_) (fun hb44 => ?_)
          · refine lv_iconst (v := 0) Bx.1 Bx.2.1 d_Mo_matches_62 (by decide) ?_
            exact W.zret (v := 0) hx hb hr rfl (fun t ht hW => ⟨⟨0, mem40, rfl, ⟨J41, A, hW42, hJ43, (fun _ _ => rfl)⟩, by show va_P _ _ _ t.heap; rw [ht]; exact hP⟩, hS.F ht⟩) hS.2.2 d_Mo_matches_63
          · exact absurd hb44 (by decide)
  · refine lv_aload_n Bx.1 Bx.2.1 d_Mo_matches_19 rfl (lv_at hl 0 rfl) ?_
    refine lv_iconst (v := 1) Bx.1 Bx.2.1 d_Mo_matches_20 (by decide) ?_
    refine f_callVi (na := 1) (As := [.int (1)]) (rest := []) Bx hml E hP hD hS (by omega) hW3.1 rfl (m_Mo_fail l hn (J := J1) hW3.1) kw_757 kw_759 sel_Mo_fail kw_8 kw_760 (by decide +kernel) ⟨rfl, rfl⟩ ⟨Nat.le_of_ble_eq_true rfl, Nat.le_of_ble_eq_true rfl⟩ rfl hl.1 (Nat.le_of_ble_eq_true rfl) d_Mo_matches_21 ⟨Nat.le_of_ble_eq_true rfl, Nat.le_of_ble_eq_true rfl⟩ (fun r45 mem46 H locs hq hP hS => ?_)
    have hD : va_D (Az sz) (fw n ad mem46) := fw_D hD
    obtain ⟨hq0, hq⟩ := hq
    subst hq0
    obtain ⟨J47, eJ47⟩ : ∃ z, z = va_up J1 0 (1) := ⟨_, rfl⟩
    have hW48 : MW cy ad J47 A nm m0 mem46 := by rw [hq, eJ47]; exact hW3.upJ (va_up_ne _ _ (by decide))
    have hJ49 : ∀ i, i ≠ 0 → i ≠ 26 → J47 i = J i := fun i q1 q2 => by rw [eJ47, va_up_ne _ _ q1]; exact hJ1 i q1 q2
    refine lv_if_le Bx.1 Bx.2.1 d_Mo_matches_24 rfl (fun hb50 => ?_) (fun hb50 => ?_)
    · refine lv_iconst (v := 0) Bx.1 Bx.2.1 d_Mo_matches_31 (by decide) ?_
      exact W.zret (v := 0) hx hb hr rfl (fun t ht hW => ⟨⟨0, mem46, rfl, ⟨J47, A, hW48, hJ49, (fun _ _ => rfl)⟩, by show va_P _ _ _ t.heap; rw [ht]; exact hP⟩, hS.F ht⟩) hS.2.2 d_Mo_matches_32
    · exact absurd hb50 (by decide)
set_option maxHeartbeats 4000000 in
set_option maxRecDepth 100000 in
theorem m_Mo_longest (l : Launch) {D : va_G} {cy : Nat → ClassId} {sz n : Nat} {ad : Nat → Nat} {mem : Nat → va_E} {J : Nat → Int32} {A : Nat → Nat → Int32} {nm : Nat → Int64} {m0 : Nat → va_E} {G R Ec u : Nat} {i1 i2 : Int32} (hn : 242 ≤ n) (hM : MW cy ad J A nm m0 mem) (h24 : J 24 = nI G) (hGb : G ≤ 24) (h4 : J 4 = nI R) (h7 : J 7 = nI Ec) (hEb : Ec ≤ 100) (hRb : R ≤ 12) (hub : u ≤ 240) (hGd : Gd R Ec u A) (hng : NoG m0) : MI l D cy sz n ad y_Mo_longest c_Mo_longest 5 (some .int) ({ frames := 6, cells := 0, slots := 0, locals := 180 } : Room) mem [.ref (ad 224), .int (i1), .int (i2)] (fun r mem' => ∃ J' A', MW cy ad J' A' nm m0 mem' ∧ (∀ i, i ≠ 0 → i ≠ 26 → J' i = J i) ∧ ∀ j, j ≠ 241 → A' j = A j) := by
  refine Met.ofW (cc := c_Mo_longest) (maxL := 5) (ret := (some .int)) (by decide) rfl ?_
  intro p e s m args below meth c s₁ B hml hv
  obtain ⟨rfl, E, hP, hD⟩ := hv
  have hx := B.exec
  have hb := B.bytes
  have hr := B.returns
  have hlocks := B.notSynchronized
  have Bx : MB p s m [.ref (ad 224), .int (i1), .int (i2)].toArray c c_Mo_longest "AbnfChartModel" D cy := ⟨hx, hb, tb_all (atoms_spec B.pre) E.2.1, findClass_of_methodNamed B.named, E.1⟩
  have hS : va_S (Az sz) s.heap s.heap [] := va_S.rf
  have hl := lv_entry ([.ref (ad 224), .int (i1), .int (i2)]) (n := 5) (Nat.le_of_ble_eq_true rfl)
  rw [lg_entry_eq]
  generalize (lg_sl ([.ref (ad 224), .int (i1), .int (i2)]) ++ List.replicate (5 - (lg_sl ([.ref (ad 224), .int (i1), .int (i2)])).length) Slot.unset).toArray = ls at hl ⊢
  have hl : lv_has ls 5 [(0, .ref (ad 224)), (1, .int (i1)), (2, .int (i2))] := hl
  refine lv_aload_n Bx.1 Bx.2.1 d_Mo_longest_0 rfl (lv_at hl 0 rfl) ?_
  refine lv_iconst (v := 0) Bx.1 Bx.2.1 d_Mo_longest_1 (by decide) ?_
  refine f_put Bx hP hD hS (by omega) hM.1 rfl inMo tyMo okMo nmMo 0 (by decide) kw_656 rfl rfl rfl rfl (Nat.le_of_ble_eq_true rfl) d_Mo_longest_2 (fun H locs hP hS => ?_)
  obtain ⟨J1, eJ1⟩ : ∃ z, z = va_up J 0 (0) := ⟨_, rfl⟩
  obtain ⟨mem2, e_mem2⟩ : ∃ z, z = va_up mem 224 (moC ad J1) := ⟨_, rfl⟩
  have hP : va_P D vcl (fw n ad mem2) H := by rw [e_mem2, eJ1]; exact hP
  have hD : va_D (Az sz) (fw n ad mem2) := fw_D hD
  have hW3 : MW cy ad J1 A nm m0 mem2 := by rw [e_mem2]; exact hM.upJ (by rw [eJ1]; exact va_up_ne _ _ (by decide))
  have kk4 : J1 24 = nI G := by rw [eJ1]; exact h24
  have kk5 : J1 4 = nI R := by rw [eJ1]; exact h4
  have kk6 : J1 7 = nI Ec := by rw [eJ1]; exact h7
  have kk7 : J1 0 = 0 := by rw [eJ1, va_up_self]
  have hJ1 : ∀ i, i ≠ 0 → i ≠ 26 → J1 i = J i := fun i q1 q2 => by rw [eJ1, va_up_ne _ _ q1]
  refine lv_iload_n Bx.1 Bx.2.1 d_Mo_longest_5 rfl (lv_at hl 1 rfl) ?_
  refine lv_iconst (v := 0) Bx.1 Bx.2.1 d_Mo_longest_6 (by decide) ?_
  refine lv_aload_n Bx.1 Bx.2.1 d_Mo_longest_7 rfl (lv_at hl 0 rfl) ?_
  refine f_get Bx hP (by omega) hW3.1 rfl inMo 4 (by decide) kw_660 rfl rfl d_Mo_longest_8 ?_
  rw [kk5]
  refine lv_iconst (v := 1) Bx.1 Bx.2.1 d_Mo_longest_11 (by decide) ?_
  refine lv_isub Bx.1 Bx.2.1 d_Mo_longest_12 ?_
  refine f_callSi (na := 3) (As := [.int (i1), .int (0), .int (nI R - 1)]) (rest := []) Bx hml E.2.1 (m_Mo_within l (i1) (0) (nI R - 1)) kw_754 kw_755 kw_8 kw_756 (by decide +kernel) ⟨rfl, rfl⟩ ⟨Nat.le_of_ble_eq_true rfl, Nat.le_of_ble_eq_true rfl⟩ rfl hl.1 (Nat.le_of_ble_eq_true rfl) d_Mo_longest_13 ⟨Nat.le_of_ble_eq_true rfl, Nat.le_of_ble_eq_true rfl⟩ (fun r9 hs8 => ?_)
  subst hs8
  refine lv_if_ne Bx.1 Bx.2.1 d_Mo_longest_16 rfl (fun hb10 => ?_) (fun hb10 => ?_)
  · obtain ⟨r0, hr0, rfl⟩ := wr_ok hRb hb10
    refine lv_iload_n Bx.1 Bx.2.1 d_Mo_longest_25 rfl (lv_at hl 2 rfl) ?_
    refine lv_iconst (v := 0) Bx.1 Bx.2.1 d_Mo_longest_26 (by decide) ?_
    refine lv_aload_n Bx.1 Bx.2.1 d_Mo_longest_27 rfl (lv_at hl 0 rfl) ?_
    refine f_get Bx hP (by omega) hW3.1 rfl inMo 24 (by decide) kw_680 rfl rfl d_Mo_longest_28 ?_
    rw [kk4]
    refine f_callSi (na := 3) (As := [.int (i2), .int (0), .int (nI G)]) (rest := []) Bx hml E.2.1 (m_Mo_within l (i2) (0) (nI G)) kw_754 kw_755 kw_8 kw_756 (by decide +kernel) ⟨rfl, rfl⟩ ⟨Nat.le_of_ble_eq_true rfl, Nat.le_of_ble_eq_true rfl⟩ rfl hl.1 (Nat.le_of_ble_eq_true rfl) d_Mo_longest_31 ⟨Nat.le_of_ble_eq_true rfl, Nat.le_of_ble_eq_true rfl⟩ (fun r12 hs11 => ?_)
    subst hs11
    refine lv_if_ne Bx.1 Bx.2.1 d_Mo_longest_34 rfl (fun hb13 => ?_) (fun hb13 => ?_)
    · obtain ⟨i0, hi0, rfl⟩ := wi_ok hGb hb13
      refine lv_iconst (v := -1) Bx.1 Bx.2.1 d_Mo_longest_43 (by decide) ?_
      refine lv_istore_n (lv' := [(3, .int ((-1))), (0, .ref (ad 224)), (1, .int (nI r0)), (2, .int (nI i0))]) Bx.1 Bx.2.1 d_Mo_longest_44 rfl hl (by decide) rfl (fun ls hl => ?_)
      refine lv_iload_n Bx.1 Bx.2.1 d_Mo_longest_45 rfl (lv_at hl 3 rfl) ?_
      refine lv_istore (lv' := [(4, .int (nI i0)), (3, .int ((-1))), (0, .ref (ad 224)), (1, .int (nI r0)), (2, .int (nI i0))]) Bx.1 Bx.2.1 d_Mo_longest_46 hl (by decide) rfl (fun ls hl => ?_)
      have loop14 : ∀ (d15 : Nat) (mem9 : Nat → va_E) (J9 : Nat → Int32) (A9 : Nat → Nat → Int32) (k : Nat) (be : Int32) (ls : Array Slot) (H : Heap) (locs : List Loc), (G + 1 - k < d15) → (MW cy ad J9 A9 nm m0 mem9) → ((∀ i, i ≠ 0 → i ≠ 26 → J9 i = J i) ∧ ∀ j, j ≠ 241 → A9 j = A j) → (k ≤ G + 1) → (va_P D vcl (fw n ad mem9) H) → (va_D (Az sz) (fw n ad mem9)) → (va_S (Az sz) s.heap H locs) → (lv_has ls 5 [(4, .int (nI k)), (3, .int (be)), (0, .ref (ad 224)), (1, .int (nI r0)), (2, .int (nI i0))]) → W p l e (headSpec (Cond.code y_Mo_longest c_Mo_longest 5 (some .int) :: tg) ({ frames := 6, cells := 0, slots := 0, locals := 180 } : Room)).room s m [.ref (ad 224), .int (nI r0), .int (nI i0)].toArray below meth c H locs 0 0 (MQ below (va_Qi (fun r mem' => ∃ J' A', MW cy ad J' A' nm m0 mem' ∧ (∀ i, i ≠ 0 → i ≠ 26 → J' i = J i) ∧ ∀ j, j ≠ 241 → A' j = A j) (PP D n ad) (Az sz)) [.ref (ad 224), .int (nI r0), .int (nI i0)].toArray s 0 0 (Az sz)) (F0 m 48 ls []) := by
        intro d15
        induction d15 with
        | zero => intro mem9 J9 A9 k be ls H locs hmeas20; exact absurd hmeas20 (Nat.not_lt_zero _)
        | succ d15 ih19 =>
          intro mem9 J9 A9 k be ls H locs hmeas20 hz16 hz17 hz18 hP hD hS hl
          have A9k24 : J9 24 = nI G := (hz17.1 24 (by decide) (by decide)).trans h24
          have A9k7 : J9 7 = nI Ec := (hz17.1 7 (by decide) (by decide)).trans h7
          have A9k4 : J9 4 = nI R := (hz17.1 4 (by decide) (by decide)).trans h4
          refine lv_iload Bx.1 Bx.2.1 d_Mo_longest_48 (lv_at hl 0 rfl) ?_
          refine lv_aload_n Bx.1 Bx.2.1 d_Mo_longest_50 rfl (lv_at hl 2 rfl) ?_
          refine f_get Bx hP (by omega) hz16.1 rfl inMo 24 (by decide) kw_680 rfl rfl d_Mo_longest_51 ?_
          rw [A9k24]
          refine lv_icmp_gt Bx.1 Bx.2.1 d_Mo_longest_54 rfl (fun hb21 => ?_) (fun hb21 => ?_)
          · have hN22 : G < k := (nI_ltI (by omega) (by omega)).mp (show nI (G) < nI (k) from hb21)
            refine lv_iload_n Bx.1 Bx.2.1 d_Mo_longest_85 rfl (lv_at hl 1 rfl) ?_
            exact W.iret (v := be) hx hb hr (fun t ht hW => ⟨⟨be, mem9, rfl, ⟨J9, A9, hz16, hz17.1, hz17.2⟩, by show va_P _ _ _ t.heap; rw [ht]; exact hP⟩, hS.F ht⟩) hS.2.2 d_Mo_longest_86
          · have hN23 : ¬ G < k := fun q9 => hb21 (show nI (G) < nI (k) from (nI_ltI (by omega) (by omega)).mpr q9)
            refine lv_aload_n Bx.1 Bx.2.1 d_Mo_longest_57 rfl (lv_at hl 2 rfl) ?_
            refine lv_iload_n Bx.1 Bx.2.1 d_Mo_longest_58 rfl (lv_at hl 3 rfl) ?_
            refine lv_iload_n Bx.1 Bx.2.1 d_Mo_longest_59 rfl (lv_at hl 4 rfl) ?_
            refine f_callVi (na := 2) (As := [.int (nI r0), .int (nI i0)]) (rest := []) Bx hml E hP hD hS (by omega) hz16.1 rfl (m_Mo_endsOf l hn hz16 A9k24 hGb A9k7 hEb hRb hub (hGd.congr hz17.2) hng hr0 hi0) kw_878 kw_880 sel_Mo_endsOf kw_8 kw_881 (by decide +kernel) ⟨rfl, rfl⟩ ⟨Nat.le_of_ble_eq_true rfl, Nat.le_of_ble_eq_true rfl⟩ rfl hl.1 (Nat.le_of_ble_eq_true rfl) d_Mo_longest_60 ⟨Nat.le_of_ble_eq_true rfl, Nat.le_of_ble_eq_true rfl⟩ (fun r24 mem25 H locs hq hP hS => ?_)
            have hD : va_D (Az sz) (fw n ad mem25) := fw_D hD
            obtain ⟨J26, A27, hW28, hJ29, hA30⟩ := hq
            have hJ31 : ∀ i, i ≠ 0 → i ≠ 26 → J26 i = J i := fun i q1 q2 => (hJ29 i q2).trans (hz17.1 i q1 q2)
            have hA32 : ∀ j, j ≠ 241 → A27 j = A j := fun j q1 => (hA30 j q1).trans (hz17.2 j q1)
            have kk33 : J26 24 = nI G := (hJ29 24 (by decide)).trans A9k24
            have kk34 : J26 7 = nI Ec := (hJ29 7 (by decide)).trans A9k7
            have kk35 : J26 4 = nI R := (hJ29 4 (by decide)).trans A9k4
            refine lv_iload Bx.1 Bx.2.1 d_Mo_longest_63 (lv_at hl 0 rfl) ?_
            refine lv_ishr Bx.1 Bx.2.1 d_Mo_longest_65 ?_
            refine lv_iconst (v := 1) Bx.1 Bx.2.1 d_Mo_longest_66 (by decide) ?_
            refine lv_iand Bx.1 Bx.2.1 d_Mo_longest_67 ?_
            refine lv_iconst (v := 1) Bx.1 Bx.2.1 d_Mo_longest_68 (by decide) ?_
            refine lv_icmp_ne Bx.1 Bx.2.1 d_Mo_longest_69 rfl (fun hb36 => ?_) (fun hb36 => ?_)
            · refine lv_iload_n Bx.1 Bx.2.1 d_Mo_longest_77 rfl (lv_at hl 1 rfl) ?_
              refine lv_istore_n (lv' := [(3, .int (be)), (4, .int (nI k)), (0, .ref (ad 224)), (1, .int (nI r0)), (2, .int (nI i0))]) Bx.1 Bx.2.1 d_Mo_longest_78 rfl hl (by decide) rfl (fun ls hl => ?_)
              refine lv_iinc (lv' := [(4, .int ((nI k + (1)))), (3, .int (be)), (0, .ref (ad 224)), (1, .int (nI r0)), (2, .int (nI i0))]) Bx.1 Bx.2.1 d_Mo_longest_79 hl (k := 1) rfl rfl (by decide) rfl (fun ls hl => ?_)
              rw [show (nI k + (1) : Int32) = nI (k + 1) from nI_1 (k)] at hl
              refine lv_goto Bx.1 Bx.2.1 d_Mo_longest_82 rfl ?_
              exact ih19 mem25 (J26) (A27) (k + 1) (be) _ _ _ (by have := hmeas20; omega) (hW28) (⟨hJ31, hA32⟩) (by omega) hP hD hS (lv_sub hl [0, 1, 2, 3, 4] rfl)
            · refine lv_iload Bx.1 Bx.2.1 d_Mo_longest_72 (lv_at hl 0 rfl) ?_
              refine lv_goto Bx.1 Bx.2.1 d_Mo_longest_74 rfl ?_
              refine lv_istore_n (lv' := [(3, .int (nI k)), (4, .int (nI k)), (0, .ref (ad 224)), (1, .int (nI r0)), (2, .int (nI i0))]) Bx.1 Bx.2.1 d_Mo_longest_78 rfl hl (by decide) rfl (fun ls hl => ?_)
              refine lv_iinc (lv' := [(4, .int ((nI k + (1)))), (3, .int (nI k)), (0, .ref (ad 224)), (1, .int (nI r0)), (2, .int (nI i0))]) Bx.1 Bx.2.1 d_Mo_longest_79 hl (k := 1) rfl rfl (by decide) rfl (fun ls hl => ?_)
              rw [show (nI k + (1) : Int32) = nI (k + 1) from nI_1 (k)] at hl
              refine lv_goto Bx.1 Bx.2.1 d_Mo_longest_82 rfl ?_
              exact ih19 mem25 (J26) (A27) (k + 1) (nI k) _ _ _ (by have := hmeas20; omega) (hW28) (⟨hJ31, hA32⟩) (by omega) hP hD hS (lv_sub hl [0, 1, 2, 3, 4] rfl)
      exact loop14 _ mem2 (J1) (A) (i0) (-1) _ _ _ (Nat.lt_succ_self _) (hW3) (⟨hJ1, (fun _ _ => rfl)⟩) (by omega) hP hD hS (lv_sub hl [0, 1, 2, 3, 4] rfl)
    · refine lv_aload_n Bx.1 Bx.2.1 d_Mo_longest_37 rfl (lv_at hl 0 rfl) ?_
      refine lv_iconst (v := 2) Bx.1 Bx.2.1 d_Mo_longest_38 (by decide) ?_
      refine f_callVi (na := 1) (As := [.int (2)]) (rest := []) Bx hml E hP hD hS (by omega) hW3.1 rfl (m_Mo_fail l hn (J := J1) hW3.1) kw_757 kw_759 sel_Mo_fail kw_8 kw_760 (by decide +kernel) ⟨rfl, rfl⟩ ⟨Nat.le_of_ble_eq_true rfl, Nat.le_of_ble_eq_true rfl⟩ rfl hl.1 (Nat.le_of_ble_eq_true rfl) d_Mo_longest_39 ⟨Nat.le_of_ble_eq_true rfl, Nat.le_of_ble_eq_true rfl⟩ (fun r37 mem38 H locs hq hP hS => ?_)
      have hD : va_D (Az sz) (fw n ad mem38) := fw_D hD
      obtain ⟨hq0, hq⟩ := hq
      subst hq0
      obtain ⟨J39, eJ39⟩ : ∃ z, z = va_up J1 0 (2) := ⟨_, rfl⟩
      have hW40 : MW cy ad J39 A nm m0 mem38 := by rw [hq, eJ39]; exact hW3.upJ (va_up_ne _ _ (by decide))
      have hJ41 : ∀ i, i ≠ 0 → i ≠ 26 → J39 i = J i := fun i q1 q2 => by rw [eJ39, va_up_ne _ _ q1]; exact hJ1 i q1 q2
      exact W.iret (v := 0) hx hb hr (fun t ht hW => ⟨⟨0, mem38, rfl, ⟨J39, A, hW40, hJ41, (fun _ _ => rfl)⟩, by show va_P _ _ _ t.heap; rw [ht]; exact hP⟩, hS.F ht⟩) hS.2.2 d_Mo_longest_42
  · refine lv_aload_n Bx.1 Bx.2.1 d_Mo_longest_19 rfl (lv_at hl 0 rfl) ?_
    refine lv_iconst (v := 1) Bx.1 Bx.2.1 d_Mo_longest_20 (by decide) ?_
    refine f_callVi (na := 1) (As := [.int (1)]) (rest := []) Bx hml E hP hD hS (by omega) hW3.1 rfl (m_Mo_fail l hn (J := J1) hW3.1) kw_757 kw_759 sel_Mo_fail kw_8 kw_760 (by decide +kernel) ⟨rfl, rfl⟩ ⟨Nat.le_of_ble_eq_true rfl, Nat.le_of_ble_eq_true rfl⟩ rfl hl.1 (Nat.le_of_ble_eq_true rfl) d_Mo_longest_21 ⟨Nat.le_of_ble_eq_true rfl, Nat.le_of_ble_eq_true rfl⟩ (fun r42 mem43 H locs hq hP hS => ?_)
    have hD : va_D (Az sz) (fw n ad mem43) := fw_D hD
    obtain ⟨hq0, hq⟩ := hq
    subst hq0
    obtain ⟨J44, eJ44⟩ : ∃ z, z = va_up J1 0 (1) := ⟨_, rfl⟩
    have hW45 : MW cy ad J44 A nm m0 mem43 := by rw [hq, eJ44]; exact hW3.upJ (va_up_ne _ _ (by decide))
    have hJ46 : ∀ i, i ≠ 0 → i ≠ 26 → J44 i = J i := fun i q1 q2 => by rw [eJ44, va_up_ne _ _ q1]; exact hJ1 i q1 q2
    exact W.iret (v := 0) hx hb hr (fun t ht hW => ⟨⟨0, mem43, rfl, ⟨J44, A, hW45, hJ46, (fun _ _ => rfl)⟩, by show va_P _ _ _ t.heap; rw [ht]; exact hP⟩, hS.F ht⟩) hS.2.2 d_Mo_longest_24
set_option maxHeartbeats 4000000 in
set_option maxRecDepth 100000 in
theorem m_Mo_pieces (l : Launch) {D : va_G} {cy : Nat → ClassId} {sz n : Nat} {ad : Nat → Nat} {mem : Nat → va_E} {J : Nat → Int32} {A : Nat → Nat → Int32} {nm : Nat → Int64} {m0 : Nat → va_E} {G R Ec u : Nat} {i1 : Int32} (hn : 242 ≤ n) (hM : MW cy ad J A nm m0 mem) (h24 : J 24 = nI G) (hGb : G ≤ 24) (h4 : J 4 = nI R) (h7 : J 7 = nI Ec) (hEb : Ec ≤ 100) (hRb : R ≤ 12) (hub : u ≤ 240) (hGd : Gd R Ec u A) (hng : NoG m0) : MI l D cy sz n ad y_Mo_pieces c_Mo_pieces 5 (some .int) ({ frames := 6, cells := 0, slots := 0, locals := 180 } : Room) mem [.ref (ad 224), .int (i1)] (fun r mem' => ∃ J' A', MW cy ad J' A' nm m0 mem' ∧ (∀ i, i ≠ 0 → i ≠ 26 → J' i = J i) ∧ ∀ j, j ≠ 241 → A' j = A j) := by
  refine Met.ofW (cc := c_Mo_pieces) (maxL := 5) (ret := (some .int)) (by decide) rfl ?_
  intro p e s m args below meth c s₁ B hml hv
  obtain ⟨rfl, E, hP, hD⟩ := hv
  have hx := B.exec
  have hb := B.bytes
  have hr := B.returns
  have hlocks := B.notSynchronized
  have Bx : MB p s m [.ref (ad 224), .int (i1)].toArray c c_Mo_pieces "AbnfChartModel" D cy := ⟨hx, hb, tb_all (atoms_spec B.pre) E.2.1, findClass_of_methodNamed B.named, E.1⟩
  have hS : va_S (Az sz) s.heap s.heap [] := va_S.rf
  have hl := lv_entry ([.ref (ad 224), .int (i1)]) (n := 5) (Nat.le_of_ble_eq_true rfl)
  rw [lg_entry_eq]
  generalize (lg_sl ([.ref (ad 224), .int (i1)]) ++ List.replicate (5 - (lg_sl ([.ref (ad 224), .int (i1)])).length) Slot.unset).toArray = ls at hl ⊢
  have hl : lv_has ls 5 [(0, .ref (ad 224)), (1, .int (i1))] := hl
  refine lv_aload_n Bx.1 Bx.2.1 d_Mo_pieces_0 rfl (lv_at hl 0 rfl) ?_
  refine lv_iconst (v := 0) Bx.1 Bx.2.1 d_Mo_pieces_1 (by decide) ?_
  refine f_put Bx hP hD hS (by omega) hM.1 rfl inMo tyMo okMo nmMo 0 (by decide) kw_656 rfl rfl rfl rfl (Nat.le_of_ble_eq_true rfl) d_Mo_pieces_2 (fun H locs hP hS => ?_)
  obtain ⟨J1, eJ1⟩ : ∃ z, z = va_up J 0 (0) := ⟨_, rfl⟩
  obtain ⟨mem2, e_mem2⟩ : ∃ z, z = va_up mem 224 (moC ad J1) := ⟨_, rfl⟩
  have hP : va_P D vcl (fw n ad mem2) H := by rw [e_mem2, eJ1]; exact hP
  have hD : va_D (Az sz) (fw n ad mem2) := fw_D hD
  have hW3 : MW cy ad J1 A nm m0 mem2 := by rw [e_mem2]; exact hM.upJ (by rw [eJ1]; exact va_up_ne _ _ (by decide))
  have kk4 : J1 24 = nI G := by rw [eJ1]; exact h24
  have kk5 : J1 4 = nI R := by rw [eJ1]; exact h4
  have kk6 : J1 7 = nI Ec := by rw [eJ1]; exact h7
  have kk7 : J1 0 = 0 := by rw [eJ1, va_up_self]
  have hJ1 : ∀ i, i ≠ 0 → i ≠ 26 → J1 i = J i := fun i q1 q2 => by rw [eJ1, va_up_ne _ _ q1]
  refine lv_iload_n Bx.1 Bx.2.1 d_Mo_pieces_5 rfl (lv_at hl 1 rfl) ?_
  refine lv_iconst (v := 0) Bx.1 Bx.2.1 d_Mo_pieces_6 (by decide) ?_
  refine lv_aload_n Bx.1 Bx.2.1 d_Mo_pieces_7 rfl (lv_at hl 0 rfl) ?_
  refine f_get Bx hP (by omega) hW3.1 rfl inMo 4 (by decide) kw_660 rfl rfl d_Mo_pieces_8 ?_
  rw [kk5]
  refine lv_iconst (v := 1) Bx.1 Bx.2.1 d_Mo_pieces_11 (by decide) ?_
  refine lv_isub Bx.1 Bx.2.1 d_Mo_pieces_12 ?_
  refine f_callSi (na := 3) (As := [.int (i1), .int (0), .int (nI R - 1)]) (rest := []) Bx hml E.2.1 (m_Mo_within l (i1) (0) (nI R - 1)) kw_754 kw_755 kw_8 kw_756 (by decide +kernel) ⟨rfl, rfl⟩ ⟨Nat.le_of_ble_eq_true rfl, Nat.le_of_ble_eq_true rfl⟩ rfl hl.1 (Nat.le_of_ble_eq_true rfl) d_Mo_pieces_13 ⟨Nat.le_of_ble_eq_true rfl, Nat.le_of_ble_eq_true rfl⟩ (fun r9 hs8 => ?_)
  subst hs8
  refine lv_if_ne Bx.1 Bx.2.1 d_Mo_pieces_16 rfl (fun hb10 => ?_) (fun hb10 => ?_)
  · obtain ⟨r0, hr0, rfl⟩ := wr_ok hRb hb10
    refine lv_iconst (v := 0) Bx.1 Bx.2.1 d_Mo_pieces_25 (by decide) ?_
    refine lv_istore_n (lv' := [(2, .int (0)), (0, .ref (ad 224)), (1, .int (nI r0))]) Bx.1 Bx.2.1 d_Mo_pieces_26 rfl hl (by decide) rfl (fun ls hl => ?_)
    refine lv_iconst (v := 0) Bx.1 Bx.2.1 d_Mo_pieces_27 (by decide) ?_
    refine lv_istore_n (lv' := [(3, .int (0)), (2, .int (0)), (0, .ref (ad 224)), (1, .int (nI r0))]) Bx.1 Bx.2.1 d_Mo_pieces_28 rfl hl (by decide) rfl (fun ls hl => ?_)
    have loop11 : ∀ (d12 : Nat) (mem9 : Nat → va_E) (J9 : Nat → Int32) (A9 : Nat → Nat → Int32) (ii : Nat) (t1 : Int32) (ls : Array Slot) (H : Heap) (locs : List Loc), (G + 1 - ii < d12) → (MW cy ad J9 A9 nm m0 mem9) → ((∀ i, i ≠ 0 → i ≠ 26 → J9 i = J i) ∧ ∀ j, j ≠ 241 → A9 j = A j) → (ii ≤ G + 1) → (va_P D vcl (fw n ad mem9) H) → (va_D (Az sz) (fw n ad mem9)) → (va_S (Az sz) s.heap H locs) → (lv_has ls 5 [(3, .int (nI ii)), (2, .int (t1)), (0, .ref (ad 224)), (1, .int (nI r0))]) → W p l e (headSpec (Cond.code y_Mo_pieces c_Mo_pieces 5 (some .int) :: tg) ({ frames := 6, cells := 0, slots := 0, locals := 180 } : Room)).room s m [.ref (ad 224), .int (nI r0)].toArray below meth c H locs 0 0 (MQ below (va_Qi (fun r mem' => ∃ J' A', MW cy ad J' A' nm m0 mem' ∧ (∀ i, i ≠ 0 → i ≠ 26 → J' i = J i) ∧ ∀ j, j ≠ 241 → A' j = A j) (PP D n ad) (Az sz)) [.ref (ad 224), .int (nI r0)].toArray s 0 0 (Az sz)) (F0 m 29 ls []) := by
      intro d12
      induction d12 with
      | zero => intro mem9 J9 A9 ii t1 ls H locs hmeas17; exact absurd hmeas17 (Nat.not_lt_zero _)
      | succ d12 ih16 =>
        intro mem9 J9 A9 ii t1 ls H locs hmeas17 hz13 hz14 hz15 hP hD hS hl
        have A9k24 : J9 24 = nI G := (hz14.1 24 (by decide) (by decide)).trans h24
        have A9k7 : J9 7 = nI Ec := (hz14.1 7 (by decide) (by decide)).trans h7
        have A9k4 : J9 4 = nI R := (hz14.1 4 (by decide) (by decide)).trans h4
        refine lv_iload_n Bx.1 Bx.2.1 d_Mo_pieces_29 rfl (lv_at hl 0 rfl) ?_
        refine lv_aload_n Bx.1 Bx.2.1 d_Mo_pieces_30 rfl (lv_at hl 2 rfl) ?_
        refine f_get Bx hP (by omega) hz13.1 rfl inMo 24 (by decide) kw_680 rfl rfl d_Mo_pieces_31 ?_
        rw [A9k24]
        refine lv_icmp_gt Bx.1 Bx.2.1 d_Mo_pieces_34 rfl (fun hb18 => ?_) (fun hb18 => ?_)
        · have hN19 : G < ii := (nI_ltI (by omega) (by omega)).mp (show nI (G) < nI (ii) from hb18)
          refine lv_iload_n Bx.1 Bx.2.1 d_Mo_pieces_75 rfl (lv_at hl 1 rfl) ?_
          exact W.iret (v := t1) hx hb hr (fun t ht hW => ⟨⟨t1, mem9, rfl, ⟨J9, A9, hz13, hz14.1, hz14.2⟩, by show va_P _ _ _ t.heap; rw [ht]; exact hP⟩, hS.F ht⟩) hS.2.2 d_Mo_pieces_76
        · have hN20 : ¬ G < ii := fun q9 => hb18 (show nI (G) < nI (ii) from (nI_ltI (by omega) (by omega)).mpr q9)
          have hii : ii ≤ G := by omega
          refine lv_iload_n Bx.1 Bx.2.1 d_Mo_pieces_37 rfl (lv_at hl 0 rfl) ?_
          refine lv_istore (lv' := [(4, .int (nI ii)), (3, .int (nI ii)), (2, .int (t1)), (0, .ref (ad 224)), (1, .int (nI r0))]) Bx.1 Bx.2.1 d_Mo_pieces_38 hl (by decide) rfl (fun ls hl => ?_)
          have loop21 : ∀ (d22 : Nat) (mem10 : Nat → va_E) (J10 : Nat → Int32) (A10 : Nat → Nat → Int32) (jj : Nat) (t2 : Int32) (ls : Array Slot) (H : Heap) (locs : List Loc), (G + 1 - jj < d22) → (MW cy ad J10 A10 nm m0 mem10) → ((∀ i, i ≠ 0 → i ≠ 26 → J10 i = J i) ∧ ∀ j, j ≠ 241 → A10 j = A j) → (jj ≤ G + 1) → (va_P D vcl (fw n ad mem10) H) → (va_D (Az sz) (fw n ad mem10)) → (va_S (Az sz) s.heap H locs) → (lv_has ls 5 [(4, .int (nI jj)), (3, .int (nI ii)), (2, .int (t2)), (0, .ref (ad 224)), (1, .int (nI r0))]) → W p l e (headSpec (Cond.code y_Mo_pieces c_Mo_pieces 5 (some .int) :: tg) ({ frames := 6, cells := 0, slots := 0, locals := 180 } : Room)).room s m [.ref (ad 224), .int (nI r0)].toArray below meth c H locs 0 0 (MQ below (va_Qi (fun r mem' => ∃ J' A', MW cy ad J' A' nm m0 mem' ∧ (∀ i, i ≠ 0 → i ≠ 26 → J' i = J i) ∧ ∀ j, j ≠ 241 → A' j = A j) (PP D n ad) (Az sz)) [.ref (ad 224), .int (nI r0)].toArray s 0 0 (Az sz)) (F0 m 40 ls []) := by
            intro d22
            induction d22 with
            | zero => intro mem10 J10 A10 jj t2 ls H locs hmeas27; exact absurd hmeas27 (Nat.not_lt_zero _)
            | succ d22 ih26 =>
              intro mem10 J10 A10 jj t2 ls H locs hmeas27 hz23 hz24 hz25 hP hD hS hl
              have A10k24 : J10 24 = nI G := (hz24.1 24 (by decide) (by decide)).trans h24
              have A10k7 : J10 7 = nI Ec := (hz24.1 7 (by decide) (by decide)).trans h7
              have A10k4 : J10 4 = nI R := (hz24.1 4 (by decide) (by decide)).trans h4
              refine lv_iload Bx.1 Bx.2.1 d_Mo_pieces_40 (lv_at hl 0 rfl) ?_
              refine lv_aload_n Bx.1 Bx.2.1 d_Mo_pieces_42 rfl (lv_at hl 3 rfl) ?_
              refine f_get Bx hP (by omega) hz23.1 rfl inMo 24 (by decide) kw_680 rfl rfl d_Mo_pieces_43 ?_
              rw [A10k24]
              refine lv_icmp_gt Bx.1 Bx.2.1 d_Mo_pieces_46 rfl (fun hb28 => ?_) (fun hb28 => ?_)
              · have hN29 : G < jj := (nI_ltI (by omega) (by omega)).mp (show nI (G) < nI (jj) from hb28)
                refine lv_iinc (lv' := [(3, .int ((nI ii + (1)))), (4, .int (nI jj)), (2, .int (t2)), (0, .ref (ad 224)), (1, .int (nI r0))]) Bx.1 Bx.2.1 d_Mo_pieces_69 hl (k := 1) rfl rfl (by decide) rfl (fun ls hl => ?_)
                rw [show (nI ii + (1) : Int32) = nI (ii + 1) from nI_1 (ii)] at hl
                refine lv_goto Bx.1 Bx.2.1 d_Mo_pieces_72 rfl ?_
                exact ih16 mem10 (J10) (A10) (ii + 1) (t2) _ _ _ (by have := hmeas17; omega) (hz23) (⟨hz24.1, hz24.2⟩) (by omega) hP hD hS (lv_sub hl [0, 2, 3, 4] rfl)
              · have hN30 : ¬ G < jj := fun q9 => hb28 (show nI (G) < nI (jj) from (nI_ltI (by omega) (by omega)).mpr q9)
                refine lv_iload_n Bx.1 Bx.2.1 d_Mo_pieces_49 rfl (lv_at hl 2 rfl) ?_
                refine lv_aload_n Bx.1 Bx.2.1 d_Mo_pieces_50 rfl (lv_at hl 3 rfl) ?_
                refine lv_iload_n Bx.1 Bx.2.1 d_Mo_pieces_51 rfl (lv_at hl 4 rfl) ?_
                refine lv_iload_n Bx.1 Bx.2.1 d_Mo_pieces_52 rfl (lv_at hl 1 rfl) ?_
                refine f_callVi (na := 2) (As := [.int (nI r0), .int (nI ii)]) (rest := [.int (t2)]) Bx hml E hP hD hS (by omega) hz23.1 rfl (m_Mo_endsOf l hn hz23 A10k24 hGb A10k7 hEb hRb hub (hGd.congr hz24.2) hng hr0 hii) kw_878 kw_880 sel_Mo_endsOf kw_8 kw_881 (by decide +kernel) ⟨rfl, rfl⟩ ⟨Nat.le_of_ble_eq_true rfl, Nat.le_of_ble_eq_true rfl⟩ rfl hl.1 (Nat.le_of_ble_eq_true rfl) d_Mo_pieces_53 ⟨Nat.le_of_ble_eq_true rfl, Nat.le_of_ble_eq_true rfl⟩ (fun r31 mem32 H locs hq hP hS => ?_)
                have hD : va_D (Az sz) (fw n ad mem32) := fw_D hD
                obtain ⟨J33, A34, hW35, hJ36, hA37⟩ := hq
                have hJ38 : ∀ i, i ≠ 0 → i ≠ 26 → J33 i = J i := fun i q1 q2 => (hJ36 i q2).trans (hz24.1 i q1 q2)
                have hA39 : ∀ j, j ≠ 241 → A34 j = A j := fun j q1 => (hA37 j q1).trans (hz24.2 j q1)
                have kk40 : J33 24 = nI G := (hJ36 24 (by decide)).trans A10k24
                have kk41 : J33 7 = nI Ec := (hJ36 7 (by decide)).trans A10k7
                have kk42 : J33 4 = nI R := (hJ36 4 (by decide)).trans A10k4
                refine lv_iload Bx.1 Bx.2.1 d_Mo_pieces_56 (lv_at hl 0 rfl) ?_
                refine lv_ishr Bx.1 Bx.2.1 d_Mo_pieces_58 ?_
                refine lv_iconst (v := 1) Bx.1 Bx.2.1 d_Mo_pieces_59 (by decide) ?_
                refine lv_iand Bx.1 Bx.2.1 d_Mo_pieces_60 ?_
                refine lv_topi (fun bt43 e_bt43 => ?_)
                refine lv_iadd Bx.1 Bx.2.1 d_Mo_pieces_61 ?_
                refine lv_istore_n (lv' := [(2, .int (t2 + bt43)), (4, .int (nI jj)), (3, .int (nI ii)), (0, .ref (ad 224)), (1, .int (nI r0))]) Bx.1 Bx.2.1 d_Mo_pieces_62 rfl hl (by decide) rfl (fun ls hl => ?_)
                refine lv_iinc (lv' := [(4, .int ((nI jj + (1)))), (2, .int (t2 + bt43)), (3, .int (nI ii)), (0, .ref (ad 224)), (1, .int (nI r0))]) Bx.1 Bx.2.1 d_Mo_pieces_63 hl (k := 1) rfl rfl (by decide) rfl (fun ls hl => ?_)
                rw [show (nI jj + (1) : Int32) = nI (jj + 1) from nI_1 (jj)] at hl
                refine lv_goto Bx.1 Bx.2.1 d_Mo_pieces_66 rfl ?_
                exact ih26 mem32 (J33) (A34) (jj + 1) (t2 + bt43) _ _ _ (by have := hmeas27; omega) (hW35) (⟨hJ38, hA39⟩) (by omega) hP hD hS (lv_sub hl [0, 2, 1, 3, 4] rfl)
          exact loop21 _ mem9 (J9) (A9) (ii) (t1) _ _ _ (Nat.lt_succ_self _) (hz13) (⟨hz14.1, hz14.2⟩) (by omega) hP hD hS (lv_sub hl [0, 1, 2, 3, 4] rfl)
    exact loop11 _ mem2 (J1) (A) (0) (0) _ _ _ (Nat.lt_succ_self _) (hW3) (⟨hJ1, (fun _ _ => rfl)⟩) (by omega) hP hD hS (lv_sub hl [0, 1, 2, 3] rfl)
  · refine lv_aload_n Bx.1 Bx.2.1 d_Mo_pieces_19 rfl (lv_at hl 0 rfl) ?_
    refine lv_iconst (v := 1) Bx.1 Bx.2.1 d_Mo_pieces_20 (by decide) ?_
    refine f_callVi (na := 1) (As := [.int (1)]) (rest := []) Bx hml E hP hD hS (by omega) hW3.1 rfl (m_Mo_fail l hn (J := J1) hW3.1) kw_757 kw_759 sel_Mo_fail kw_8 kw_760 (by decide +kernel) ⟨rfl, rfl⟩ ⟨Nat.le_of_ble_eq_true rfl, Nat.le_of_ble_eq_true rfl⟩ rfl hl.1 (Nat.le_of_ble_eq_true rfl) d_Mo_pieces_21 ⟨Nat.le_of_ble_eq_true rfl, Nat.le_of_ble_eq_true rfl⟩ (fun r44 mem45 H locs hq hP hS => ?_)
    have hD : va_D (Az sz) (fw n ad mem45) := fw_D hD
    obtain ⟨hq0, hq⟩ := hq
    subst hq0
    obtain ⟨J46, eJ46⟩ : ∃ z, z = va_up J1 0 (1) := ⟨_, rfl⟩
    have hW47 : MW cy ad J46 A nm m0 mem45 := by rw [hq, eJ46]; exact hW3.upJ (va_up_ne _ _ (by decide))
    have hJ48 : ∀ i, i ≠ 0 → i ≠ 26 → J46 i = J i := fun i q1 q2 => by rw [eJ46, va_up_ne _ _ q1]; exact hJ1 i q1 q2
    exact W.iret (v := 0) hx hb hr (fun t ht hW => ⟨⟨0, mem45, rfl, ⟨J46, A, hW47, hJ48, (fun _ _ => rfl)⟩, by show va_P _ _ _ t.heap; rw [ht]; exact hP⟩, hS.F ht⟩) hS.2.2 d_Mo_pieces_24
set_option maxHeartbeats 4000000 in
set_option maxRecDepth 100000 in
theorem m_Mo_count (l : Launch) {D : va_G} {cy : Nat → ClassId} {sz n : Nat} {ad : Nat → Nat} {mem : Nat → va_E} {J : Nat → Int32} {A : Nat → Nat → Int32} {nm : Nat → Int64} {m0 : Nat → va_E} {G R Ec u : Nat} {i1 : Int32} (hn : 242 ≤ n) (hM : MW cy ad J A nm m0 mem) (h24 : J 24 = nI G) (hGb : G ≤ 24) (h4 : J 4 = nI R) (h7 : J 7 = nI Ec) (hEb : Ec ≤ 100) (hRb : R ≤ 12) (hub : u ≤ 240) (hGd : Gd R Ec u A) (hng : NoG m0) : MI l D cy sz n ad y_Mo_count c_Mo_count 4 (some .int) ({ frames := 1, cells := 0, slots := 0, locals := 30 } : Room) mem [.ref (ad 224), .int (i1)] (fun r mem' => ∃ J' A', MW cy ad J' A' nm m0 mem' ∧ (∀ i, i ≠ 0 → i ≠ 26 → J' i = J i) ∧ ∀ j, j ≠ 241 → A' j = A j) := by
  refine Met.ofW (cc := c_Mo_count) (maxL := 4) (ret := (some .int)) (by decide) rfl ?_
  intro p e s m args below meth c s₁ B hml hv
  obtain ⟨rfl, E, hP, hD⟩ := hv
  have hx := B.exec
  have hb := B.bytes
  have hr := B.returns
  have hlocks := B.notSynchronized
  have Bx : MB p s m [.ref (ad 224), .int (i1)].toArray c c_Mo_count "AbnfChartModel" D cy := ⟨hx, hb, tb_all (atoms_spec B.pre) E.2.1, findClass_of_methodNamed B.named, E.1⟩
  have hS : va_S (Az sz) s.heap s.heap [] := va_S.rf
  have hl := lv_entry ([.ref (ad 224), .int (i1)]) (n := 4) (Nat.le_of_ble_eq_true rfl)
  rw [lg_entry_eq]
  generalize (lg_sl ([.ref (ad 224), .int (i1)]) ++ List.replicate (4 - (lg_sl ([.ref (ad 224), .int (i1)])).length) Slot.unset).toArray = ls at hl ⊢
  have hl : lv_has ls 4 [(0, .ref (ad 224)), (1, .int (i1))] := hl
  refine lv_aload_n Bx.1 Bx.2.1 d_Mo_count_0 rfl (lv_at hl 0 rfl) ?_
  refine lv_iconst (v := 0) Bx.1 Bx.2.1 d_Mo_count_1 (by decide) ?_
  refine f_put Bx hP hD hS (by omega) hM.1 rfl inMo tyMo okMo nmMo 0 (by decide) kw_656 rfl rfl rfl rfl (Nat.le_of_ble_eq_true rfl) d_Mo_count_2 (fun H locs hP hS => ?_)
  obtain ⟨J1, eJ1⟩ : ∃ z, z = va_up J 0 (0) := ⟨_, rfl⟩
  obtain ⟨mem2, e_mem2⟩ : ∃ z, z = va_up mem 224 (moC ad J1) := ⟨_, rfl⟩
  have hP : va_P D vcl (fw n ad mem2) H := by rw [e_mem2, eJ1]; exact hP
  have hD : va_D (Az sz) (fw n ad mem2) := fw_D hD
  have hW3 : MW cy ad J1 A nm m0 mem2 := by rw [e_mem2]; exact hM.upJ (by rw [eJ1]; exact va_up_ne _ _ (by decide))
  have kk4 : J1 24 = nI G := by rw [eJ1]; exact h24
  have kk5 : J1 4 = nI R := by rw [eJ1]; exact h4
  have kk6 : J1 7 = nI Ec := by rw [eJ1]; exact h7
  have kk7 : J1 0 = 0 := by rw [eJ1, va_up_self]
  have hJ1 : ∀ i, i ≠ 0 → i ≠ 26 → J1 i = J i := fun i q1 q2 => by rw [eJ1, va_up_ne _ _ q1]
  refine lv_iload_n Bx.1 Bx.2.1 d_Mo_count_5 rfl (lv_at hl 1 rfl) ?_
  refine lv_iconst (v := 0) Bx.1 Bx.2.1 d_Mo_count_6 (by decide) ?_
  refine lv_iconst (v := 2) Bx.1 Bx.2.1 d_Mo_count_7 (by decide) ?_
  refine f_callSi (na := 3) (As := [.int (i1), .int (0), .int (2)]) (rest := []) Bx hml E.2.1 (m_Mo_within l (i1) (0) (2)) kw_754 kw_755 kw_8 kw_756 (by decide +kernel) ⟨rfl, rfl⟩ ⟨Nat.le_of_ble_eq_true rfl, Nat.le_of_ble_eq_true rfl⟩ rfl hl.1 (Nat.le_of_ble_eq_true rfl) d_Mo_count_8 ⟨Nat.le_of_ble_eq_true rfl, Nat.le_of_ble_eq_true rfl⟩ (fun r9 hs8 => ?_)
  subst hs8
  refine lv_if_ne Bx.1 Bx.2.1 d_Mo_count_11 rfl (fun hb10 => ?_) (fun hb10 => ?_)
  · refine lv_iconst (v := 0) Bx.1 Bx.2.1 d_Mo_count_20 (by decide) ?_
    refine lv_istore_n (lv' := [(2, .int (0)), (0, .ref (ad 224)), (1, .int (i1))]) Bx.1 Bx.2.1 d_Mo_count_21 rfl hl (by decide) rfl (fun ls hl => ?_)
    refine lv_iconst (v := 0) Bx.1 Bx.2.1 d_Mo_count_22 (by decide) ?_
    refine lv_istore_n (lv' := [(3, .int (0)), (2, .int (0)), (0, .ref (ad 224)), (1, .int (i1))]) Bx.1 Bx.2.1 d_Mo_count_23 rfl hl (by decide) rfl (fun ls hl => ?_)
    have loop11 : ∀ (d12 : Nat) (k : Nat) (to : Int32) (ls : Array Slot) (H : Heap) (locs : List Loc), (R - k < d12) → (k ≤ R) → (va_P D vcl (fw n ad mem2) H) → (va_D (Az sz) (fw n ad mem2)) → (va_S (Az sz) s.heap H locs) → (lv_has ls 4 [(3, .int (nI k)), (2, .int (to)), (0, .ref (ad 224)), (1, .int (i1))]) → W p l e (headSpec (Cond.code y_Mo_count c_Mo_count 4 (some .int) :: tg) ({ frames := 1, cells := 0, slots := 0, locals := 30 } : Room)).room s m [.ref (ad 224), .int (i1)].toArray below meth c H locs 0 0 (MQ below (va_Qi (fun r mem' => ∃ J' A', MW cy ad J' A' nm m0 mem' ∧ (∀ i, i ≠ 0 → i ≠ 26 → J' i = J i) ∧ ∀ j, j ≠ 241 → A' j = A j) (PP D n ad) (Az sz)) [.ref (ad 224), .int (i1)].toArray s 0 0 (Az sz)) (F0 m 24 ls []) := by
      intro d12
      induction d12 with
      | zero => intro k to ls H locs hmeas15; exact absurd hmeas15 (Nat.not_lt_zero _)
      | succ d12 ih14 =>
        intro k to ls H locs hmeas15 hz13 hP hD hS hl
        refine lv_iload_n Bx.1 Bx.2.1 d_Mo_count_24 rfl (lv_at hl 0 rfl) ?_
        refine lv_aload_n Bx.1 Bx.2.1 d_Mo_count_25 rfl (lv_at hl 2 rfl) ?_
        refine f_get Bx hP (by omega) hW3.1 rfl inMo 4 (by decide) kw_660 rfl rfl d_Mo_count_26 ?_
        rw [kk5]
        refine lv_icmp_ge Bx.1 Bx.2.1 d_Mo_count_29 rfl (fun hb16 => ?_) (fun hb16 => ?_)
        · have hN17 : R ≤ k := (nI_leI (by omega) (by omega)).mp (show nI (R) ≤ nI (k) from hb16)
          refine lv_iload_n Bx.1 Bx.2.1 d_Mo_count_55 rfl (lv_at hl 3 rfl) ?_
          refine lv_if_ne Bx.1 Bx.2.1 d_Mo_count_56 rfl (fun hb18 => ?_) (fun hb18 => ?_)
          · refine lv_iload_n Bx.1 Bx.2.1 d_Mo_count_66 rfl (lv_at hl 3 rfl) ?_
            refine lv_iconst (v := 1) Bx.1 Bx.2.1 d_Mo_count_67 (by decide) ?_
            refine lv_icmp_ne Bx.1 Bx.2.1 d_Mo_count_68 rfl (fun hb19 => ?_) (fun hb19 => ?_)
            · refine lv_iload_n Bx.1 Bx.2.1 d_Mo_count_78 rfl (lv_at hl 1 rfl) ?_
              exact W.iret (v := to) hx hb hr (fun t ht hW => ⟨⟨to, mem2, rfl, ⟨J1, A, hW3, hJ1, (fun _ _ => rfl)⟩, by show va_P _ _ _ t.heap; rw [ht]; exact hP⟩, hS.F ht⟩) hS.2.2 d_Mo_count_79
            · refine lv_aload_n Bx.1 Bx.2.1 d_Mo_count_71 rfl (lv_at hl 2 rfl) ?_
              refine f_get Bx hP (by omega) hW3.1 rfl inMo 7 (by decide) kw_663 rfl rfl d_Mo_count_72 ?_
              rw [kk6]
              refine lv_goto Bx.1 Bx.2.1 d_Mo_count_75 rfl ?_
              exact W.iret (v := nI Ec) hx hb hr (fun t ht hW => ⟨⟨nI Ec, mem2, rfl, ⟨J1, A, hW3, hJ1, (fun _ _ => rfl)⟩, by show va_P _ _ _ t.heap; rw [ht]; exact hP⟩, hS.F ht⟩) hS.2.2 d_Mo_count_79
          · refine lv_aload_n Bx.1 Bx.2.1 d_Mo_count_59 rfl (lv_at hl 2 rfl) ?_
            refine f_get Bx hP (by omega) hW3.1 rfl inMo 4 (by decide) kw_660 rfl rfl d_Mo_count_60 ?_
            rw [kk5]
            refine lv_goto Bx.1 Bx.2.1 d_Mo_count_63 rfl ?_
            exact W.iret (v := nI R) hx hb hr (fun t ht hW => ⟨⟨nI R, mem2, rfl, ⟨J1, A, hW3, hJ1, (fun _ _ => rfl)⟩, by show va_P _ _ _ t.heap; rw [ht]; exact hP⟩, hS.F ht⟩) hS.2.2 d_Mo_count_79
        · have hN20 : ¬ R ≤ k := fun q9 => hb16 (show nI (R) ≤ nI (k) from (nI_leI (by omega) (by omega)).mpr q9)
          refine lv_iload_n Bx.1 Bx.2.1 d_Mo_count_32 rfl (lv_at hl 1 rfl) ?_
          refine lv_aload_n Bx.1 Bx.2.1 d_Mo_count_33 rfl (lv_at hl 2 rfl) ?_
          refine f_get Bx hP (by omega) hW3.1 rfl inMo 6 (by decide) kw_662 rfl rfl d_Mo_count_34 ?_
          refine lv_iload_n Bx.1 Bx.2.1 d_Mo_count_37 rfl (lv_at hl 0 rfl) ?_
          refine f_iald Bx hP (by omega) (show mem2 227 = .inl (cy 1, 12, .inl (A 227)) from hW3.2.2.1 227 (by decide) (by decide) (by decide)) (vp_in_nI (n := k) (by omega) (by decide)) d_Mo_count_38 ?_
          rw [nI_clamp (n := k) (by omega)]
          refine lv_if_lt Bx.1 Bx.2.1 d_Mo_count_39 rfl (fun hb21 => ?_) (fun hb21 => ?_)
          · refine lv_iconst (v := 0) Bx.1 Bx.2.1 d_Mo_count_46 (by decide) ?_
            refine lv_iadd Bx.1 Bx.2.1 d_Mo_count_47 ?_
            refine lv_istore_n (lv' := [(2, .int (to + 0)), (3, .int (nI k)), (0, .ref (ad 224)), (1, .int (i1))]) Bx.1 Bx.2.1 d_Mo_count_48 rfl hl (by decide) rfl (fun ls hl => ?_)
            refine lv_iinc (lv' := [(3, .int ((nI k + (1)))), (2, .int (to + 0)), (0, .ref (ad 224)), (1, .int (i1))]) Bx.1 Bx.2.1 d_Mo_count_49 hl (k := 1) rfl rfl (by decide) rfl (fun ls hl => ?_)
            rw [show (nI k + (1) : Int32) = nI (k + 1) from nI_1 (k)] at hl
            refine lv_goto Bx.1 Bx.2.1 d_Mo_count_52 rfl ?_
            exact ih14 (k + 1) (to + 0) _ _ _ (by have := hmeas15; omega) (by omega) hP hD hS (lv_sub hl [0, 1, 2, 3] rfl)
          · refine lv_iconst (v := 1) Bx.1 Bx.2.1 d_Mo_count_42 (by decide) ?_
            refine lv_goto Bx.1 Bx.2.1 d_Mo_count_43 rfl ?_
            refine lv_iadd Bx.1 Bx.2.1 d_Mo_count_47 ?_
            refine lv_istore_n (lv' := [(2, .int (to + 1)), (3, .int (nI k)), (0, .ref (ad 224)), (1, .int (i1))]) Bx.1 Bx.2.1 d_Mo_count_48 rfl hl (by decide) rfl (fun ls hl => ?_)
            refine lv_iinc (lv' := [(3, .int ((nI k + (1)))), (2, .int (to + 1)), (0, .ref (ad 224)), (1, .int (i1))]) Bx.1 Bx.2.1 d_Mo_count_49 hl (k := 1) rfl rfl (by decide) rfl (fun ls hl => ?_)
            rw [show (nI k + (1) : Int32) = nI (k + 1) from nI_1 (k)] at hl
            refine lv_goto Bx.1 Bx.2.1 d_Mo_count_52 rfl ?_
            exact ih14 (k + 1) (to + 1) _ _ _ (by have := hmeas15; omega) (by omega) hP hD hS (lv_sub hl [0, 1, 2, 3] rfl)
    exact loop11 _ (0) (0) _ _ _ (Nat.lt_succ_self _) (by omega) hP hD hS (lv_sub hl [0, 1, 2, 3] rfl)
  · refine lv_aload_n Bx.1 Bx.2.1 d_Mo_count_14 rfl (lv_at hl 0 rfl) ?_
    refine lv_iconst (v := 1) Bx.1 Bx.2.1 d_Mo_count_15 (by decide) ?_
    refine f_callVi (na := 1) (As := [.int (1)]) (rest := []) Bx hml E hP hD hS (by omega) hW3.1 rfl (m_Mo_fail l hn (J := J1) hW3.1) kw_757 kw_759 sel_Mo_fail kw_8 kw_760 (by decide +kernel) ⟨rfl, rfl⟩ ⟨Nat.le_of_ble_eq_true rfl, Nat.le_of_ble_eq_true rfl⟩ rfl hl.1 (Nat.le_of_ble_eq_true rfl) d_Mo_count_16 ⟨Nat.le_of_ble_eq_true rfl, Nat.le_of_ble_eq_true rfl⟩ (fun r22 mem23 H locs hq hP hS => ?_)
    have hD : va_D (Az sz) (fw n ad mem23) := fw_D hD
    obtain ⟨hq0, hq⟩ := hq
    subst hq0
    obtain ⟨J24, eJ24⟩ : ∃ z, z = va_up J1 0 (1) := ⟨_, rfl⟩
    have hW25 : MW cy ad J24 A nm m0 mem23 := by rw [hq, eJ24]; exact hW3.upJ (va_up_ne _ _ (by decide))
    have hJ26 : ∀ i, i ≠ 0 → i ≠ 26 → J24 i = J i := fun i q1 q2 => by rw [eJ24, va_up_ne _ _ q1]; exact hJ1 i q1 q2
    exact W.iret (v := 0) hx hb hr (fun t ht hW => ⟨⟨0, mem23, rfl, ⟨J24, A, hW25, hJ26, (fun _ _ => rfl)⟩, by show va_P _ _ _ t.heap; rw [ht]; exact hP⟩, hS.F ht⟩) hS.2.2 d_Mo_count_19
set_option maxHeartbeats 4000000 in
set_option maxRecDepth 100000 in
theorem m_Mo_rule (l : Launch) {D : va_G} {cy : Nat → ClassId} {sz n : Nat} {ad : Nat → Nat} {mem : Nat → va_E} {J : Nat → Int32} {A : Nat → Nat → Int32} {nm : Nat → Int64} {m0 : Nat → va_E} {G R Ec u : Nat} {x9 : Int64} (hn : 242 ≤ n) (hM : MW cy ad J A nm m0 mem) (h24 : J 24 = nI G) (hGb : G ≤ 24) (h4 : J 4 = nI R) (h7 : J 7 = nI Ec) (hEb : Ec ≤ 100) (hRb : R ≤ 12) (hub : u ≤ 240) (hGd : Gd R Ec u A) (hng : NoG m0) : MI l D cy sz n ad y_Mo_rule c_Mo_rule 4 (some .int) ({ frames := 1, cells := 0, slots := 0, locals := 30 } : Room) mem [.ref (ad 224), .long (x9)] (fun r mem' => ∃ J' A', MW cy ad J' A' nm m0 mem' ∧ (∀ i, i ≠ 0 → i ≠ 26 → J' i = J i) ∧ ∀ j, j ≠ 241 → A' j = A j) := by
  refine Met.ofW (cc := c_Mo_rule) (maxL := 4) (ret := (some .int)) (by decide) rfl ?_
  intro p e s m args below meth c s₁ B hml hv
  obtain ⟨rfl, E, hP, hD⟩ := hv
  have hx := B.exec
  have hb := B.bytes
  have hr := B.returns
  have hlocks := B.notSynchronized
  have Bx : MB p s m [.ref (ad 224), .long (x9)].toArray c c_Mo_rule "AbnfChartModel" D cy := ⟨hx, hb, tb_all (atoms_spec B.pre) E.2.1, findClass_of_methodNamed B.named, E.1⟩
  have hS : va_S (Az sz) s.heap s.heap [] := va_S.rf
  have hl := lv_entry ([.ref (ad 224), .long (x9)]) (n := 4) (Nat.le_of_ble_eq_true rfl)
  rw [lg_entry_eq]
  generalize (lg_sl ([.ref (ad 224), .long (x9)]) ++ List.replicate (4 - (lg_sl ([.ref (ad 224), .long (x9)])).length) Slot.unset).toArray = ls at hl ⊢
  have hl : lv_has ls 4 [(0, .ref (ad 224)), (1, .long (x9))] := hl
  refine lv_aload_n Bx.1 Bx.2.1 d_Mo_rule_0 rfl (lv_at hl 0 rfl) ?_
  refine lv_iconst (v := 0) Bx.1 Bx.2.1 d_Mo_rule_1 (by decide) ?_
  refine f_put Bx hP hD hS (by omega) hM.1 rfl inMo tyMo okMo nmMo 0 (by decide) kw_656 rfl rfl rfl rfl (Nat.le_of_ble_eq_true rfl) d_Mo_rule_2 (fun H locs hP hS => ?_)
  obtain ⟨J1, eJ1⟩ : ∃ z, z = va_up J 0 (0) := ⟨_, rfl⟩
  obtain ⟨mem2, e_mem2⟩ : ∃ z, z = va_up mem 224 (moC ad J1) := ⟨_, rfl⟩
  have hP : va_P D vcl (fw n ad mem2) H := by rw [e_mem2, eJ1]; exact hP
  have hD : va_D (Az sz) (fw n ad mem2) := fw_D hD
  have hW3 : MW cy ad J1 A nm m0 mem2 := by rw [e_mem2]; exact hM.upJ (by rw [eJ1]; exact va_up_ne _ _ (by decide))
  have kk4 : J1 24 = nI G := by rw [eJ1]; exact h24
  have kk5 : J1 4 = nI R := by rw [eJ1]; exact h4
  have kk6 : J1 7 = nI Ec := by rw [eJ1]; exact h7
  have kk7 : J1 0 = 0 := by rw [eJ1, va_up_self]
  have hJ1 : ∀ i, i ≠ 0 → i ≠ 26 → J1 i = J i := fun i q1 q2 => by rw [eJ1, va_up_ne _ _ q1]
  refine lv_iconst (v := 0) Bx.1 Bx.2.1 d_Mo_rule_5 (by decide) ?_
  refine lv_istore_n (lv' := [(3, .int (0)), (0, .ref (ad 224)), (1, .long (x9))]) Bx.1 Bx.2.1 d_Mo_rule_6 rfl hl (by decide) rfl (fun ls hl => ?_)
  have loop8 : ∀ (d9 : Nat) (k : Nat) (ls : Array Slot) (H : Heap) (locs : List Loc), (R - k < d9) → (k ≤ R) → (va_P D vcl (fw n ad mem2) H) → (va_D (Az sz) (fw n ad mem2)) → (va_S (Az sz) s.heap H locs) → (lv_has ls 4 [(3, .int (nI k)), (0, .ref (ad 224)), (1, .long (x9))]) → W p l e (headSpec (Cond.code y_Mo_rule c_Mo_rule 4 (some .int) :: tg) ({ frames := 1, cells := 0, slots := 0, locals := 30 } : Room)).room s m [.ref (ad 224), .long (x9)].toArray below meth c H locs 0 0 (MQ below (va_Qi (fun r mem' => ∃ J' A', MW cy ad J' A' nm m0 mem' ∧ (∀ i, i ≠ 0 → i ≠ 26 → J' i = J i) ∧ ∀ j, j ≠ 241 → A' j = A j) (PP D n ad) (Az sz)) [.ref (ad 224), .long (x9)].toArray s 0 0 (Az sz)) (F0 m 7 ls []) := by
    intro d9
    induction d9 with
    | zero => intro k ls H locs hmeas12; exact absurd hmeas12 (Nat.not_lt_zero _)
    | succ d9 ih11 =>
      intro k ls H locs hmeas12 hz10 hP hD hS hl
      refine lv_iload_n Bx.1 Bx.2.1 d_Mo_rule_7 rfl (lv_at hl 0 rfl) ?_
      refine lv_aload_n Bx.1 Bx.2.1 d_Mo_rule_8 rfl (lv_at hl 1 rfl) ?_
      refine f_get Bx hP (by omega) hW3.1 rfl inMo 4 (by decide) kw_660 rfl rfl d_Mo_rule_9 ?_
      rw [kk5]
      refine lv_icmp_ge Bx.1 Bx.2.1 d_Mo_rule_12 rfl (fun hb13 => ?_) (fun hb13 => ?_)
      · have hN14 : R ≤ k := (nI_leI (by omega) (by omega)).mp (show nI (R) ≤ nI (k) from hb13)
        refine lv_aload_n Bx.1 Bx.2.1 d_Mo_rule_34 rfl (lv_at hl 1 rfl) ?_
        refine lv_iconst (v := 1) Bx.1 Bx.2.1 d_Mo_rule_35 (by decide) ?_
        refine f_callVi (na := 1) (As := [.int (1)]) (rest := []) Bx hml E hP hD hS (by omega) hW3.1 rfl (m_Mo_fail l hn (J := J1) hW3.1) kw_757 kw_759 sel_Mo_fail kw_8 kw_760 (by decide +kernel) ⟨rfl, rfl⟩ ⟨Nat.le_of_ble_eq_true rfl, Nat.le_of_ble_eq_true rfl⟩ rfl hl.1 (Nat.le_of_ble_eq_true rfl) d_Mo_rule_36 ⟨Nat.le_of_ble_eq_true rfl, Nat.le_of_ble_eq_true rfl⟩ (fun r15 mem16 H locs hq hP hS => ?_)
        have hD : va_D (Az sz) (fw n ad mem16) := fw_D hD
        obtain ⟨hq0, hq⟩ := hq
        subst hq0
        obtain ⟨J17, eJ17⟩ : ∃ z, z = va_up J1 0 (1) := ⟨_, rfl⟩
        have hW18 : MW cy ad J17 A nm m0 mem16 := by rw [hq, eJ17]; exact hW3.upJ (va_up_ne _ _ (by decide))
        have hJ19 : ∀ i, i ≠ 0 → i ≠ 26 → J17 i = J i := fun i q1 q2 => by rw [eJ17, va_up_ne _ _ q1]; exact hJ1 i q1 q2
        exact W.iret (v := 0) hx hb hr (fun t ht hW => ⟨⟨0, mem16, rfl, ⟨J17, A, hW18, hJ19, (fun _ _ => rfl)⟩, by show va_P _ _ _ t.heap; rw [ht]; exact hP⟩, hS.F ht⟩) hS.2.2 d_Mo_rule_39
      · have hN20 : ¬ R ≤ k := fun q9 => hb13 (show nI (R) ≤ nI (k) from (nI_leI (by omega) (by omega)).mpr q9)
        refine lv_aload_n Bx.1 Bx.2.1 d_Mo_rule_15 rfl (lv_at hl 1 rfl) ?_
        refine f_get Bx hP (by omega) hW3.1 rfl inMo 5 (by decide) kw_661 rfl rfl d_Mo_rule_16 ?_
        refine lv_iload_n Bx.1 Bx.2.1 d_Mo_rule_19 rfl (lv_at hl 0 rfl) ?_
        refine f_lald Bx hP (by omega) hW3.2.1 (vp_in_nI (n := k) (by omega) (by decide)) d_Mo_rule_20 ?_
        refine lv_lload_n Bx.1 Bx.2.1 d_Mo_rule_21 rfl (lv_at hl 2 rfl) ?_
        refine W.lcmp Bx.1 Bx.2.1 d_Mo_rule_22 ?_
        refine lv_if_ne Bx.1 Bx.2.1 d_Mo_rule_23 rfl (fun h7c => ?_) (fun h7c => ?_)
        · refine lv_iinc (lv' := [(3, .int ((nI k + (1)))), (0, .ref (ad 224)), (1, .long (x9))]) Bx.1 Bx.2.1 d_Mo_rule_28 hl (k := 0) rfl rfl (by decide) rfl (fun ls hl => ?_)
          rw [show (nI k + (1) : Int32) = nI (k + 1) from nI_1 (k)] at hl
          refine lv_goto Bx.1 Bx.2.1 d_Mo_rule_31 rfl ?_
          exact ih11 (k + 1) _ _ _ (by have := hmeas12; omega) (by omega) hP hD hS (lv_sub hl [0, 1, 2] rfl)
        · refine lv_iload_n Bx.1 Bx.2.1 d_Mo_rule_26 rfl (lv_at hl 0 rfl) ?_
          exact W.iret (v := nI k) hx hb hr (fun t ht hW => ⟨⟨nI k, mem2, rfl, ⟨J1, A, hW3, hJ1, (fun _ _ => rfl)⟩, by show va_P _ _ _ t.heap; rw [ht]; exact hP⟩, hS.F ht⟩) hS.2.2 d_Mo_rule_27
  exact loop8 _ (0) _ _ _ (Nat.lt_succ_self _) (by omega) hP hD hS (lv_sub hl [0, 1, 2] rfl)
