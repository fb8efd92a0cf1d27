def MXp (v : Int32) (i k : Nat) (r : Int32) : Prop := (r = -1 ∧ ∀ j, i ≤ j → j < k → ¬ tbit v j) ∨ ∃ j, i ≤ j ∧ j < k ∧ r = nI j ∧ tbit v j ∧ ∀ m, j < m → m < k → ¬ tbit v m
theorem MXp.start {v : Int32} {i : Nat} : MXp v i i (-1) := Or.inl ⟨rfl, fun j h1 h2 => by omega⟩
theorem MXp.yes {v r : Int32} {i k : Nat} (h : MXp v i k r) (hk : i ≤ k) (hb : tbit v k) : MXp v i (k + 1) (nI k) := Or.inr ⟨k, hk, by omega, rfl, hb, fun m h1 h2 => by omega⟩
theorem MXp.no {v r : Int32} {i k : Nat} (h : MXp v i k r) (hb : ¬ tbit v k) : MXp v i (k + 1) r := by
  have key : ∀ m, m < k + 1 → (m < k → ¬ tbit v m) → ¬ tbit v m := fun m h1 h2 => by
    by_cases e : m = k
    · subst e; exact hb
    · exact h2 (by omega)
  rcases h with ⟨e, h⟩ | ⟨j, j1, j2, e, j3, j4⟩
  · exact Or.inl ⟨e, fun m h1 h2 => key m h2 (h m h1)⟩
  · exact Or.inr ⟨j, j1, by omega, e, j3, fun m h1 h2 => key m h2 (j4 m h1)⟩
theorem MXp.mx {v r : Int32} {i G k : Nat} (h : MXp v i k r) (hk : k = G + 1) : MX v i G r := by
  subst hk
  rcases h with ⟨e, h⟩ | ⟨j, j1, j2, e, j3, j4⟩
  · exact Or.inl ⟨e, fun m h1 h2 => h m h1 (by omega)⟩
  · exact Or.inr ⟨j, j1, by omega, e, j3, fun m h1 h2 => j4 m h1 (by omega)⟩
theorem wr_no {k : Int32} {R : Nat} (hb : R ≤ 12) (h : (if k < 0 ∨ nI R - 1 < k then (0 : Int32) else 1) = 0) : ¬ RK R k := by
  rintro ⟨r0, h1, rfl⟩
  rw [if_neg] at h
  · exact absurd h (by decide)
  · rintro (z | z)
    · exact nI_pos (by omega) z
    · obtain ⟨S, rfl⟩ : ∃ S, R = S + 1 := ⟨R - 1, by omega⟩
      rw [nI_pred] at z
      have := (nI_ltI (by omega) (by omega)).mp z
      omega
theorem wi_no {k : Int32} {G : Nat} (hb : G ≤ 24) (h : (if k < 0 ∨ nI G < k then (0 : Int32) else 1) = 0) : ¬ PK G k k := by
  rintro ⟨i0, j0, h1, h2, rfl, e⟩
  rw [if_neg] at h
  · exact absurd h (by decide)
  · rintro (z | z)
    · exact nI_pos (by omega) z
    · have := (nI_ltI (by omega) (by omega)).mp z
      omega
set_option maxHeartbeats 4000000 in
set_option maxRecDepth 100000 in
theorem m_Mo_matchesY (l : Launch) {D : va_G} {cy : Nat → ClassId} {sz n : Nat} {ad : Nat → Nat} {mem : Nat → va_E} {J : Nat → Int32} {A : Nat → Nat → Int32} {nm : Nat → Int64} {m0 : Nat → va_E} {G R Ec u : Nat} {V : Nat → Nat → Int32} {i1 i2 i3 : Int32} (hn : 242 ≤ n) (hM : MW cy ad J A nm m0 mem) (h24 : J 24 = nI G) (hGb : G ≤ 24) (h4 : J 4 = nI R) (h7 : J 7 = nI Ec) (hEb : Ec ≤ 100) (hRb : R ≤ 12) (hub : u ≤ 240) (hGd : Gd R Ec u A) (hng : NoG m0) (hx0 : 0 < R → J 26 = 0 → Fx A G Ec (A 241) ∧ Lst A G Ec (A 241)) (hV : ∀ gR, Fx A G Ec gR → Lst A G Ec gR → ∀ r i, r < R → i ≤ G → (if A 227 r < 0 then 0 else gR (25 * (A 227 r).toNatClampNeg + i)) = V r i) : MI l D cy sz n ad y_Mo_matches c_Mo_matches 4 (some .boolean) ({ frames := 6, cells := 0, slots := 0, locals := 180 } : Room) mem [.ref (ad 224), .int (i1), .int (i2), .int (i3)] (fun r mem' => ∃ J' A', MW cy ad J' A' nm m0 mem' ∧ (∀ i, i ≠ 0 → i ≠ 26 → J' i = J i) ∧ (∀ j, j ≠ 241 → A' j = A j) ∧ (0 < R → J' 26 = 0 → Fx A G Ec (A' 241) ∧ Lst A G Ec (A' 241)) ∧ ((J' 0 = 1 ∧ ¬ RK R (i1)) ∨ (J' 0 = 2 ∧ RK R (i1) ∧ ¬ PK G (i2) (i3)) ∨ (J' 0 = 0 ∧ ∃ ra ia ja : Nat, ra < R ∧ ia ≤ ja ∧ ja ≤ G ∧ i1 = nI ra ∧ i2 = nI ia ∧ i3 = nI ja ∧ r = (if (V ra ia >>> (nI ja &&& 31)) &&& 1 = 1 then 1 else 0)))) := by
  refine Met.ofW (cc := c_Mo_matches) (maxL := 4) (ret := (some .boolean)) (by decide) rfl ?_
  intro p e s m args below meth c s₁ B hml hv
  obtain ⟨rfl, E, hP, hD⟩ := hv
  have hx := B.exec
  have hb := B.bytes
  have hr := B.returns
  have hlocks := B.notSynchronized
  have Bx : MB p s m [.ref (ad 224), .int (i1), .int (i2), .int (i3)].toArray c c_Mo_matches "AbnfChartModel" D cy := ⟨hx, hb, tb_all (atoms_spec B.pre) E.2.1, findClass_of_methodNamed B.named, E.1⟩
  have hS : va_S (Az sz) s.heap s.heap [] := va_S.rf
  have hl := lv_entry ([.ref (ad 224), .int (i1), .int (i2), .int (i3)]) (n := 4) (Nat.le_of_ble_eq_true rfl)
  rw [lg_entry_eq]
  generalize (lg_sl ([.ref (ad 224), .int (i1), .int (i2), .int (i3)]) ++ List.replicate (4 - (lg_sl ([.ref (ad 224), .int (i1), .int (i2), .int (i3)])).length) Slot.unset).toArray = ls at hl ⊢
  have hl : lv_has ls 4 [(0, .ref (ad 224)), (1, .int (i1)), (2, .int (i2)), (3, .int (i3))] := hl
  refine lv_aload_n Bx.1 Bx.2.1 d_Mo_matches_0 rfl (lv_at hl 0 rfl) ?_
  refine lv_iconst (v := 0) Bx.1 Bx.2.1 d_Mo_matches_1 (by decide) ?_
  refine f_put Bx hP hD hS (by omega) hM.1 rfl inMo tyMo okMo nmMo 0 (by decide) kw_656 rfl rfl rfl rfl (Nat.le_of_ble_eq_true rfl) d_Mo_matches_2 (fun H locs hP hS => ?_)
  obtain ⟨J1, eJ1⟩ : ∃ z, z = va_up J 0 (0) := ⟨_, rfl⟩
  obtain ⟨mem2, e_mem2⟩ : ∃ z, z = va_up mem 224 (moC ad J1) := ⟨_, rfl⟩
  have hP : va_P D vcl (fw n ad mem2) H := by rw [e_mem2, eJ1]; exact hP
  have hD : va_D (Az sz) (fw n ad mem2) := fw_D hD
  have hW3 : MW cy ad J1 A nm m0 mem2 := by rw [e_mem2]; exact hM.upJ (by rw [eJ1]; exact va_up_ne _ _ (by decide))
  have kk4 : J1 24 = nI G := by rw [eJ1]; exact h24
  have kk5 : J1 4 = nI R := by rw [eJ1]; exact h4
  have kk6 : J1 7 = nI Ec := by rw [eJ1]; exact h7
  have kk7 : J1 0 = 0 := by rw [eJ1, va_up_self]
  have hJ1 : ∀ i, i ≠ 0 → i ≠ 26 → J1 i = J i := fun i q1 q2 => by rw [eJ1, va_up_ne _ _ q1]
  have hx1 : 0 < R → J1 26 = 0 → Fx A G Ec (A 241) ∧ Lst A G Ec (A 241) := fun q1 q2 => hx0 q1 (by rw [eJ1, va_up_ne _ _ (by decide)] at q2; exact q2)
  have hA1q : ∀ j, j ≠ 241 → A j = A j := fun _ _ => rfl
  refine lv_iload_n Bx.1 Bx.2.1 d_Mo_matches_5 rfl (lv_at hl 1 rfl) ?_
  refine lv_iconst (v := 0) Bx.1 Bx.2.1 d_Mo_matches_6 (by decide) ?_
  refine lv_aload_n Bx.1 Bx.2.1 d_Mo_matches_7 rfl (lv_at hl 0 rfl) ?_
  refine f_get Bx hP (by omega) hW3.1 rfl inMo 4 (by decide) kw_660 rfl rfl d_Mo_matches_8 ?_
  rw [kk5]
  refine lv_iconst (v := 1) Bx.1 Bx.2.1 d_Mo_matches_11 (by decide) ?_
  refine lv_isub Bx.1 Bx.2.1 d_Mo_matches_12 ?_
  refine f_callSi (na := 3) (As := [.int (i1), .int (0), .int (nI R - 1)]) (rest := []) Bx hml E.2.1 (m_Mo_within l (i1) (0) (nI R - 1)) kw_754 kw_755 kw_8 kw_756 (by decide +kernel) ⟨rfl, rfl⟩ ⟨Nat.le_of_ble_eq_true rfl, Nat.le_of_ble_eq_true rfl⟩ rfl hl.1 (Nat.le_of_ble_eq_true rfl) d_Mo_matches_13 ⟨Nat.le_of_ble_eq_true rfl, Nat.le_of_ble_eq_true rfl⟩ (fun r9 hs8 => ?_)
  subst hs8
  refine lv_if_ne Bx.1 Bx.2.1 d_Mo_matches_16 rfl (fun hb10 => ?_) (fun hb10 => ?_)
  · obtain ⟨r0, hr0, rfl⟩ := wr_ok hRb hb10
    refine lv_iload_n Bx.1 Bx.2.1 d_Mo_matches_33 rfl (lv_at hl 2 rfl) ?_
    refine lv_if_lt Bx.1 Bx.2.1 d_Mo_matches_34 rfl (fun hb11 => ?_) (fun hb11 => ?_)
    · refine lv_aload_n Bx.1 Bx.2.1 d_Mo_matches_50 rfl (lv_at hl 0 rfl) ?_
      refine lv_iconst (v := 2) Bx.1 Bx.2.1 d_Mo_matches_51 (by decide) ?_
      refine f_callVi (na := 1) (As := [.int (2)]) (rest := []) Bx hml E hP hD hS (by omega) hW3.1 rfl (m_Mo_fail l hn (J := J1) hW3.1) kw_757 kw_759 sel_Mo_fail kw_8 kw_760 (by decide +kernel) ⟨rfl, rfl⟩ ⟨Nat.le_of_ble_eq_true rfl, Nat.le_of_ble_eq_true rfl⟩ rfl hl.1 (Nat.le_of_ble_eq_true rfl) d_Mo_matches_52 ⟨Nat.le_of_ble_eq_true rfl, Nat.le_of_ble_eq_true rfl⟩ (fun r12 mem13 H locs hq hP hS => ?_)
      have hD : va_D (Az sz) (fw n ad mem13) := fw_D hD
      obtain ⟨hq0, hq⟩ := hq
      subst hq0
      obtain ⟨J14, eJ14⟩ : ∃ z, z = va_up J1 0 (2) := ⟨_, rfl⟩
      have hW15 : MW cy ad J14 A nm m0 mem13 := by rw [hq, eJ14]; exact hW3.upJ (va_up_ne _ _ (by decide))
      have hJ16 : ∀ i, i ≠ 0 → i ≠ 26 → J14 i = J i := fun i q1 q2 => by rw [eJ14, va_up_ne _ _ q1]; exact hJ1 i q1 q2
      have hx17 : 0 < R → J14 26 = 0 → Fx A G Ec (A 241) ∧ Lst A G Ec (A 241) := fun q1 q2 => hx1 q1 (by rw [eJ14, va_up_ne _ _ (by decide)] at q2; exact q2)
      have h018 : J14 0 = 2 := by rw [eJ14, va_up_self]
      refine lv_if_le Bx.1 Bx.2.1 d_Mo_matches_55 rfl (fun hb19 => ?_) (fun hb19 => ?_)
      · refine lv_iconst (v := 0) Bx.1 Bx.2.1 d_Mo_matches_62 (by decide) ?_
        exact W.zret (v := 0) hx hb hr rfl (fun t ht hW => ⟨⟨0, mem13, rfl, ⟨J14, A, hW15, hJ16, hA1q, hx17, Or.inr (Or.inl ⟨h018, ⟨r0, hr0, rfl⟩, PK.no hGb (fun z9 => z9.1 hb11)⟩)⟩, by show va_P _ _ _ t.heap; rw [ht]; exact hP⟩, hS.F ht⟩) hS.2.2 d_Mo_matches_63
      · exact absurd hb19 (by decide)
    · refine lv_iload_n Bx.1 Bx.2.1 d_Mo_matches_37 rfl (lv_at hl 3 rfl) ?_
      refine lv_iload_n Bx.1 Bx.2.1 d_Mo_matches_38 rfl (lv_at hl 2 rfl) ?_
      refine lv_icmp_lt Bx.1 Bx.2.1 d_Mo_matches_39 rfl (fun hb20 => ?_) (fun hb20 => ?_)
      · refine lv_aload_n Bx.1 Bx.2.1 d_Mo_matches_50 rfl (lv_at hl 0 rfl) ?_
        refine lv_iconst (v := 2) Bx.1 Bx.2.1 d_Mo_matches_51 (by decide) ?_
        refine f_callVi (na := 1) (As := [.int (2)]) (rest := []) Bx hml E hP hD hS (by omega) hW3.1 rfl (m_Mo_fail l hn (J := J1) hW3.1) kw_757 kw_759 sel_Mo_fail kw_8 kw_760 (by decide +kernel) ⟨rfl, rfl⟩ ⟨Nat.le_of_ble_eq_true rfl, Nat.le_of_ble_eq_true rfl⟩ rfl hl.1 (Nat.le_of_ble_eq_true rfl) d_Mo_matches_52 ⟨Nat.le_of_ble_eq_true rfl, Nat.le_of_ble_eq_true rfl⟩ (fun r21 mem22 H locs hq hP hS => ?_)
        have hD : va_D (Az sz) (fw n ad mem22) := fw_D hD
        obtain ⟨hq0, hq⟩ := hq
        subst hq0
        obtain ⟨J23, eJ23⟩ : ∃ z, z = va_up J1 0 (2) := ⟨_, rfl⟩
        have hW24 : MW cy ad J23 A nm m0 mem22 := by rw [hq, eJ23]; exact hW3.upJ (va_up_ne _ _ (by decide))
        have hJ25 : ∀ i, i ≠ 0 → i ≠ 26 → J23 i = J i := fun i q1 q2 => by rw [eJ23, va_up_ne _ _ q1]; exact hJ1 i q1 q2
        have hx26 : 0 < R → J23 26 = 0 → Fx A G Ec (A 241) ∧ Lst A G Ec (A 241) := fun q1 q2 => hx1 q1 (by rw [eJ23, va_up_ne _ _ (by decide)] at q2; exact q2)
        have h027 : J23 0 = 2 := by rw [eJ23, va_up_self]
        refine lv_if_le Bx.1 Bx.2.1 d_Mo_matches_55 rfl (fun hb28 => ?_) (fun hb28 => ?_)
        · refine lv_iconst (v := 0) Bx.1 Bx.2.1 d_Mo_matches_62 (by decide) ?_
          exact W.zret (v := 0) hx hb hr rfl (fun t ht hW => ⟨⟨0, mem22, rfl, ⟨J23, A, hW24, hJ25, hA1q, hx26, Or.inr (Or.inl ⟨h027, ⟨r0, hr0, rfl⟩, PK.no hGb (fun z9 => z9.2.1 hb20)⟩)⟩, by show va_P _ _ _ t.heap; rw [ht]; exact hP⟩, hS.F ht⟩) hS.2.2 d_Mo_matches_63
        · exact absurd hb28 (by decide)
      · refine lv_iload_n Bx.1 Bx.2.1 d_Mo_matches_42 rfl (lv_at hl 3 rfl) ?_
        refine lv_aload_n Bx.1 Bx.2.1 d_Mo_matches_43 rfl (lv_at hl 0 rfl) ?_
        refine f_get Bx hP (by omega) hW3.1 rfl inMo 24 (by decide) kw_680 rfl rfl d_Mo_matches_44 ?_
        rw [kk4]
        refine lv_icmp_le Bx.1 Bx.2.1 d_Mo_matches_47 rfl (fun hb29 => ?_) (fun hb29 => ?_)
        · obtain ⟨i0, j0, hij, hj0, rfl, rfl⟩ := PK.yes hGb hb11 hb20 hb29
          have hi0 : i0 ≤ G := by omega
          refine lv_aload_n Bx.1 Bx.2.1 d_Mo_matches_64 rfl (lv_at hl 0 rfl) ?_
          refine lv_iload_n Bx.1 Bx.2.1 d_Mo_matches_65 rfl (lv_at hl 1 rfl) ?_
          refine lv_iload_n Bx.1 Bx.2.1 d_Mo_matches_66 rfl (lv_at hl 2 rfl) ?_
          refine f_callVi (na := 2) (As := [.int (nI r0), .int (nI i0)]) (rest := []) Bx hml E hP hD hS (by omega) hW3.1 rfl (m_Mo_endsOfX l hn hW3 kk4 hGb kk6 hEb hRb hub (hGd.congr hA1q) hng hr0 hi0) kw_878 kw_880 sel_Mo_endsOf kw_8 kw_881 (by decide +kernel) ⟨rfl, rfl⟩ ⟨Nat.le_of_ble_eq_true rfl, Nat.le_of_ble_eq_true rfl⟩ rfl hl.1 (Nat.le_of_ble_eq_true rfl) d_Mo_matches_67 ⟨Nat.le_of_ble_eq_true rfl, Nat.le_of_ble_eq_true rfl⟩ (fun r30 mem31 H locs hq hP hS => ?_)
          have hD : va_D (Az sz) (fw n ad mem31) := fw_D hD
          obtain ⟨J32, A33, hW34, hJ35, hA36, h26_39, hcs40, hr41⟩ := hq
          have hJ37 : ∀ i, i ≠ 0 → i ≠ 26 → J32 i = J i := fun i q1 q2 => (hJ35 i q2).trans (hJ1 i q1 q2)
          have hA38 : ∀ j, j ≠ 241 → A33 j = A j := fun j q1 => (hA36 j q1).trans (hA1q j q1)
          have hx42 : Fx A G Ec (A33 241) ∧ Lst A G Ec (A33 241) := by
            rcases hcs40 with ⟨z1, z2⟩ | ⟨z1, z2⟩
            · rw [z2]; exact hx1 (by omega) z1
            · exact ⟨z1.cong (fun j q9 => (hA1q j q9).symm), z2.cong (fun j q9 => (hA1q j q9).symm)⟩
          have hx43 : 0 < R → J32 26 = 0 → Fx A G Ec (A33 241) ∧ Lst A G Ec (A33 241) := fun _ _ => hx42
          have hv44 : r30 = V r0 i0 := by rw [hr41, show A 227 = A 227 from hA1q 227 (by decide)]; exact hV _ hx42.1 hx42.2 r0 i0 hr0 hi0
          have h045 : J32 0 = 0 := (hJ35 0 (by decide)).trans kk7
          clear hr41
          subst hv44
          have kk46 : J32 24 = nI G := (hJ35 24 (by decide)).trans kk4
          have kk47 : J32 4 = nI R := (hJ35 4 (by decide)).trans kk5
          have kk48 : J32 7 = nI Ec := (hJ35 7 (by decide)).trans kk6
          refine lv_iload_n Bx.1 Bx.2.1 d_Mo_matches_70 rfl (lv_at hl 3 rfl) ?_
          refine lv_ishr Bx.1 Bx.2.1 d_Mo_matches_71 ?_
          refine lv_iconst (v := 1) Bx.1 Bx.2.1 d_Mo_matches_72 (by decide) ?_
          refine lv_iand Bx.1 Bx.2.1 d_Mo_matches_73 ?_
          refine lv_iconst (v := 1) Bx.1 Bx.2.1 d_Mo_matches_74 (by decide) ?_
          refine lv_icmp_ne Bx.1 Bx.2.1 d_Mo_matches_75 rfl (fun hb49 => ?_) (fun hb49 => ?_)
          · refine lv_iconst (v := 0) Bx.1 Bx.2.1 d_Mo_matches_82 (by decide) ?_
            exact W.zret (v := 0) hx hb hr rfl (fun t ht hW => ⟨⟨0, mem31, rfl, ⟨J32, A33, hW34, hJ37, hA38, hx43, Or.inr (Or.inr ⟨h045, r0, i0, j0, hr0, hij, hj0, rfl, rfl, rfl, by rw [if_neg hb49]⟩)⟩, by show va_P _ _ _ t.heap; rw [ht]; exact hP⟩, hS.F ht⟩) hS.2.2 d_Mo_matches_83
          · refine lv_iconst (v := 1) Bx.1 Bx.2.1 d_Mo_matches_78 (by decide) ?_
            refine lv_goto Bx.1 Bx.2.1 d_Mo_matches_79 rfl ?_
            exact W.zret (v := 1) hx hb hr rfl (fun t ht hW => ⟨⟨1, mem31, rfl, ⟨J32, A33, hW34, hJ37, hA38, hx43, Or.inr (Or.inr ⟨h045, r0, i0, j0, hr0, hij, hj0, rfl, rfl, rfl, by rw [if_pos hb49]⟩)⟩, by show va_P _ _ _ t.heap; rw [ht]; exact hP⟩, hS.F ht⟩) hS.2.2 d_Mo_matches_83
        · refine lv_aload_n Bx.1 Bx.2.1 d_Mo_matches_50 rfl (lv_at hl 0 rfl) ?_
          refine lv_iconst (v := 2) Bx.1 Bx.2.1 d_Mo_matches_51 (by decide) ?_
          refine f_callVi (na := 1) (As := [.int (2)]) (rest := []) Bx hml E hP hD hS (by omega) hW3.1 rfl (m_Mo_fail l hn (J := J1) hW3.1) kw_757 kw_759 sel_Mo_fail kw_8 kw_760 (by decide +kernel) ⟨rfl, rfl⟩ ⟨Nat.le_of_ble_eq_true rfl, Nat.le_of_ble_eq_true rfl⟩ rfl hl.1 (Nat.le_of_ble_eq_true rfl) d_Mo_matches_52 ⟨Nat.le_of_ble_eq_true rfl, Nat.le_of_ble_eq_true rfl⟩ (fun r50 mem51 H locs hq hP hS => ?_)
          have hD : va_D (Az sz) (fw n ad mem51) := fw_D hD
          obtain ⟨hq0, hq⟩ := hq
          subst hq0
          obtain ⟨J52, eJ52⟩ : ∃ z, z = va_up J1 0 (2) := ⟨_, rfl⟩
          have hW53 : MW cy ad J52 A nm m0 mem51 := by rw [hq, eJ52]; exact hW3.upJ (va_up_ne _ _ (by decide))
          have hJ54 : ∀ i, i ≠ 0 → i ≠ 26 → J52 i = J i := fun i q1 q2 => by rw [eJ52, va_up_ne _ _ q1]; exact hJ1 i q1 q2
          have hx55 : 0 < R → J52 26 = 0 → Fx A G Ec (A 241) ∧ Lst A G Ec (A 241) := fun q1 q2 => hx1 q1 (by rw [eJ52, va_up_ne _ _ (by decide)] at q2; exact q2)
          have h056 : J52 0 = 2 := by rw [eJ52, va_up_self]
          refine lv_if_le Bx.1 Bx.2.1 d_Mo_matches_55 rfl (fun hb57 => ?_) (fun hb57 => ?_)
          · refine lv_iconst (v := 0) Bx.1 Bx.2.1 d_Mo_matches_62 (by decide) ?_
            exact W.zret (v := 0) hx hb hr rfl (fun t ht hW => ⟨⟨0, mem51, rfl, ⟨J52, A, hW53, hJ54, hA1q, hx55, Or.inr (Or.inl ⟨h056, ⟨r0, hr0, rfl⟩, PK.no hGb (fun z9 => hb29 z9.2.2)⟩)⟩, by show va_P _ _ _ t.heap; rw [ht]; exact hP⟩, hS.F ht⟩) hS.2.2 d_Mo_matches_63
          · exact absurd hb57 (by decide)
  · refine lv_aload_n Bx.1 Bx.2.1 d_Mo_matches_19 rfl (lv_at hl 0 rfl) ?_
    refine lv_iconst (v := 1) Bx.1 Bx.2.1 d_Mo_matches_20 (by decide) ?_
    refine f_callVi (na := 1) (As := [.int (1)]) (rest := []) Bx hml E hP hD hS (by omega) hW3.1 rfl (m_Mo_fail l hn (J := J1) hW3.1) kw_757 kw_759 sel_Mo_fail kw_8 kw_760 (by decide +kernel) ⟨rfl, rfl⟩ ⟨Nat.le_of_ble_eq_true rfl, Nat.le_of_ble_eq_true rfl⟩ rfl hl.1 (Nat.le_of_ble_eq_true rfl) d_Mo_matches_21 ⟨Nat.le_of_ble_eq_true rfl, Nat.le_of_ble_eq_true rfl⟩ (fun r58 mem59 H locs hq hP hS => ?_)
    have hD : va_D (Az sz) (fw n ad mem59) := fw_D hD
    obtain ⟨hq0, hq⟩ := hq
    subst hq0
    obtain ⟨J60, eJ60⟩ : ∃ z, z = va_up J1 0 (1) := ⟨_, rfl⟩
    have hW61 : MW cy ad J60 A nm m0 mem59 := by rw [hq, eJ60]; exact hW3.upJ (va_up_ne _ _ (by decide))
    have hJ62 : ∀ i, i ≠ 0 → i ≠ 26 → J60 i = J i := fun i q1 q2 => by rw [eJ60, va_up_ne _ _ q1]; exact hJ1 i q1 q2
    have hx63 : 0 < R → J60 26 = 0 → Fx A G Ec (A 241) ∧ Lst A G Ec (A 241) := fun q1 q2 => hx1 q1 (by rw [eJ60, va_up_ne _ _ (by decide)] at q2; exact q2)
    have h064 : J60 0 = 1 := by rw [eJ60, va_up_self]
    refine lv_if_le Bx.1 Bx.2.1 d_Mo_matches_24 rfl (fun hb65 => ?_) (fun hb65 => ?_)
    · refine lv_iconst (v := 0) Bx.1 Bx.2.1 d_Mo_matches_31 (by decide) ?_
      exact W.zret (v := 0) hx hb hr rfl (fun t ht hW => ⟨⟨0, mem59, rfl, ⟨J60, A, hW61, hJ62, hA1q, hx63, Or.inl ⟨h064, wr_no hRb hb10⟩⟩, by show va_P _ _ _ t.heap; rw [ht]; exact hP⟩, hS.F ht⟩) hS.2.2 d_Mo_matches_32
    · exact absurd hb65 (by decide)
set_option maxHeartbeats 4000000 in
set_option maxRecDepth 100000 in
theorem m_Mo_longestY (l : Launch) {D : va_G} {cy : Nat → ClassId} {sz n : Nat} {ad : Nat → Nat} {mem : Nat → va_E} {J : Nat → Int32} {A : Nat → Nat → Int32} {nm : Nat → Int64} {m0 : Nat → va_E} {G R Ec u : Nat} {V : Nat → Nat → Int32} {i1 i2 : Int32} (hn : 242 ≤ n) (hM : MW cy ad J A nm m0 mem) (h24 : J 24 = nI G) (hGb : G ≤ 24) (h4 : J 4 = nI R) (h7 : J 7 = nI Ec) (hEb : Ec ≤ 100) (hRb : R ≤ 12) (hub : u ≤ 240) (hGd : Gd R Ec u A) (hng : NoG m0) (hx0 : 0 < R → J 26 = 0 → Fx A G Ec (A 241) ∧ Lst A G Ec (A 241)) (hV : ∀ gR, Fx A G Ec gR → Lst A G Ec gR → ∀ r i, r < R → i ≤ G → (if A 227 r < 0 then 0 else gR (25 * (A 227 r).toNatClampNeg + i)) = V r i) : MI l D cy sz n ad y_Mo_longest c_Mo_longest 5 (some .int) ({ frames := 6, cells := 0, slots := 0, locals := 180 } : Room) mem [.ref (ad 224), .int (i1), .int (i2)] (fun r mem' => ∃ J' A', MW cy ad J' A' nm m0 mem' ∧ (∀ i, i ≠ 0 → i ≠ 26 → J' i = J i) ∧ (∀ j, j ≠ 241 → A' j = A j) ∧ (0 < R → J' 26 = 0 → Fx A G Ec (A' 241) ∧ Lst A G Ec (A' 241)) ∧ ((J' 0 = 1 ∧ ¬ RK R (i1)) ∨ (J' 0 = 2 ∧ RK R (i1) ∧ ¬ PK G (i2) (i2)) ∨ (J' 0 = 0 ∧ ∃ ra ia : Nat, ra < R ∧ ia ≤ G ∧ i1 = nI ra ∧ i2 = nI ia ∧ MX (V ra ia) ia G r))) := by
  refine Met.ofW (cc := c_Mo_longest) (maxL := 5) (ret := (some .int)) (by decide) rfl ?_
  intro p e s m args below meth c s₁ B hml hv
  obtain ⟨rfl, E, hP, hD⟩ := hv
  have hx := B.exec
  have hb := B.bytes
  have hr := B.returns
  have hlocks := B.notSynchronized
  have Bx : MB p s m [.ref (ad 224), .int (i1), .int (i2)].toArray c c_Mo_longest "AbnfChartModel" D cy := ⟨hx, hb, tb_all (atoms_spec B.pre) E.2.1, findClass_of_methodNamed B.named, E.1⟩
  have hS : va_S (Az sz) s.heap s.heap [] := va_S.rf
  have hl := lv_entry ([.ref (ad 224), .int (i1), .int (i2)]) (n := 5) (Nat.le_of_ble_eq_true rfl)
  rw [lg_entry_eq]
  generalize (lg_sl ([.ref (ad 224), .int (i1), .int (i2)]) ++ List.replicate (5 - (lg_sl ([.ref (ad 224), .int (i1), .int (i2)])).length) Slot.unset).toArray = ls at hl ⊢
  have hl : lv_has ls 5 [(0, .ref (ad 224)), (1, .int (i1)), (2, .int (i2))] := hl
  refine lv_aload_n Bx.1 Bx.2.1 d_Mo_longest_0 rfl (lv_at hl 0 rfl) ?_
  refine lv_iconst (v := 0) Bx.1 Bx.2.1 d_Mo_longest_1 (by decide) ?_
  refine f_put Bx hP hD hS (by omega) hM.1 rfl inMo tyMo okMo nmMo 0 (by decide) kw_656 rfl rfl rfl rfl (Nat.le_of_ble_eq_true rfl) d_Mo_longest_2 (fun H locs hP hS => ?_)
  obtain ⟨J1, eJ1⟩ : ∃ z, z = va_up J 0 (0) := ⟨_, rfl⟩
  obtain ⟨mem2, e_mem2⟩ : ∃ z, z = va_up mem 224 (moC ad J1) := ⟨_, rfl⟩
  have hP : va_P D vcl (fw n ad mem2) H := by rw [e_mem2, eJ1]; exact hP
  have hD : va_D (Az sz) (fw n ad mem2) := fw_D hD
  have hW3 : MW cy ad J1 A nm m0 mem2 := by rw [e_mem2]; exact hM.upJ (by rw [eJ1]; exact va_up_ne _ _ (by decide))
  have kk4 : J1 24 = nI G := by rw [eJ1]; exact h24
  have kk5 : J1 4 = nI R := by rw [eJ1]; exact h4
  have kk6 : J1 7 = nI Ec := by rw [eJ1]; exact h7
  have kk7 : J1 0 = 0 := by rw [eJ1, va_up_self]
  have hJ1 : ∀ i, i ≠ 0 → i ≠ 26 → J1 i = J i := fun i q1 q2 => by rw [eJ1, va_up_ne _ _ q1]
  have hx1 : 0 < R → J1 26 = 0 → Fx A G Ec (A 241) ∧ Lst A G Ec (A 241) := fun q1 q2 => hx0 q1 (by rw [eJ1, va_up_ne _ _ (by decide)] at q2; exact q2)
  have hA1q : ∀ j, j ≠ 241 → A j = A j := fun _ _ => rfl
  refine lv_iload_n Bx.1 Bx.2.1 d_Mo_longest_5 rfl (lv_at hl 1 rfl) ?_
  refine lv_iconst (v := 0) Bx.1 Bx.2.1 d_Mo_longest_6 (by decide) ?_
  refine lv_aload_n Bx.1 Bx.2.1 d_Mo_longest_7 rfl (lv_at hl 0 rfl) ?_
  refine f_get Bx hP (by omega) hW3.1 rfl inMo 4 (by decide) kw_660 rfl rfl d_Mo_longest_8 ?_
  rw [kk5]
  refine lv_iconst (v := 1) Bx.1 Bx.2.1 d_Mo_longest_11 (by decide) ?_
  refine lv_isub Bx.1 Bx.2.1 d_Mo_longest_12 ?_
  refine f_callSi (na := 3) (As := [.int (i1), .int (0), .int (nI R - 1)]) (rest := []) Bx hml E.2.1 (m_Mo_within l (i1) (0) (nI R - 1)) kw_754 kw_755 kw_8 kw_756 (by decide +kernel) ⟨rfl, rfl⟩ ⟨Nat.le_of_ble_eq_true rfl, Nat.le_of_ble_eq_true rfl⟩ rfl hl.1 (Nat.le_of_ble_eq_true rfl) d_Mo_longest_13 ⟨Nat.le_of_ble_eq_true rfl, Nat.le_of_ble_eq_true rfl⟩ (fun r9 hs8 => ?_)
  subst hs8
  refine lv_if_ne Bx.1 Bx.2.1 d_Mo_longest_16 rfl (fun hb10 => ?_) (fun hb10 => ?_)
  · obtain ⟨r0, hr0, rfl⟩ := wr_ok hRb hb10
    refine lv_iload_n Bx.1 Bx.2.1 d_Mo_longest_25 rfl (lv_at hl 2 rfl) ?_
    refine lv_iconst (v := 0) Bx.1 Bx.2.1 d_Mo_longest_26 (by decide) ?_
    refine lv_aload_n Bx.1 Bx.2.1 d_Mo_longest_27 rfl (lv_at hl 0 rfl) ?_
    refine f_get Bx hP (by omega) hW3.1 rfl inMo 24 (by decide) kw_680 rfl rfl d_Mo_longest_28 ?_
    rw [kk4]
    refine f_callSi (na := 3) (As := [.int (i2), .int (0), .int (nI G)]) (rest := []) Bx hml E.2.1 (m_Mo_within l (i2) (0) (nI G)) kw_754 kw_755 kw_8 kw_756 (by decide +kernel) ⟨rfl, rfl⟩ ⟨Nat.le_of_ble_eq_true rfl, Nat.le_of_ble_eq_true rfl⟩ rfl hl.1 (Nat.le_of_ble_eq_true rfl) d_Mo_longest_31 ⟨Nat.le_of_ble_eq_true rfl, Nat.le_of_ble_eq_true rfl⟩ (fun r12 hs11 => ?_)
    subst hs11
    refine lv_if_ne Bx.1 Bx.2.1 d_Mo_longest_34 rfl (fun hb13 => ?_) (fun hb13 => ?_)
    · obtain ⟨i0, hi0, rfl⟩ := wi_ok hGb hb13
      refine lv_iconst (v := -1) Bx.1 Bx.2.1 d_Mo_longest_43 (by decide) ?_
      refine lv_istore_n (lv' := [(3, .int ((-1))), (0, .ref (ad 224)), (1, .int (nI r0)), (2, .int (nI i0))]) Bx.1 Bx.2.1 d_Mo_longest_44 rfl hl (by decide) rfl (fun ls hl => ?_)
      refine lv_iload_n Bx.1 Bx.2.1 d_Mo_longest_45 rfl (lv_at hl 3 rfl) ?_
      refine lv_istore (lv' := [(4, .int (nI i0)), (3, .int ((-1))), (0, .ref (ad 224)), (1, .int (nI r0)), (2, .int (nI i0))]) Bx.1 Bx.2.1 d_Mo_longest_46 hl (by decide) rfl (fun ls hl => ?_)
      have loop14 : ∀ (d15 : Nat) (mem9 : Nat → va_E) (J9 : Nat → Int32) (A9 : Nat → Nat → Int32) (k : Nat) (be : Int32) (ls : Array Slot) (H : Heap) (locs : List Loc), (G + 1 - k < d15) → (MW cy ad J9 A9 nm m0 mem9) → ((∀ i, i ≠ 0 → i ≠ 26 → J9 i = J i) ∧ (∀ j, j ≠ 241 → A9 j = A j) ∧ (0 < R → J9 26 = 0 → Fx A G Ec (A9 241) ∧ Lst A G Ec (A9 241)) ∧ J9 0 = 0) → (i0 ≤ k ∧ k ≤ G + 1) → (MXp (V r0 i0) i0 k be) → (va_P D vcl (fw n ad mem9) H) → (va_D (Az sz) (fw n ad mem9)) → (va_S (Az sz) s.heap H locs) → (lv_has ls 5 [(4, .int (nI k)), (3, .int (be)), (0, .ref (ad 224)), (1, .int (nI r0)), (2, .int (nI i0))]) → W p l e (headSpec (Cond.code y_Mo_longest c_Mo_longest 5 (some .int) :: tg) ({ frames := 6, cells := 0, slots := 0, locals := 180 } : Room)).room s m [.ref (ad 224), .int (nI r0), .int (nI i0)].toArray below meth c H locs 0 0 (MQ below (va_Qi (fun r mem' => ∃ J' A', MW cy ad J' A' nm m0 mem' ∧ (∀ i, i ≠ 0 → i ≠ 26 → J' i = J i) ∧ (∀ j, j ≠ 241 → A' j = A j) ∧ (0 < R → J' 26 = 0 → Fx A G Ec (A' 241) ∧ Lst A G Ec (A' 241)) ∧ ((J' 0 = 1 ∧ ¬ RK R (nI r0)) ∨ (J' 0 = 2 ∧ RK R (nI r0) ∧ ¬ PK G (nI i0) (nI i0)) ∨ (J' 0 = 0 ∧ ∃ ra ia : Nat, ra < R ∧ ia ≤ G ∧ nI r0 = nI ra ∧ nI i0 = nI ia ∧ MX (V ra ia) ia G r))) (PP D n ad) (Az sz)) [.ref (ad 224), .int (nI r0), .int (nI i0)].toArray s 0 0 (Az sz)) (F0 m 48 ls []) := by
        intro d15
        induction d15 with
        | zero => intro mem9 J9 A9 k be ls H locs hmeas21; exact absurd hmeas21 (Nat.not_lt_zero _)
        | succ d15 ih20 =>
          intro mem9 J9 A9 k be ls H locs hmeas21 hz16 hz17 hz18 hz19 hP hD hS hl
          have A9k24 : J9 24 = nI G := (hz17.1 24 (by decide) (by decide)).trans h24
          have A9k7 : J9 7 = nI Ec := (hz17.1 7 (by decide) (by decide)).trans h7
          have A9k4 : J9 4 = nI R := (hz17.1 4 (by decide) (by decide)).trans h4
          refine lv_iload Bx.1 Bx.2.1 d_Mo_longest_48 (lv_at hl 0 rfl) ?_
          refine lv_aload_n Bx.1 Bx.2.1 d_Mo_longest_50 rfl (lv_at hl 2 rfl) ?_
          refine f_get Bx hP (by omega) hz16.1 rfl inMo 24 (by decide) kw_680 rfl rfl d_Mo_longest_51 ?_
          rw [A9k24]
          refine lv_icmp_gt Bx.1 Bx.2.1 d_Mo_longest_54 rfl (fun hb22 => ?_) (fun hb22 => ?_)
          · have hN23 : G < k := (nI_ltI (by omega) (by omega)).mp (show nI (G) < nI (k) from hb22)
            refine lv_iload_n Bx.1 Bx.2.1 d_Mo_longest_85 rfl (lv_at hl 1 rfl) ?_
            exact W.iret (v := be) hx hb hr (fun t ht hW => ⟨⟨be, mem9, rfl, ⟨J9, A9, hz16, hz17.1, hz17.2.1, hz17.2.2.1, Or.inr (Or.inr ⟨hz17.2.2.2, r0, i0, hr0, hi0, rfl, rfl, hz19.mx (by omega)⟩)⟩, by show va_P _ _ _ t.heap; rw [ht]; exact hP⟩, hS.F ht⟩) hS.2.2 d_Mo_longest_86
          · have hN24 : ¬ G < k := fun q9 => hb22 (show nI (G) < nI (k) from (nI_ltI (by omega) (by omega)).mpr q9)
            refine lv_aload_n Bx.1 Bx.2.1 d_Mo_longest_57 rfl (lv_at hl 2 rfl) ?_
            refine lv_iload_n Bx.1 Bx.2.1 d_Mo_longest_58 rfl (lv_at hl 3 rfl) ?_
            refine lv_iload_n Bx.1 Bx.2.1 d_Mo_longest_59 rfl (lv_at hl 4 rfl) ?_
            refine f_callVi (na := 2) (As := [.int (nI r0), .int (nI i0)]) (rest := []) Bx hml E hP hD hS (by omega) hz16.1 rfl (m_Mo_endsOfX l hn hz16 A9k24 hGb A9k7 hEb hRb hub (hGd.congr hz17.2.1) hng hr0 hi0) kw_878 kw_880 sel_Mo_endsOf kw_8 kw_881 (by decide +kernel) ⟨rfl, rfl⟩ ⟨Nat.le_of_ble_eq_true rfl, Nat.le_of_ble_eq_true rfl⟩ rfl hl.1 (Nat.le_of_ble_eq_true rfl) d_Mo_longest_60 ⟨Nat.le_of_ble_eq_true rfl, Nat.le_of_ble_eq_true rfl⟩ (fun r25 mem26 H locs hq hP hS => ?_)
            have hD : va_D (Az sz) (fw n ad mem26) := fw_D hD
            obtain ⟨J27, A28, hW29, hJ30, hA31, h26_34, hcs35, hr36⟩ := hq
            have hJ32 : ∀ i, i ≠ 0 → i ≠ 26 → J27 i = J i := fun i q1 q2 => (hJ30 i q2).trans (hz17.1 i q1 q2)
            have hA33 : ∀ j, j ≠ 241 → A28 j = A j := fun j q1 => (hA31 j q1).trans (hz17.2.1 j q1)
            have hx37 : Fx A G Ec (A28 241) ∧ Lst A G Ec (A28 241) := by
              rcases hcs35 with ⟨z1, z2⟩ | ⟨z1, z2⟩
              · rw [z2]; exact hz17.2.2.1 (by omega) z1
              · exact ⟨z1.cong (fun j q9 => (hz17.2.1 j q9).symm), z2.cong (fun j q9 => (hz17.2.1 j q9).symm)⟩
            have hx38 : 0 < R → J27 26 = 0 → Fx A G Ec (A28 241) ∧ Lst A G Ec (A28 241) := fun _ _ => hx37
            have hv39 : r25 = V r0 i0 := by rw [hr36, show A9 227 = A 227 from hz17.2.1 227 (by decide)]; exact hV _ hx37.1 hx37.2 r0 i0 hr0 hi0
            have h040 : J27 0 = 0 := (hJ30 0 (by decide)).trans hz17.2.2.2
            clear hr36
            subst hv39
            have kk41 : J27 24 = nI G := (hJ30 24 (by decide)).trans A9k24
            have kk42 : J27 7 = nI Ec := (hJ30 7 (by decide)).trans A9k7
            have kk43 : J27 4 = nI R := (hJ30 4 (by decide)).trans A9k4
            refine lv_iload Bx.1 Bx.2.1 d_Mo_longest_63 (lv_at hl 0 rfl) ?_
            refine lv_ishr Bx.1 Bx.2.1 d_Mo_longest_65 ?_
            refine lv_iconst (v := 1) Bx.1 Bx.2.1 d_Mo_longest_66 (by decide) ?_
            refine lv_iand Bx.1 Bx.2.1 d_Mo_longest_67 ?_
            refine lv_iconst (v := 1) Bx.1 Bx.2.1 d_Mo_longest_68 (by decide) ?_
            refine lv_icmp_ne Bx.1 Bx.2.1 d_Mo_longest_69 rfl (fun hb44 => ?_) (fun hb44 => ?_)
            · refine lv_iload_n Bx.1 Bx.2.1 d_Mo_longest_77 rfl (lv_at hl 1 rfl) ?_
              refine lv_istore_n (lv' := [(3, .int (be)), (4, .int (nI k)), (0, .ref (ad 224)), (1, .int (nI r0)), (2, .int (nI i0))]) Bx.1 Bx.2.1 d_Mo_longest_78 rfl hl (by decide) rfl (fun ls hl => ?_)
              refine lv_iinc (lv' := [(4, .int ((nI k + (1)))), (3, .int (be)), (0, .ref (ad 224)), (1, .int (nI r0)), (2, .int (nI i0))]) Bx.1 Bx.2.1 d_Mo_longest_79 hl (k := 1) rfl rfl (by decide) rfl (fun ls hl => ?_)
              rw [show (nI k + (1) : Int32) = nI (k + 1) from nI_1 (k)] at hl
              refine lv_goto Bx.1 Bx.2.1 d_Mo_longest_82 rfl ?_
              exact ih20 mem26 (J27) (A28) (k + 1) (be) _ _ _ (by have := hmeas21; omega) (hW29) (⟨hJ32, hA33, hx38, h040⟩) (⟨by omega, by omega⟩) (hz19.no hb44) hP hD hS (lv_sub hl [0, 1, 2, 3, 4] rfl)
            · refine lv_iload Bx.1 Bx.2.1 d_Mo_longest_72 (lv_at hl 0 rfl) ?_
              refine lv_goto Bx.1 Bx.2.1 d_Mo_longest_74 rfl ?_
              refine lv_istore_n (lv' := [(3, .int (nI k)), (4, .int (nI k)), (0, .ref (ad 224)), (1, .int (nI r0)), (2, .int (nI i0))]) Bx.1 Bx.2.1 d_Mo_longest_78 rfl hl (by decide) rfl (fun ls hl => ?_)
              refine lv_iinc (lv' := [(4, .int ((nI k + (1)))), (3, .int (nI k)), (0, .ref (ad 224)), (1, .int (nI r0)), (2, .int (nI i0))]) Bx.1 Bx.2.1 d_Mo_longest_79 hl (k := 1) rfl rfl (by decide) rfl (fun ls hl => ?_)
              rw [show (nI k + (1) : Int32) = nI (k + 1) from nI_1 (k)] at hl
              refine lv_goto Bx.1 Bx.2.1 d_Mo_longest_82 rfl ?_
              exact ih20 mem26 (J27) (A28) (k + 1) (nI k) _ _ _ (by have := hmeas21; omega) (hW29) (⟨hJ32, hA33, hx38, h040⟩) (⟨by omega, by omega⟩) (hz19.yes (by omega) hb44) hP hD hS (lv_sub hl [0, 1, 2, 3, 4] rfl)
      exact loop14 _ mem2 (J1) (A) (i0) (-1) _ _ _ (Nat.lt_succ_self _) (hW3) (⟨hJ1, hA1q, hx1, kk7⟩) (⟨Nat.le_refl _, by omega⟩) (MXp.start) hP hD hS (lv_sub hl [0, 1, 2, 3, 4] rfl)
    · refine lv_aload_n Bx.1 Bx.2.1 d_Mo_longest_37 rfl (lv_at hl 0 rfl) ?_
      refine lv_iconst (v := 2) Bx.1 Bx.2.1 d_Mo_longest_38 (by decide) ?_
      refine f_callVi (na := 1) (As := [.int (2)]) (rest := []) Bx hml E hP hD hS (by omega) hW3.1 rfl (m_Mo_fail l hn (J := J1) hW3.1) kw_757 kw_759 sel_Mo_fail kw_8 kw_760 (by decide +kernel) ⟨rfl, rfl⟩ ⟨Nat.le_of_ble_eq_true rfl, Nat.le_of_ble_eq_true rfl⟩ rfl hl.1 (Nat.le_of_ble_eq_true rfl) d_Mo_longest_39 ⟨Nat.le_of_ble_eq_true rfl, Nat.le_of_ble_eq_true rfl⟩ (fun r45 mem46 H locs hq hP hS => ?_)
      have hD : va_D (Az sz) (fw n ad mem46) := fw_D hD
      obtain ⟨hq0, hq⟩ := hq
      subst hq0
      obtain ⟨J47, eJ47⟩ : ∃ z, z = va_up J1 0 (2) := ⟨_, rfl⟩
      have hW48 : MW cy ad J47 A nm m0 mem46 := by rw [hq, eJ47]; exact hW3.upJ (va_up_ne _ _ (by decide))
      have hJ49 : ∀ i, i ≠ 0 → i ≠ 26 → J47 i = J i := fun i q1 q2 => by rw [eJ47, va_up_ne _ _ q1]; exact hJ1 i q1 q2
      have hx50 : 0 < R → J47 26 = 0 → Fx A G Ec (A 241) ∧ Lst A G Ec (A 241) := fun q1 q2 => hx1 q1 (by rw [eJ47, va_up_ne _ _ (by decide)] at q2; exact q2)
      have h051 : J47 0 = 2 := by rw [eJ47, va_up_self]
      exact W.iret (v := 0) hx hb hr (fun t ht hW => ⟨⟨0, mem46, rfl, ⟨J47, A, hW48, hJ49, hA1q, hx50, Or.inr (Or.inl ⟨h051, ⟨r0, hr0, rfl⟩, wi_no hGb hb13⟩)⟩, by show va_P _ _ _ t.heap; rw [ht]; exact hP⟩, hS.F ht⟩) hS.2.2 d_Mo_longest_42
  · refine lv_aload_n Bx.1 Bx.2.1 d_Mo_longest_19 rfl (lv_at hl 0 rfl) ?_
    refine lv_iconst (v := 1) Bx.1 Bx.2.1 d_Mo_longest_20 (by decide) ?_
    refine f_callVi (na := 1) (As := [.int (1)]) (rest := []) Bx hml E hP hD hS (by omega) hW3.1 rfl (m_Mo_fail l hn (J := J1) hW3.1) kw_757 kw_759 sel_Mo_fail kw_8 kw_760 (by decide +kernel) ⟨rfl, rfl⟩ ⟨Nat.le_of_ble_eq_true rfl, Nat.le_of_ble_eq_true rfl⟩ rfl hl.1 (Nat.le_of_ble_eq_true rfl) d_Mo_longest_21 ⟨Nat.le_of_ble_eq_true rfl, Nat.le_of_ble_eq_true rfl⟩ (fun r52 mem53 H locs hq hP hS => ?_)
    have hD : va_D (Az sz) (fw n ad mem53) := fw_D hD
    obtain ⟨hq0, hq⟩ := hq
    subst hq0
    obtain ⟨J54, eJ54⟩ : ∃ z, z = va_up J1 0 (1) := ⟨_, rfl⟩
    have hW55 : MW cy ad J54 A nm m0 mem53 := by rw [hq, eJ54]; exact hW3.upJ (va_up_ne _ _ (by decide))
    have hJ56 : ∀ i, i ≠ 0 → i ≠ 26 → J54 i = J i := fun i q1 q2 => by rw [eJ54, va_up_ne _ _ q1]; exact hJ1 i q1 q2
    have hx57 : 0 < R → J54 26 = 0 → Fx A G Ec (A 241) ∧ Lst A G Ec (A 241) := fun q1 q2 => hx1 q1 (by rw [eJ54, va_up_ne _ _ (by decide)] at q2; exact q2)
    have h058 : J54 0 = 1 := by rw [eJ54, va_up_self]
    exact W.iret (v := 0) hx hb hr (fun t ht hW => ⟨⟨0, mem53, rfl, ⟨J54, A, hW55, hJ56, hA1q, hx57, Or.inl ⟨h058, wr_no hRb hb10⟩⟩, by show va_P _ _ _ t.heap; rw [ht]; exact hP⟩, hS.F ht⟩) hS.2.2 d_Mo_longest_24
set_option maxHeartbeats 4000000 in
set_option maxRecDepth 100000 in
theorem m_Mo_piecesY (l : Launch) {D : va_G} {cy : Nat → ClassId} {sz n : Nat} {ad : Nat → Nat} {mem : Nat → va_E} {J : Nat → Int32} {A : Nat → Nat → Int32} {nm : Nat → Int64} {m0 : Nat → va_E} {G R Ec u : Nat} {V : Nat → Nat → Int32} {i1 : Int32} (hn : 242 ≤ n) (hM : MW cy ad J A nm m0 mem) (h24 : J 24 = nI G) (hGb : G ≤ 24) (h4 : J 4 = nI R) (h7 : J 7 = nI Ec) (hEb : Ec ≤ 100) (hRb : R ≤ 12) (hub : u ≤ 240) (hGd : Gd R Ec u A) (hng : NoG m0) (hx0 : 0 < R → J 26 = 0 → Fx A G Ec (A 241) ∧ Lst A G Ec (A 241)) (hV : ∀ gR, Fx A G Ec gR → Lst A G Ec gR → ∀ r i, r < R → i ≤ G → (if A 227 r < 0 then 0 else gR (25 * (A 227 r).toNatClampNeg + i)) = V r i) : MI l D cy sz n ad y_Mo_pieces c_Mo_pieces 5 (some .int) ({ frames := 6, cells := 0, slots := 0, locals := 180 } : Room) mem [.ref (ad 224), .int (i1)] (fun r mem' => ∃ J' A', MW cy ad J' A' nm m0 mem' ∧ (∀ i, i ≠ 0 → i ≠ 26 → J' i = J i) ∧ (∀ j, j ≠ 241 → A' j = A j) ∧ (0 < R → J' 26 = 0 → Fx A G Ec (A' 241) ∧ Lst A G Ec (A' 241)) ∧ ((J' 0 = 1 ∧ ¬ RK R (i1)) ∨ (J' 0 = 0 ∧ ∃ ra : Nat, ra < R ∧ i1 = nI ra))) := by
  refine Met.ofW (cc := c_Mo_pieces) (maxL := 5) (ret := (some .int)) (by decide) rfl ?_
  intro p e s m args below meth c s₁ B hml hv
  obtain ⟨rfl, E, hP, hD⟩ := hv
  have hx := B.exec
  have hb := B.bytes
  have hr := B.returns
  have hlocks := B.notSynchronized
  have Bx : MB p s m [.ref (ad 224), .int (i1)].toArray c c_Mo_pieces "AbnfChartModel" D cy := ⟨hx, hb, tb_all (atoms_spec B.pre) E.2.1, findClass_of_methodNamed B.named, E.1⟩
  have hS : va_S (Az sz) s.heap s.heap [] := va_S.rf
  have hl := lv_entry ([.ref (ad 224), .int (i1)]) (n := 5) (Nat.le_of_ble_eq_true rfl)
  rw [lg_entry_eq]
  generalize (lg_sl ([.ref (ad 224), .int (i1)]) ++ List.replicate (5 - (lg_sl ([.ref (ad 224), .int (i1)])).length) Slot.unset).toArray = ls at hl ⊢
  have hl : lv_has ls 5 [(0, .ref (ad 224)), (1, .int (i1))] := hl
  refine lv_aload_n Bx.1 Bx.2.1 d_Mo_pieces_0 rfl (lv_at hl 0 rfl) ?_
  refine lv_iconst (v := 0) Bx.1 Bx.2.1 d_Mo_pieces_1 (by decide) ?_
  refine f_put Bx hP hD hS (by omega) hM.1 rfl inMo tyMo okMo nmMo 0 (by decide) kw_656 rfl rfl rfl rfl (Nat.le_of_ble_eq_true rfl) d_Mo_pieces_2 (fun H locs hP hS => ?_)
  obtain ⟨J1, eJ1⟩ : ∃ z, z = va_up J 0 (0) := ⟨_, rfl⟩
  obtain ⟨mem2, e_mem2⟩ : ∃ z, z = va_up mem 224 (moC ad J1) := ⟨_, rfl⟩
  have hP : va_P D vcl (fw n ad mem2) H := by rw [e_mem2, eJ1]; exact hP
  have hD : va_D (Az sz) (fw n ad mem2) := fw_D hD
  have hW3 : MW cy ad J1 A nm m0 mem2 := by rw [e_mem2]; exact hM.upJ (by rw [eJ1]; exact va_up_ne _ _ (by decide))
  have kk4 : J1 24 = nI G := by rw [eJ1]; exact h24
  have kk5 : J1 4 = nI R := by rw [eJ1]; exact h4
  have kk6 : J1 7 = nI Ec := by rw [eJ1]; exact h7
  have kk7 : J1 0 = 0 := by rw [eJ1, va_up_self]
  have hJ1 : ∀ i, i ≠ 0 → i ≠ 26 → J1 i = J i := fun i q1 q2 => by rw [eJ1, va_up_ne _ _ q1]
  have hx1 : 0 < R → J1 26 = 0 → Fx A G Ec (A 241) ∧ Lst A G Ec (A 241) := fun q1 q2 => hx0 q1 (by rw [eJ1, va_up_ne _ _ (by decide)] at q2; exact q2)
  have hA1q : ∀ j, j ≠ 241 → A j = A j := fun _ _ => rfl
  refine lv_iload_n Bx.1 Bx.2.1 d_Mo_pieces_5 rfl (lv_at hl 1 rfl) ?_
  refine lv_iconst (v := 0) Bx.1 Bx.2.1 d_Mo_pieces_6 (by decide) ?_
  refine lv_aload_n Bx.1 Bx.2.1 d_Mo_pieces_7 rfl (lv_at hl 0 rfl) ?_
  refine f_get Bx hP (by omega) hW3.1 rfl inMo 4 (by decide) kw_660 rfl rfl d_Mo_pieces_8 ?_
  rw [kk5]
  refine lv_iconst (v := 1) Bx.1 Bx.2.1 d_Mo_pieces_11 (by decide) ?_
  refine lv_isub Bx.1 Bx.2.1 d_Mo_pieces_12 ?_
  refine f_callSi (na := 3) (As := [.int (i1), .int (0), .int (nI R - 1)]) (rest := []) Bx hml E.2.1 (m_Mo_within l (i1) (0) (nI R - 1)) kw_754 kw_755 kw_8 kw_756 (by decide +kernel) ⟨rfl, rfl⟩ ⟨Nat.le_of_ble_eq_true rfl, Nat.le_of_ble_eq_true rfl⟩ rfl hl.1 (Nat.le_of_ble_eq_true rfl) d_Mo_pieces_13 ⟨Nat.le_of_ble_eq_true rfl, Nat.le_of_ble_eq_true rfl⟩ (fun r9 hs8 => ?_)
  subst hs8
  refine lv_if_ne Bx.1 Bx.2.1 d_Mo_pieces_16 rfl (fun hb10 => ?_) (fun hb10 => ?_)
  · obtain ⟨r0, hr0, rfl⟩ := wr_ok hRb hb10
    refine lv_iconst (v := 0) Bx.1 Bx.2.1 d_Mo_pieces_25 (by decide) ?_
    refine lv_istore_n (lv' := [(2, .int (0)), (0, .ref (ad 224)), (1, .int (nI r0))]) Bx.1 Bx.2.1 d_Mo_pieces_26 rfl hl (by decide) rfl (fun ls hl => ?_)
    refine lv_iconst (v := 0) Bx.1 Bx.2.1 d_Mo_pieces_27 (by decide) ?_
    refine lv_istore_n (lv' := [(3, .int (0)), (2, .int (0)), (0, .ref (ad 224)), (1, .int (nI r0))]) Bx.1 Bx.2.1 d_Mo_pieces_28 rfl hl (by decide) rfl (fun ls hl => ?_)
    have loop11 : ∀ (d12 : Nat) (mem9 : Nat → va_E) (J9 : Nat → Int32) (A9 : Nat → Nat → Int32) (ii : Nat) (t1 : Int32) (ls : Array Slot) (H : Heap) (locs : List Loc), (G + 1 - ii < d12) → (MW cy ad J9 A9 nm m0 mem9) → ((∀ i, i ≠ 0 → i ≠ 26 → J9 i = J i) ∧ (∀ j, j ≠ 241 → A9 j = A j) ∧ (0 < R → J9 26 = 0 → Fx A G Ec (A9 241) ∧ Lst A G Ec (A9 241)) ∧ J9 0 = 0) → (ii ≤ G + 1) → (va_P D vcl (fw n ad mem9) H) → (va_D (Az sz) (fw n ad mem9)) → (va_S (Az sz) s.heap H locs) → (lv_has ls 5 [(3, .int (nI ii)), (2, .int (t1)), (0, .ref (ad 224)), (1, .int (nI r0))]) → W p l e (headSpec (Cond.code y_Mo_pieces c_Mo_pieces 5 (some .int) :: tg) ({ frames := 6, cells := 0, slots := 0, locals := 180 } : Room)).room s m [.ref (ad 224), .int (nI r0)].toArray below meth c H locs 0 0 (MQ below (va_Qi (fun r mem' => ∃ J' A', MW cy ad J' A' nm m0 mem' ∧ (∀ i, i ≠ 0 → i ≠ 26 → J' i = J i) ∧ (∀ j, j ≠ 241 → A' j = A j) ∧ (0 < R → J' 26 = 0 → Fx A G Ec (A' 241) ∧ Lst A G Ec (A' 241)) ∧ ((J' 0 = 1 ∧ ¬ RK R (nI r0)) ∨ (J' 0 = 0 ∧ ∃ ra : Nat, ra < R ∧ nI r0 = nI ra))) (PP D n ad) (Az sz)) [.ref (ad 224), .int (nI r0)].toArray s 0 0 (Az sz)) (F0 m 29 ls []) := by
      intro d12
      induction d12 with
      | zero => intro mem9 J9 A9 ii t1 ls H locs hmeas17; exact absurd hmeas17 (Nat.not_lt_zero _)
      | succ d12 ih16 =>
        intro mem9 J9 A9 ii t1 ls H locs hmeas17 hz13 hz14 hz15 hP hD hS hl
        have A9k24 : J9 24 = nI G := (hz14.1 24 (by decide) (by decide)).trans h24
        have A9k7 : J9 7 = nI Ec := (hz14.1 7 (by decide) (by decide)).trans h7
        have A9k4 : J9 4 = nI R := (hz14.1 4 (by decide) (by decide)).trans h4
        refine lv_iload_n Bx.1 Bx.2.1 d_Mo_pieces_29 rfl (lv_at hl 0 rfl) ?_
        refine lv_aload_n Bx.1 Bx.2.1 d_Mo_pieces_30 rfl (lv_at hl 2 rfl) ?_
        refine f_get Bx hP (by omega) hz13.1 rfl inMo 24 (by decide) kw_680 rfl rfl d_Mo_pieces_31 ?_
        rw [A9k24]
        refine lv_icmp_gt Bx.1 Bx.2.1 d_Mo_pieces_34 rfl (fun hb18 => ?_) (fun hb18 => ?_)
        · have hN19 : G < ii := (nI_ltI (by omega) (by omega)).mp (show nI (G) < nI (ii) from hb18)
          refine lv_iload_n Bx.1 Bx.2.1 d_Mo_pieces_75 rfl (lv_at hl 1 rfl) ?_
          exact W.iret (v := t1) hx hb hr (fun t ht hW => ⟨⟨t1, mem9, rfl, ⟨J9, A9, hz13, hz14.1, hz14.2.1, hz14.2.2.1, Or.inr ⟨hz14.2.2.2, r0, hr0, rfl⟩⟩, by show va_P _ _ _ t.heap; rw [ht]; exact hP⟩, hS.F ht⟩) hS.2.2 d_Mo_pieces_76
        · have hN20 : ¬ G < ii := fun q9 => hb18 (show nI (G) < nI (ii) from (nI_ltI (by omega) (by omega)).mpr q9)
          have hii : ii ≤ G := by omega
          refine lv_iload_n Bx.1 Bx.2.1 d_Mo_pieces_37 rfl (lv_at hl 0 rfl) ?_
          refine lv_istore (lv' := [(4, .int (nI ii)), (3, .int (nI ii)), (2, .int (t1)), (0, .ref (ad 224)), (1, .int (nI r0))]) Bx.1 Bx.2.1 d_Mo_pieces_38 hl (by decide) rfl (fun ls hl => ?_)
          have loop21 : ∀ (d22 : Nat) (mem10 : Nat → va_E) (J10 : Nat → Int32) (A10 : Nat → Nat → Int32) (jj : Nat) (t2 : Int32) (ls : Array Slot) (H : Heap) (locs : List Loc), (G + 1 - jj < d22) → (MW cy ad J10 A10 nm m0 mem10) → ((∀ i, i ≠ 0 → i ≠ 26 → J10 i = J i) ∧ (∀ j, j ≠ 241 → A10 j = A j) ∧ (0 < R → J10 26 = 0 → Fx A G Ec (A10 241) ∧ Lst A G Ec (A10 241)) ∧ J10 0 = 0) → (jj ≤ G + 1) → (va_P D vcl (fw n ad mem10) H) → (va_D (Az sz) (fw n ad mem10)) → (va_S (Az sz) s.heap H locs) → (lv_has ls 5 [(4, .int (nI jj)), (3, .int (nI ii)), (2, .int (t2)), (0, .ref (ad 224)), (1, .int (nI r0))]) → W p l e (headSpec (Cond.code y_Mo_pieces c_Mo_pieces 5 (some .int) :: tg) ({ frames := 6, cells := 0, slots := 0, locals := 180 } : Room)).room s m [.ref (ad 224), .int (nI r0)].toArray below meth c H locs 0 0 (MQ below (va_Qi (fun r mem' => ∃ J' A', MW cy ad J' A' nm m0 mem' ∧ (∀ i, i ≠ 0 → i ≠ 26 → J' i = J i) ∧ (∀ j, j ≠ 241 → A' j = A j) ∧ (0 < R → J' 26 = 0 → Fx A G Ec (A' 241) ∧ Lst A G Ec (A' 241)) ∧ ((J' 0 = 1 ∧ ¬ RK R (nI r0)) ∨ (J' 0 = 0 ∧ ∃ ra : Nat, ra < R ∧ nI r0 = nI ra))) (PP D n ad) (Az sz)) [.ref (ad 224), .int (nI r0)].toArray s 0 0 (Az sz)) (F0 m 40 ls []) := by
            intro d22
            induction d22 with
            | zero => intro mem10 J10 A10 jj t2 ls H locs hmeas27; exact absurd hmeas27 (Nat.not_lt_zero _)
            | succ d22 ih26 =>
              intro mem10 J10 A10 jj t2 ls H locs hmeas27 hz23 hz24 hz25 hP hD hS hl
              have A10k24 : J10 24 = nI G := (hz24.1 24 (by decide) (by decide)).trans h24
              have A10k7 : J10 7 = nI Ec := (hz24.1 7 (by decide) (by decide)).trans h7
              have A10k4 : J10 4 = nI R := (hz24.1 4 (by decide) (by decide)).trans h4
              refine lv_iload Bx.1 Bx.2.1 d_Mo_pieces_40 (lv_at hl 0 rfl) ?_
              refine lv_aload_n Bx.1 Bx.2.1 d_Mo_pieces_42 rfl (lv_at hl 3 rfl) ?_
              refine f_get Bx hP (by omega) hz23.1 rfl inMo 24 (by decide) kw_680 rfl rfl d_Mo_pieces_43 ?_
              rw [A10k24]
              refine lv_icmp_gt Bx.1 Bx.2.1 d_Mo_pieces_46 rfl (fun hb28 => ?_) (fun hb28 => ?_)
              · have hN29 : G < jj := (nI_ltI (by omega) (by omega)).mp (show nI (G) < nI (jj) from hb28)
                refine lv_iinc (lv' := [(3, .int ((nI ii + (1)))), (4, .int (nI jj)), (2, .int (t2)), (0, .ref (ad 224)), (1, .int (nI r0))]) Bx.1 Bx.2.1 d_Mo_pieces_69 hl (k := 1) rfl rfl (by decide) rfl (fun ls hl => ?_)
                rw [show (nI ii + (1) : Int32) = nI (ii + 1) from nI_1 (ii)] at hl
                refine lv_goto Bx.1 Bx.2.1 d_Mo_pieces_72 rfl ?_
                exact ih16 mem10 (J10) (A10) (ii + 1) (t2) _ _ _ (by have := hmeas17; omega) (hz23) (⟨hz24.1, hz24.2.1, hz24.2.2.1, hz24.2.2.2⟩) (by omega) hP hD hS (lv_sub hl [0, 2, 3, 4] rfl)
              · have hN30 : ¬ G < jj := fun q9 => hb28 (show nI (G) < nI (jj) from (nI_ltI (by omega) (by omega)).mpr q9)
                refine lv_iload_n Bx.1 Bx.2.1 d_Mo_pieces_49 rfl (lv_at hl 2 rfl) ?_
                refine lv_aload_n Bx.1 Bx.2.1 d_Mo_pieces_50 rfl (lv_at hl 3 rfl) ?_
                refine lv_iload_n Bx.1 Bx.2.1 d_Mo_pieces_51 rfl (lv_at hl 4 rfl) ?_
                refine lv_iload_n Bx.1 Bx.2.1 d_Mo_pieces_52 rfl (lv_at hl 1 rfl) ?_
                refine f_callVi (na := 2) (As := [.int (nI r0), .int (nI ii)]) (rest := [.int (t2)]) Bx hml E hP hD hS (by omega) hz23.1 rfl (m_Mo_endsOfX l hn hz23 A10k24 hGb A10k7 hEb hRb hub (hGd.congr hz24.2.1) hng hr0 hii) kw_878 kw_880 sel_Mo_endsOf kw_8 kw_881 (by decide +kernel) ⟨rfl, rfl⟩ ⟨Nat.le_of_ble_eq_true rfl, Nat.le_of_ble_eq_true rfl⟩ rfl hl.1 (Nat.le_of_ble_eq_true rfl) d_Mo_pieces_53 ⟨Nat.le_of_ble_eq_true rfl, Nat.le_of_ble_eq_true rfl⟩ (fun r31 mem32 H locs hq hP hS => ?_)
                have hD : va_D (Az sz) (fw n ad mem32) := fw_D hD
                obtain ⟨J33, A34, hW35, hJ36, hA37, h26_40, hcs41, hr42⟩ := hq
                have hJ38 : ∀ i, i ≠ 0 → i ≠ 26 → J33 i = J i := fun i q1 q2 => (hJ36 i q2).trans (hz24.1 i q1 q2)
                have hA39 : ∀ j, j ≠ 241 → A34 j = A j := fun j q1 => (hA37 j q1).trans (hz24.2.1 j q1)
                have hx43 : Fx A G Ec (A34 241) ∧ Lst A G Ec (A34 241) := by
                  rcases hcs41 with ⟨z1, z2⟩ | ⟨z1, z2⟩
                  · rw [z2]; exact hz24.2.2.1 (by omega) z1
                  · exact ⟨z1.cong (fun j q9 => (hz24.2.1 j q9).symm), z2.cong (fun j q9 => (hz24.2.1 j q9).symm)⟩
                have hx44 : 0 < R → J33 26 = 0 → Fx A G Ec (A34 241) ∧ Lst A G Ec (A34 241) := fun _ _ => hx43
                have hv45 : r31 = V r0 ii := by rw [hr42, show A10 227 = A 227 from hz24.2.1 227 (by decide)]; exact hV _ hx43.1 hx43.2 r0 ii hr0 hii
                have h046 : J33 0 = 0 := (hJ36 0 (by decide)).trans hz24.2.2.2
                clear hr42
                subst hv45
                have kk47 : J33 24 = nI G := (hJ36 24 (by decide)).trans A10k24
                have kk48 : J33 7 = nI Ec := (hJ36 7 (by decide)).trans A10k7
                have kk49 : J33 4 = nI R := (hJ36 4 (by decide)).trans A10k4
                refine lv_iload Bx.1 Bx.2.1 d_Mo_pieces_56 (lv_at hl 0 rfl) ?_
                refine lv_ishr Bx.1 Bx.2.1 d_Mo_pieces_58 ?_
                refine lv_iconst (v := 1) Bx.1 Bx.2.1 d_Mo_pieces_59 (by decide) ?_
                refine lv_iand Bx.1 Bx.2.1 d_Mo_pieces_60 ?_
                refine lv_topi (fun bt50 e_bt50 => ?_)
                refine lv_iadd Bx.1 Bx.2.1 d_Mo_pieces_61 ?_
                refine lv_istore_n (lv' := [(2, .int (t2 + bt50)), (4, .int (nI jj)), (3, .int (nI ii)), (0, .ref (ad 224)), (1, .int (nI r0))]) Bx.1 Bx.2.1 d_Mo_pieces_62 rfl hl (by decide) rfl (fun ls hl => ?_)
                refine lv_iinc (lv' := [(4, .int ((nI jj + (1)))), (2, .int (t2 + bt50)), (3, .int (nI ii)), (0, .ref (ad 224)), (1, .int (nI r0))]) Bx.1 Bx.2.1 d_Mo_pieces_63 hl (k := 1) rfl rfl (by decide) rfl (fun ls hl => ?_)
                rw [show (nI jj + (1) : Int32) = nI (jj + 1) from nI_1 (jj)] at hl
                refine lv_goto Bx.1 Bx.2.1 d_Mo_pieces_66 rfl ?_
                exact ih26 mem32 (J33) (A34) (jj + 1) (t2 + bt50) _ _ _ (by have := hmeas27; omega) (hW35) (⟨hJ38, hA39, hx44, h046⟩) (by omega) hP hD hS (lv_sub hl [0, 2, 1, 3, 4] rfl)
          exact loop21 _ mem9 (J9) (A9) (ii) (t1) _ _ _ (Nat.lt_succ_self _) (hz13) (⟨hz14.1, hz14.2.1, hz14.2.2.1, hz14.2.2.2⟩) (by omega) hP hD hS (lv_sub hl [0, 1, 2, 3, 4] rfl)
    exact loop11 _ mem2 (J1) (A) (0) (0) _ _ _ (Nat.lt_succ_self _) (hW3) (⟨hJ1, hA1q, hx1, kk7⟩) (by omega) hP hD hS (lv_sub hl [0, 1, 2, 3] rfl)
  · refine lv_aload_n Bx.1 Bx.2.1 d_Mo_pieces_19 rfl (lv_at hl 0 rfl) ?_
    refine lv_iconst (v := 1) Bx.1 Bx.2.1 d_Mo_pieces_20 (by decide) ?_
    refine f_callVi (na := 1) (As := [.int (1)]) (rest := []) Bx hml E hP hD hS (by omega) hW3.1 rfl (m_Mo_fail l hn (J := J1) hW3.1) kw_757 kw_759 sel_Mo_fail kw_8 kw_760 (by decide +kernel) ⟨rfl, rfl⟩ ⟨Nat.le_of_ble_eq_true rfl, Nat.le_of_ble_eq_true rfl⟩ rfl hl.1 (Nat.le_of_ble_eq_true rfl) d_Mo_pieces_21 ⟨Nat.le_of_ble_eq_true rfl, Nat.le_of_ble_eq_true rfl⟩ (fun r51 mem52 H locs hq hP hS => ?_)
    have hD : va_D (Az sz) (fw n ad mem52) := fw_D hD
    obtain ⟨hq0, hq⟩ := hq
    subst hq0
    obtain ⟨J53, eJ53⟩ : ∃ z, z = va_up J1 0 (1) := ⟨_, rfl⟩
    have hW54 : MW cy ad J53 A nm m0 mem52 := by rw [hq, eJ53]; exact hW3.upJ (va_up_ne _ _ (by decide))
    have hJ55 : ∀ i, i ≠ 0 → i ≠ 26 → J53 i = J i := fun i q1 q2 => by rw [eJ53, va_up_ne _ _ q1]; exact hJ1 i q1 q2
    have hx56 : 0 < R → J53 26 = 0 → Fx A G Ec (A 241) ∧ Lst A G Ec (A 241) := fun q1 q2 => hx1 q1 (by rw [eJ53, va_up_ne _ _ (by decide)] at q2; exact q2)
    have h057 : J53 0 = 1 := by rw [eJ53, va_up_self]
    exact W.iret (v := 0) hx hb hr (fun t ht hW => ⟨⟨0, mem52, rfl, ⟨J53, A, hW54, hJ55, hA1q, hx56, Or.inl ⟨h057, wr_no hRb hb10⟩⟩, by show va_P _ _ _ t.heap; rw [ht]; exact hP⟩, hS.F ht⟩) hS.2.2 d_Mo_pieces_24
