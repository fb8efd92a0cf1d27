theorem figF_ne {x b : Int32} (h : ¬ figF x b < 0) : x ≠ -1 := by
  rintro rfl
  apply h
  unfold figF dgF
  have e : smF (-1) = -1 := by decide
  rw [e]
  by_cases q : b = 16 <;> simp [q] <;> decide
set_option maxHeartbeats 4000000 in
set_option maxRecDepth 100000 in
theorem m_Mo_numberX (l : Launch) {D : va_G} {cy : Nat → ClassId} {sz n : Nat} {ad : Nat → Nat} {mem : Nat → va_E} {J : Nat → Int32} {A : Nat → Nat → Int32} {nm : Nat → Int64} {m0 : Nat → va_E} {L a : Nat} {ba fro : Int32} (hn : 242 ≤ n) (hM : MW cy ad J A nm m0 mem) (h1 : J 1 = nI L) (hL : L ≤ 240) (ha : J 16 = nI a) (haL : a ≤ L) (h17 : J 17 = 0) : MI l D cy sz n ad y_Mo_number c_Mo_number 5 (some .int) ({ frames := 3, cells := 0, slots := 0, locals := 90 } : Room) mem [.ref (ad 224), .int (ba), .int (fro)] (fun r mem' => ∃ J', MW cy ad J' A nm m0 mem' ∧ a ≤ a + (numN (A 225) L ba (if ba = 10 then 3 else 2) a 0).2 ∧ a + (numN (A 225) L ba (if ba = 10 then 3 else 2) a 0).2 ≤ L ∧ J' 16 = nI (a + (numN (A 225) L ba (if ba = 10 then 3 else 2) a 0).2) ∧ (∀ i, i ≠ 16 → i ≠ 17 → i ≠ 3 → J' i = J i) ∧ r = (numN (A 225) L ba (if ba = 10 then 3 else 2) a 0).1 ∧ ((numS (A 225) L a ba = none ∧ b12 (J' 17)) ∨ (numS (A 225) L a ba = some ((numN (A 225) L ba (if ba = 10 then 3 else 2) a 0).1, a + (numN (A 225) L ba (if ba = 10 then 3 else 2) a 0).2) ∧ J' 17 = 0 ∧ 0 < (numN (A 225) L ba (if ba = 10 then 3 else 2) a 0).2))) := by
  refine Met.ofW (cc := c_Mo_number) (maxL := 5) (ret := (some .int)) (by decide) rfl ?_
  intro p e s m args below meth c s₁ B hml hv
  obtain ⟨rfl, E, hP, hD⟩ := hv
  have hx := B.exec
  have hb := B.bytes
  have hr := B.returns
  have hlocks := B.notSynchronized
  have Bx : MB p s m [.ref (ad 224), .int (ba), .int (fro)].toArray c c_Mo_number "AbnfChartModel" D cy := ⟨hx, hb, tb_all (atoms_spec B.pre) E.2.1, findClass_of_methodNamed B.named, E.1⟩
  have hS : va_S (Az sz) s.heap s.heap [] := va_S.rf
  have hl := lv_entry ([.ref (ad 224), .int (ba), .int (fro)]) (n := 5) (Nat.le_of_ble_eq_true rfl)
  rw [lg_entry_eq]
  generalize (lg_sl ([.ref (ad 224), .int (ba), .int (fro)]) ++ List.replicate (5 - (lg_sl ([.ref (ad 224), .int (ba), .int (fro)])).length) Slot.unset).toArray = ls at hl ⊢
  have hl : lv_has ls 5 [(0, .ref (ad 224)), (1, .int (ba)), (2, .int (fro))] := hl
  refine lv_iconst (v := 0) Bx.1 Bx.2.1 d_Mo_number_0 (by decide) ?_
  refine lv_istore_n (lv' := [(3, .int (0)), (0, .ref (ad 224)), (1, .int (ba)), (2, .int (fro))]) Bx.1 Bx.2.1 d_Mo_number_1 rfl hl (by decide) rfl (fun ls hl => ?_)
  refine lv_iconst (v := 0) Bx.1 Bx.2.1 d_Mo_number_2 (by decide) ?_
  refine lv_istore (lv' := [(4, .int (0)), (3, .int (0)), (0, .ref (ad 224)), (1, .int (ba)), (2, .int (fro))]) Bx.1 Bx.2.1 d_Mo_number_3 hl (by decide) rfl (fun ls hl => ?_)
  have loop1 : ∀ (d2 : Nat) (mem9 : Nat → va_E) (J9 : Nat → Int32) (a1 : Nat) (k : Nat) (v : Int32) (ls : Array Slot) (H : Heap) (locs : List Loc), ((if ba = 10 then 3 else 2) - k < d2) → (J9 = va_up J 16 (nI a1) ∧ J9 1 = nI L ∧ J9 16 = nI a1 ∧ J9 17 = 0) → (MW cy ad J9 A nm m0 mem9) → (a1 = a + k ∧ a1 ≤ L ∧ k ≤ (if ba = 10 then 3 else 2)) → ((numN (A 225) L ba ((if ba = 10 then 3 else 2) - k) a1 v).1 = (numN (A 225) L ba (if ba = 10 then 3 else 2) a 0).1 ∧ (numN (A 225) L ba ((if ba = 10 then 3 else 2) - k) a1 v).2 + k = (numN (A 225) L ba (if ba = 10 then 3 else 2) a 0).2) → (va_P D vcl (fw n ad mem9) H) → (va_D (Az sz) (fw n ad mem9)) → (va_S (Az sz) s.heap H locs) → (lv_has ls 5 [(4, .int (nI k)), (3, .int (v)), (0, .ref (ad 224)), (1, .int (ba)), (2, .int (fro))]) → W p l e (headSpec (Cond.code y_Mo_number c_Mo_number 5 (some .int) :: tg) ({ frames := 3, cells := 0, slots := 0, locals := 90 } : Room)).room s m [.ref (ad 224), .int (ba), .int (fro)].toArray below meth c H locs 0 0 (MQ below (va_Qi (fun r mem' => ∃ J', MW cy ad J' A nm m0 mem' ∧ a ≤ a + (numN (A 225) L ba (if ba = 10 then 3 else 2) a 0).2 ∧ a + (numN (A 225) L ba (if ba = 10 then 3 else 2) a 0).2 ≤ L ∧ J' 16 = nI (a + (numN (A 225) L ba (if ba = 10 then 3 else 2) a 0).2) ∧ (∀ i, i ≠ 16 → i ≠ 17 → i ≠ 3 → J' i = J i) ∧ r = (numN (A 225) L ba (if ba = 10 then 3 else 2) a 0).1 ∧ ((numS (A 225) L a ba = none ∧ b12 (J' 17)) ∨ (numS (A 225) L a ba = some ((numN (A 225) L ba (if ba = 10 then 3 else 2) a 0).1, a + (numN (A 225) L ba (if ba = 10 then 3 else 2) a 0).2) ∧ J' 17 = 0 ∧ 0 < (numN (A 225) L ba (if ba = 10 then 3 else 2) a 0).2))) (PP D n ad) (Az sz)) [.ref (ad 224), .int (ba), .int (fro)].toArray s 0 0 (Az sz)) (F0 m 5 ls []) := by
    intro d2
    induction d2 with
    | zero => intro mem9 J9 a1 k v ls H locs hmeas8; exact absurd hmeas8 (Nat.not_lt_zero _)
    | succ d2 ih7 =>
      intro mem9 J9 a1 k v ls H locs hmeas8 hz3 hz4 hz5 hz6 hP hD hS hl
      obtain ⟨eJ9, g1, g16, g17⟩ := hz3
      refine lv_iload Bx.1 Bx.2.1 d_Mo_number_5 (lv_at hl 0 rfl) ?_
      refine lv_iload_n Bx.1 Bx.2.1 d_Mo_number_7 rfl (lv_at hl 3 rfl) ?_
      refine lv_bipush (v := 10) Bx.1 Bx.2.1 d_Mo_number_8 (by decide) ?_
      refine lv_icmp_ne Bx.1 Bx.2.1 d_Mo_number_10 rfl (fun hb9 => ?_) (fun hb9 => ?_)
      · have hmm : (if ba = 10 then 3 else 2) = 2 := if_neg hb9
        refine lv_iconst (v := 2) Bx.1 Bx.2.1 d_Mo_number_17 (by decide) ?_
        refine lv_icmp_ge Bx.1 Bx.2.1 d_Mo_number_18 rfl (fun hb10 => ?_) (fun hb10 => ?_)
        · have hN11 : 2 ≤ k := (nI_leI (by omega) (by omega)).mp (show nI (2) ≤ nI (k) from hb10)
          have hnn : (numN (A 225) L ba (if ba = 10 then 3 else 2) a 0).1 = v ∧ (numN (A 225) L ba (if ba = 10 then 3 else 2) a 0).2 = k := by
            have h9 := hz6
            rw [show (if ba = 10 then 3 else 2) - k = 0 by omega] at h9
            exact ⟨h9.1.symm, by have := h9.2; simp only [numN] at this; omega⟩
          refine lv_iload Bx.1 Bx.2.1 d_Mo_number_61 (lv_at hl 0 rfl) ?_
          refine lv_if_ne Bx.1 Bx.2.1 d_Mo_number_63 rfl (fun hb12 => ?_) (fun hb12 => ?_)
          · have hN13 : ¬ k = 0 := fun q9 => hb12 (show nI (k) = nI (0) from (nI_eq (by omega) (by omega)).mpr q9)
            refine lv_iload_n Bx.1 Bx.2.1 d_Mo_number_75 rfl (lv_at hl 1 rfl) ?_
            refine lv_bipush (v := 127) Bx.1 Bx.2.1 d_Mo_number_76 (by decide) ?_
            refine lv_icmp_le Bx.1 Bx.2.1 d_Mo_number_78 rfl (fun hb14 => ?_) (fun hb14 => ?_)
            · refine lv_iload_n Bx.1 Bx.2.1 d_Mo_number_87 rfl (lv_at hl 1 rfl) ?_
              exact W.iret (v := v) hx hb hr (fun t ht hW => ⟨⟨v, mem9, rfl, ⟨J9, hz4, by omega, by rw [hnn.2]; omega, by rw [hnn.2, show a + k = a1 by omega]; exact g16, fun i q1 q2 q3 => by rw [eJ9, va_up_ne _ _ q1], hnn.1.symm, Or.inr ⟨by unfold numS; simp only []; rw [hnn.1, hnn.2, if_neg (fun z => by rcases z with z | z; omega; exact (fun z => absurd z (Int32.not_lt.mpr hb14)) z)], g17, by omega⟩⟩, by show va_P _ _ _ t.heap; rw [ht]; exact hP⟩, hS.F ht⟩) hS.2.2 d_Mo_number_88
            · refine lv_aload_n Bx.1 Bx.2.1 d_Mo_number_81 rfl (lv_at hl 2 rfl) ?_
              refine lv_iconst (v := 1) Bx.1 Bx.2.1 d_Mo_number_82 (by decide) ?_
              refine lv_iload_n Bx.1 Bx.2.1 d_Mo_number_83 rfl (lv_at hl 4 rfl) ?_
              refine f_callVv (na := 2) (As := [.int (1), .int (fro)]) (rest := []) Bx hml E hP hD hS (by omega) hz4.1 rfl (m_Mo_wrong l hn hz4 (Or.inl g17) (by first | exact Or.inl rfl | exact Or.inr rfl)) kw_799 kw_801 sel_Mo_wrong kw_8 kw_802 (by decide +kernel) ⟨rfl, rfl⟩ ⟨Nat.le_of_ble_eq_true rfl, Nat.le_of_ble_eq_true rfl⟩ rfl hl.1 (Nat.le_of_ble_eq_true rfl) d_Mo_number_84 ⟨Nat.le_of_ble_eq_true rfl, Nat.le_of_ble_eq_true rfl⟩ (fun mem16 H locs hq hP hS => ?_)
              have hD : va_D (Az sz) (fw n ad mem16) := fw_D hD
              obtain ⟨J17, hW18, hwr19⟩ := hq
              have kk20 : J17 1 = nI L := (show J17 1 = J9 1 from hwr19.2 1 (by decide) (by decide)).trans g1
              have kk21 : J17 16 = nI a1 := (show J17 16 = J9 16 from hwr19.2 16 (by decide) (by decide)).trans g16
              refine lv_iload_n Bx.1 Bx.2.1 d_Mo_number_87 rfl (lv_at hl 1 rfl) ?_
              exact W.iret (v := v) hx hb hr (fun t ht hW => ⟨⟨v, mem16, rfl, ⟨J17, hW18, by omega, by rw [hnn.2]; omega, by rw [hnn.2, show a + k = a1 by omega]; exact kk21, fun i q1 q2 q3 => by rw [hwr19.2 i q2 q3, eJ9, va_up_ne _ _ q1], hnn.1.symm, Or.inl ⟨by unfold numS; simp only []; rw [hnn.1, hnn.2, if_pos (by first | exact Or.inl (by omega) | exact Or.inr (Int32.not_le.mp hb14))], hwr19.1⟩⟩, by show va_P _ _ _ t.heap; rw [ht]; exact hP⟩, hS.F ht⟩) hS.2.2 d_Mo_number_88
          · have hN22 : k = 0 := (nI_eq (by omega) (by omega)).mp (show nI (k) = nI (0) from hb12)
            refine lv_aload_n Bx.1 Bx.2.1 d_Mo_number_66 rfl (lv_at hl 2 rfl) ?_
            refine lv_iconst (v := 1) Bx.1 Bx.2.1 d_Mo_number_67 (by decide) ?_
            refine lv_aload_n Bx.1 Bx.2.1 d_Mo_number_68 rfl (lv_at hl 2 rfl) ?_
            refine f_get Bx hP (by omega) hz4.1 rfl inMo 16 (by decide) kw_672 rfl rfl d_Mo_number_69 ?_
            rw [g16]
            refine f_callVv (na := 2) (As := [.int (1), .int (nI a1)]) (rest := []) Bx hml E hP hD hS (by omega) hz4.1 rfl (m_Mo_wrong l hn hz4 (Or.inl g17) (by first | exact Or.inl rfl | exact Or.inr rfl)) kw_799 kw_801 sel_Mo_wrong kw_8 kw_802 (by decide +kernel) ⟨rfl, rfl⟩ ⟨Nat.le_of_ble_eq_true rfl, Nat.le_of_ble_eq_true rfl⟩ rfl hl.1 (Nat.le_of_ble_eq_true rfl) d_Mo_number_72 ⟨Nat.le_of_ble_eq_true rfl, Nat.le_of_ble_eq_true rfl⟩ (fun mem24 H locs hq hP hS => ?_)
            have hD : va_D (Az sz) (fw n ad mem24) := fw_D hD
            obtain ⟨J25, hW26, hwr27⟩ := hq
            have kk28 : J25 1 = nI L := (show J25 1 = J9 1 from hwr27.2 1 (by decide) (by decide)).trans g1
            have kk29 : J25 16 = nI a1 := (show J25 16 = J9 16 from hwr27.2 16 (by decide) (by decide)).trans g16
            refine lv_iload_n Bx.1 Bx.2.1 d_Mo_number_75 rfl (lv_at hl 1 rfl) ?_
            refine lv_bipush (v := 127) Bx.1 Bx.2.1 d_Mo_number_76 (by decide) ?_
            refine lv_icmp_le Bx.1 Bx.2.1 d_Mo_number_78 rfl (fun hb30 => ?_) (fun hb30 => ?_)
            · refine lv_iload_n Bx.1 Bx.2.1 d_Mo_number_87 rfl (lv_at hl 1 rfl) ?_
              exact W.iret (v := v) hx hb hr (fun t ht hW => ⟨⟨v, mem24, rfl, ⟨J25, hW26, by omega, by rw [hnn.2]; omega, by rw [hnn.2, show a + k = a1 by omega]; exact kk29, fun i q1 q2 q3 => by rw [hwr27.2 i q2 q3, eJ9, va_up_ne _ _ q1], hnn.1.symm, Or.inl ⟨by unfold numS; simp only []; rw [hnn.1, hnn.2, if_pos (by first | exact Or.inl (by omega) | exact Or.inr (by exact absurd rfl (by omega)))], hwr27.1⟩⟩, by show va_P _ _ _ t.heap; rw [ht]; exact hP⟩, hS.F ht⟩) hS.2.2 d_Mo_number_88
            · refine lv_aload_n Bx.1 Bx.2.1 d_Mo_number_81 rfl (lv_at hl 2 rfl) ?_
              refine lv_iconst (v := 1) Bx.1 Bx.2.1 d_Mo_number_82 (by decide) ?_
              refine lv_iload_n Bx.1 Bx.2.1 d_Mo_number_83 rfl (lv_at hl 4 rfl) ?_
              refine f_callVv (na := 2) (As := [.int (1), .int (fro)]) (rest := []) Bx hml E hP hD hS (by omega) hW26.1 rfl (m_Mo_wrong l hn hW26 (Or.inr hwr27.1) (by first | exact Or.inl rfl | exact Or.inr rfl)) kw_799 kw_801 sel_Mo_wrong kw_8 kw_802 (by decide +kernel) ⟨rfl, rfl⟩ ⟨Nat.le_of_ble_eq_true rfl, Nat.le_of_ble_eq_true rfl⟩ rfl hl.1 (Nat.le_of_ble_eq_true rfl) d_Mo_number_84 ⟨Nat.le_of_ble_eq_true rfl, Nat.le_of_ble_eq_true rfl⟩ (fun mem32 H locs hq hP hS => ?_)
              have hD : va_D (Az sz) (fw n ad mem32) := fw_D hD
              obtain ⟨J33, hW34, hwr35⟩ := hq
              have kk36 : J33 1 = nI L := (show J33 1 = J25 1 from hwr35.2 1 (by decide) (by decide)).trans kk28
              have kk37 : J33 16 = nI a1 := (show J33 16 = J25 16 from hwr35.2 16 (by decide) (by decide)).trans kk29
              refine lv_iload_n Bx.1 Bx.2.1 d_Mo_number_87 rfl (lv_at hl 1 rfl) ?_
              exact W.iret (v := v) hx hb hr (fun t ht hW => ⟨⟨v, mem32, rfl, ⟨J33, hW34, by omega, by rw [hnn.2]; omega, by rw [hnn.2, show a + k = a1 by omega]; exact kk37, fun i q1 q2 q3 => by rw [hwr35.2 i q2 q3, hwr27.2 i q2 q3, eJ9, va_up_ne _ _ q1], hnn.1.symm, Or.inl ⟨by unfold numS; simp only []; rw [hnn.1, hnn.2, if_pos (by first | exact Or.inl (by omega) | exact Or.inr (Int32.not_le.mp hb30))], hwr35.1⟩⟩, by show va_P _ _ _ t.heap; rw [ht]; exact hP⟩, hS.F ht⟩) hS.2.2 d_Mo_number_88
        · have hN38 : ¬ 2 ≤ k := fun q9 => hb10 (show nI (2) ≤ nI (k) from (nI_leI (by omega) (by omega)).mpr q9)
          refine lv_aload_n Bx.1 Bx.2.1 d_Mo_number_21 rfl (lv_at hl 2 rfl) ?_
          refine f_callVi (na := 0) (As := []) (rest := []) Bx hml E hP hD hS (by omega) hz4.1 rfl (m_Mo_here l hn hz4 g1 hL g16 (by omega)) kw_778 kw_780 sel_Mo_here kw_8 kw_781 (by decide +kernel) ⟨rfl, rfl⟩ ⟨Nat.le_of_ble_eq_true rfl, Nat.le_of_ble_eq_true rfl⟩ rfl hl.1 (Nat.le_of_ble_eq_true rfl) d_Mo_number_22 ⟨Nat.le_of_ble_eq_true rfl, Nat.le_of_ble_eq_true rfl⟩ (fun r39 mem40 H locs hq hP hS => ?_)
          have hD : va_D (Az sz) (fw n ad mem40) := fw_D hD
          obtain ⟨hre, hq⟩ := hq
          rw [hq] at hP hD
          subst hre
          refine lv_iload_n Bx.1 Bx.2.1 d_Mo_number_25 rfl (lv_at hl 3 rfl) ?_
          refine f_callSi (na := 2) (As := [.int (hereF L (A 225) (a1)), .int (ba)]) (rest := []) Bx hml E.2.1 (m_Mo_figureX l (hereF L (A 225) (a1)) (ba)) kw_850 kw_851 kw_8 kw_852 (by decide +kernel) ⟨rfl, rfl⟩ ⟨Nat.le_of_ble_eq_true rfl, Nat.le_of_ble_eq_true rfl⟩ rfl hl.1 (Nat.le_of_ble_eq_true rfl) d_Mo_number_26 ⟨Nat.le_of_ble_eq_true rfl, Nat.le_of_ble_eq_true rfl⟩ (fun r42 hs41 => ?_)
          subst hs41
          refine lv_if_lt Bx.1 Bx.2.1 d_Mo_number_29 rfl (fun hb43 => ?_) (fun hb43 => ?_)
          · have hnn : (numN (A 225) L ba (if ba = 10 then 3 else 2) a 0).1 = v ∧ (numN (A 225) L ba (if ba = 10 then 3 else 2) a 0).2 = k := by
              obtain ⟨r6, hr6⟩ : ∃ r6, (if ba = 10 then 3 else 2) - k = r6 + 1 := ⟨(if ba = 10 then 3 else 2) - k - 1, by omega⟩
              have h9 := hz6
              rw [hr6, numN, if_pos hb43] at h9
              exact ⟨h9.1.symm, by have := h9.2; simp only [] at this; omega⟩
            refine lv_iload Bx.1 Bx.2.1 d_Mo_number_61 (lv_at hl 0 rfl) ?_
            refine lv_if_ne Bx.1 Bx.2.1 d_Mo_number_63 rfl (fun hb44 => ?_) (fun hb44 => ?_)
            · have hN45 : ¬ k = 0 := fun q9 => hb44 (show nI (k) = nI (0) from (nI_eq (by omega) (by omega)).mpr q9)
              refine lv_iload_n Bx.1 Bx.2.1 d_Mo_number_75 rfl (lv_at hl 1 rfl) ?_
              refine lv_bipush (v := 127) Bx.1 Bx.2.1 d_Mo_number_76 (by decide) ?_
              refine lv_icmp_le Bx.1 Bx.2.1 d_Mo_number_78 rfl (fun hb46 => ?_) (fun hb46 => ?_)
              · refine lv_iload_n Bx.1 Bx.2.1 d_Mo_number_87 rfl (lv_at hl 1 rfl) ?_
                exact W.iret (v := v) hx hb hr (fun t ht hW => ⟨⟨v, mem9, rfl, ⟨J9, hz4, by omega, by rw [hnn.2]; omega, by rw [hnn.2, show a + k = a1 by omega]; exact g16, fun i q1 q2 q3 => by rw [eJ9, va_up_ne _ _ q1], hnn.1.symm, Or.inr ⟨by unfold numS; simp only []; rw [hnn.1, hnn.2, if_neg (fun z => by rcases z with z | z; omega; exact (fun z => absurd z (Int32.not_lt.mpr hb46)) z)], g17, by omega⟩⟩, by show va_P _ _ _ t.heap; rw [ht]; exact hP⟩, hS.F ht⟩) hS.2.2 d_Mo_number_88
              · refine lv_aload_n Bx.1 Bx.2.1 d_Mo_number_81 rfl (lv_at hl 2 rfl) ?_
                refine lv_iconst (v := 1) Bx.1 Bx.2.1 d_Mo_number_82 (by decide) ?_
                refine lv_iload_n Bx.1 Bx.2.1 d_Mo_number_83 rfl (lv_at hl 4 rfl) ?_
                refine f_callVv (na := 2) (As := [.int (1), .int (fro)]) (rest := []) Bx hml E hP hD hS (by omega) hz4.1 rfl (m_Mo_wrong l hn hz4 (Or.inl g17) (by first | exact Or.inl rfl | exact Or.inr rfl)) kw_799 kw_801 sel_Mo_wrong kw_8 kw_802 (by decide +kernel) ⟨rfl, rfl⟩ ⟨Nat.le_of_ble_eq_true rfl, Nat.le_of_ble_eq_true rfl⟩ rfl hl.1 (Nat.le_of_ble_eq_true rfl) d_Mo_number_84 ⟨Nat.le_of_ble_eq_true rfl, Nat.le_of_ble_eq_true rfl⟩ (fun mem48 H locs hq hP hS => ?_)
                have hD : va_D (Az sz) (fw n ad mem48) := fw_D hD
                obtain ⟨J49, hW50, hwr51⟩ := hq
                have kk52 : J49 1 = nI L := (show J49 1 = J9 1 from hwr51.2 1 (by decide) (by decide)).trans g1
                have kk53 : J49 16 = nI a1 := (show J49 16 = J9 16 from hwr51.2 16 (by decide) (by decide)).trans g16
                refine lv_iload_n Bx.1 Bx.2.1 d_Mo_number_87 rfl (lv_at hl 1 rfl) ?_
                exact W.iret (v := v) hx hb hr (fun t ht hW => ⟨⟨v, mem48, rfl, ⟨J49, hW50, by omega, by rw [hnn.2]; omega, by rw [hnn.2, show a + k = a1 by omega]; exact kk53, fun i q1 q2 q3 => by rw [hwr51.2 i q2 q3, eJ9, va_up_ne _ _ q1], hnn.1.symm, Or.inl ⟨by unfold numS; simp only []; rw [hnn.1, hnn.2, if_pos (by first | exact Or.inl (by omega) | exact Or.inr (Int32.not_le.mp hb46))], hwr51.1⟩⟩, by show va_P _ _ _ t.heap; rw [ht]; exact hP⟩, hS.F ht⟩) hS.2.2 d_Mo_number_88
            · have hN54 : k = 0 := (nI_eq (by omega) (by omega)).mp (show nI (k) = nI (0) from hb44)
              refine lv_aload_n Bx.1 Bx.2.1 d_Mo_number_66 rfl (lv_at hl 2 rfl) ?_
              refine lv_iconst (v := 1) Bx.1 Bx.2.1 d_Mo_number_67 (by decide) ?_
              refine lv_aload_n Bx.1 Bx.2.1 d_Mo_number_68 rfl (lv_at hl 2 rfl) ?_
              refine f_get Bx hP (by omega) hz4.1 rfl inMo 16 (by decide) kw_672 rfl rfl d_Mo_number_69 ?_
              rw [g16]
              refine f_callVv (na := 2) (As := [.int (1), .int (nI a1)]) (rest := []) Bx hml E hP hD hS (by omega) hz4.1 rfl (m_Mo_wrong l hn hz4 (Or.inl g17) (by first | exact Or.inl rfl | exact Or.inr rfl)) kw_799 kw_801 sel_Mo_wrong kw_8 kw_802 (by decide +kernel) ⟨rfl, rfl⟩ ⟨Nat.le_of_ble_eq_true rfl, Nat.le_of_ble_eq_true rfl⟩ rfl hl.1 (Nat.le_of_ble_eq_true rfl) d_Mo_number_72 ⟨Nat.le_of_ble_eq_true rfl, Nat.le_of_ble_eq_true rfl⟩ (fun mem56 H locs hq hP hS => ?_)
              have hD : va_D (Az sz) (fw n ad mem56) := fw_D hD
              obtain ⟨J57, hW58, hwr59⟩ := hq
              have kk60 : J57 1 = nI L := (show J57 1 = J9 1 from hwr59.2 1 (by decide) (by decide)).trans g1
              have kk61 : J57 16 = nI a1 := (show J57 16 = J9 16 from hwr59.2 16 (by decide) (by decide)).trans g16
              refine lv_iload_n Bx.1 Bx.2.1 d_Mo_number_75 rfl (lv_at hl 1 rfl) ?_
              refine lv_bipush (v := 127) Bx.1 Bx.2.1 d_Mo_number_76 (by decide) ?_
              refine lv_icmp_le Bx.1 Bx.2.1 d_Mo_number_78 rfl (fun hb62 => ?_) (fun hb62 => ?_)
              · refine lv_iload_n Bx.1 Bx.2.1 d_Mo_number_87 rfl (lv_at hl 1 rfl) ?_
                exact W.iret (v := v) hx hb hr (fun t ht hW => ⟨⟨v, mem56, rfl, ⟨J57, hW58, by omega, by rw [hnn.2]; omega, by rw [hnn.2, show a + k = a1 by omega]; exact kk61, fun i q1 q2 q3 => by rw [hwr59.2 i q2 q3, eJ9, va_up_ne _ _ q1], hnn.1.symm, Or.inl ⟨by unfold numS; simp only []; rw [hnn.1, hnn.2, if_pos (by first | exact Or.inl (by omega) | exact Or.inr (by exact absurd rfl (by omega)))], hwr59.1⟩⟩, by show va_P _ _ _ t.heap; rw [ht]; exact hP⟩, hS.F ht⟩) hS.2.2 d_Mo_number_88
              · refine lv_aload_n Bx.1 Bx.2.1 d_Mo_number_81 rfl (lv_at hl 2 rfl) ?_
                refine lv_iconst (v := 1) Bx.1 Bx.2.1 d_Mo_number_82 (by decide) ?_
                refine lv_iload_n Bx.1 Bx.2.1 d_Mo_number_83 rfl (lv_at hl 4 rfl) ?_
                refine f_callVv (na := 2) (As := [.int (1), .int (fro)]) (rest := []) Bx hml E hP hD hS (by omega) hW58.1 rfl (m_Mo_wrong l hn hW58 (Or.inr hwr59.1) (by first | exact Or.inl rfl | exact Or.inr rfl)) kw_799 kw_801 sel_Mo_wrong kw_8 kw_802 (by decide +kernel) ⟨rfl, rfl⟩ ⟨Nat.le_of_ble_eq_true rfl, Nat.le_of_ble_eq_true rfl⟩ rfl hl.1 (Nat.le_of_ble_eq_true rfl) d_Mo_number_84 ⟨Nat.le_of_ble_eq_true rfl, Nat.le_of_ble_eq_true rfl⟩ (fun mem64 H locs hq hP hS => ?_)
                have hD : va_D (Az sz) (fw n ad mem64) := fw_D hD
                obtain ⟨J65, hW66, hwr67⟩ := hq
                have kk68 : J65 1 = nI L := (show J65 1 = J57 1 from hwr67.2 1 (by decide) (by decide)).trans kk60
                have kk69 : J65 16 = nI a1 := (show J65 16 = J57 16 from hwr67.2 16 (by decide) (by decide)).trans kk61
                refine lv_iload_n Bx.1 Bx.2.1 d_Mo_number_87 rfl (lv_at hl 1 rfl) ?_
                exact W.iret (v := v) hx hb hr (fun t ht hW => ⟨⟨v, mem64, rfl, ⟨J65, hW66, by omega, by rw [hnn.2]; omega, by rw [hnn.2, show a + k = a1 by omega]; exact kk69, fun i q1 q2 q3 => by rw [hwr67.2 i q2 q3, hwr59.2 i q2 q3, eJ9, va_up_ne _ _ q1], hnn.1.symm, Or.inl ⟨by unfold numS; simp only []; rw [hnn.1, hnn.2, if_pos (by first | exact Or.inl (by omega) | exact Or.inr (Int32.not_le.mp hb62))], hwr67.1⟩⟩, by show va_P _ _ _ t.heap; rw [ht]; exact hP⟩, hS.F ht⟩) hS.2.2 d_Mo_number_88
          · have hlt9 : a1 < L := hereF_lt (figF_ne hb43)
            refine lv_iload_n Bx.1 Bx.2.1 d_Mo_number_32 rfl (lv_at hl 3 rfl) ?_
            refine lv_iload_n Bx.1 Bx.2.1 d_Mo_number_33 rfl (lv_at hl 1 rfl) ?_
            refine lv_imul Bx.1 Bx.2.1 d_Mo_number_34 ?_
            refine lv_aload_n Bx.1 Bx.2.1 d_Mo_number_35 rfl (lv_at hl 2 rfl) ?_
            refine f_callVi (na := 0) (As := []) (rest := [.int (ba * v)]) Bx hml E hP hD hS (by omega) hz4.1 rfl (m_Mo_here l hn hz4 g1 hL g16 (by omega)) kw_778 kw_780 sel_Mo_here kw_8 kw_781 (by decide +kernel) ⟨rfl, rfl⟩ ⟨Nat.le_of_ble_eq_true rfl, Nat.le_of_ble_eq_true rfl⟩ rfl hl.1 (Nat.le_of_ble_eq_true rfl) d_Mo_number_36 ⟨Nat.le_of_ble_eq_true rfl, Nat.le_of_ble_eq_true rfl⟩ (fun r70 mem71 H locs hq hP hS => ?_)
            have hD : va_D (Az sz) (fw n ad mem71) := fw_D hD
            obtain ⟨hre, hq⟩ := hq
            rw [hq] at hP hD
            subst hre
            refine lv_iload_n Bx.1 Bx.2.1 d_Mo_number_39 rfl (lv_at hl 3 rfl) ?_
            refine f_callSi (na := 2) (As := [.int (hereF L (A 225) (a1)), .int (ba)]) (rest := [.int (ba * v)]) Bx hml E.2.1 (m_Mo_figureX l (hereF L (A 225) (a1)) (ba)) kw_850 kw_851 kw_8 kw_852 (by decide +kernel) ⟨rfl, rfl⟩ ⟨Nat.le_of_ble_eq_true rfl, Nat.le_of_ble_eq_true rfl⟩ rfl hl.1 (Nat.le_of_ble_eq_true rfl) d_Mo_number_40 ⟨Nat.le_of_ble_eq_true rfl, Nat.le_of_ble_eq_true rfl⟩ (fun r73 hs72 => ?_)
            subst hs72
            refine lv_iadd Bx.1 Bx.2.1 d_Mo_number_43 ?_
            refine lv_istore_n (lv' := [(3, .int (ba * v + figF (hereF L (A 225) (a1)) (ba))), (4, .int (nI k)), (0, .ref (ad 224)), (1, .int (ba)), (2, .int (fro))]) Bx.1 Bx.2.1 d_Mo_number_44 rfl hl (by decide) rfl (fun ls hl => ?_)
            refine lv_iinc (lv' := [(4, .int ((nI k + (1)))), (3, .int (ba * v + figF (hereF L (A 225) (a1)) (ba))), (0, .ref (ad 224)), (1, .int (ba)), (2, .int (fro))]) Bx.1 Bx.2.1 d_Mo_number_45 hl (k := 1) rfl rfl (by decide) rfl (fun ls hl => ?_)
            rw [show (nI k + (1) : Int32) = nI (k + 1) from nI_1 (k)] at hl
            refine lv_aload_n Bx.1 Bx.2.1 d_Mo_number_48 rfl (lv_at hl 2 rfl) ?_
            refine lv_dup Bx.1 Bx.2.1 d_Mo_number_49 rfl ?_
            refine f_get Bx hP (by omega) hz4.1 rfl inMo 16 (by decide) kw_672 rfl rfl d_Mo_number_50 ?_
            rw [g16]
            refine lv_iconst (v := 1) Bx.1 Bx.2.1 d_Mo_number_53 (by decide) ?_
            refine lv_iadd Bx.1 Bx.2.1 d_Mo_number_54 ?_
            rw [show nI a1 + 1 = nI (a1 + 1) from nI_add (a1) (1)]
            refine f_put Bx hP hD hS (by omega) hz4.1 rfl inMo tyMo okMo nmMo 16 (by decide) kw_672 rfl rfl rfl rfl (Nat.le_of_ble_eq_true rfl) d_Mo_number_55 (fun H locs hP hS => ?_)
            obtain ⟨J74, eJ74⟩ : ∃ z, z = va_up J9 16 (nI (a1 + 1)) := ⟨_, rfl⟩
            obtain ⟨mem75, e_mem75⟩ : ∃ z, z = va_up mem9 224 (moC ad J74) := ⟨_, rfl⟩
            have hP : va_P D vcl (fw n ad mem75) H := by rw [e_mem75, eJ74]; exact hP
            have hD : va_D (Az sz) (fw n ad mem75) := fw_D hD
            have hW76 : MW cy ad J74 A nm m0 mem75 := by rw [e_mem75]; exact hz4.upJ (by rw [eJ74]; exact va_up_ne _ _ (by decide))
            have kk77 : J74 1 = nI L := by rw [eJ74]; exact g1
            have kk78 : J74 17 = 0 := by rw [eJ74]; exact g17
            have kk79 : J74 16 = nI (a1 + 1) := by rw [eJ74, va_up_self]
            refine lv_goto Bx.1 Bx.2.1 d_Mo_number_58 rfl ?_
            have hJe : J74 = va_up J 16 (nI (a1 + 1)) := by rw [eJ74, eJ9, up_up]
            have hnx : (numN (A 225) L ba ((if ba = 10 then 3 else 2) - (k + 1)) (a1 + 1) (ba * v + figF (hereF L (A 225) (a1)) (ba))).1 = (numN (A 225) L ba (if ba = 10 then 3 else 2) a 0).1 ∧ (numN (A 225) L ba ((if ba = 10 then 3 else 2) - (k + 1)) (a1 + 1) (ba * v + figF (hereF L (A 225) (a1)) (ba))).2 + (k + 1) = (numN (A 225) L ba (if ba = 10 then 3 else 2) a 0).2 := by
              obtain ⟨r6, hr6⟩ : ∃ r6, (if ba = 10 then 3 else 2) - k = r6 + 1 := ⟨(if ba = 10 then 3 else 2) - k - 1, by omega⟩
              have h9 := hz6
              rw [hr6, numN, if_neg hb43] at h9
              rw [show (if ba = 10 then 3 else 2) - (k + 1) = r6 by omega]
              exact ⟨h9.1, by have := h9.2; simp only [] at this; omega⟩
            exact ih7 mem75 (J74) (a1 + 1) (k + 1) (ba * v + figF (hereF L (A 225) (a1)) (ba)) _ _ _ (by have := hmeas8; omega) (⟨hJe, kk77, kk79, kk78⟩) (hW76) (⟨by omega, by omega, by omega⟩) (hnx) hP hD hS (lv_sub hl [0, 1, 2, 3, 4] rfl)
      · have hmm : (if ba = 10 then 3 else 2) = 3 := if_pos hb9
        refine lv_iconst (v := 3) Bx.1 Bx.2.1 d_Mo_number_13 (by decide) ?_
        refine lv_goto Bx.1 Bx.2.1 d_Mo_number_14 rfl ?_
        refine lv_icmp_ge Bx.1 Bx.2.1 d_Mo_number_18 rfl (fun hb80 => ?_) (fun hb80 => ?_)
        · have hN81 : 3 ≤ k := (nI_leI (by omega) (by omega)).mp (show nI (3) ≤ nI (k) from hb80)
          have hnn : (numN (A 225) L ba (if ba = 10 then 3 else 2) a 0).1 = v ∧ (numN (A 225) L ba (if ba = 10 then 3 else 2) a 0).2 = k := by
            have h9 := hz6
            rw [show (if ba = 10 then 3 else 2) - k = 0 by omega] at h9
            exact ⟨h9.1.symm, by have := h9.2; simp only [numN] at this; omega⟩
          refine lv_iload Bx.1 Bx.2.1 d_Mo_number_61 (lv_at hl 0 rfl) ?_
          refine lv_if_ne Bx.1 Bx.2.1 d_Mo_number_63 rfl (fun hb82 => ?_) (fun hb82 => ?_)
          · have hN83 : ¬ k = 0 := fun q9 => hb82 (show nI (k) = nI (0) from (nI_eq (by omega) (by omega)).mpr q9)
            refine lv_iload_n Bx.1 Bx.2.1 d_Mo_number_75 rfl (lv_at hl 1 rfl) ?_
            refine lv_bipush (v := 127) Bx.1 Bx.2.1 d_Mo_number_76 (by decide) ?_
            refine lv_icmp_le Bx.1 Bx.2.1 d_Mo_number_78 rfl (fun hb84 => ?_) (fun hb84 => ?_)
            · refine lv_iload_n Bx.1 Bx.2.1 d_Mo_number_87 rfl (lv_at hl 1 rfl) ?_
              exact W.iret (v := v) hx hb hr (fun t ht hW => ⟨⟨v, mem9, rfl, ⟨J9, hz4, by omega, by rw [hnn.2]; omega, by rw [hnn.2, show a + k = a1 by omega]; exact g16, fun i q1 q2 q3 => by rw [eJ9, va_up_ne _ _ q1], hnn.1.symm, Or.inr ⟨by unfold numS; simp only []; rw [hnn.1, hnn.2, if_neg (fun z => by rcases z with z | z; omega; exact (fun z => absurd z (Int32.not_lt.mpr hb84)) z)], g17, by omega⟩⟩, by show va_P _ _ _ t.heap; rw [ht]; exact hP⟩, hS.F ht⟩) hS.2.2 d_Mo_number_88
            · refine lv_aload_n Bx.1 Bx.2.1 d_Mo_number_81 rfl (lv_at hl 2 rfl) ?_
              refine lv_iconst (v := 1) Bx.1 Bx.2.1 d_Mo_number_82 (by decide) ?_
              refine lv_iload_n Bx.1 Bx.2.1 d_Mo_number_83 rfl (lv_at hl 4 rfl) ?_
              refine f_callVv (na := 2) (As := [.int (1), .int (fro)]) (rest := []) Bx hml E hP hD hS (by omega) hz4.1 rfl (m_Mo_wrong l hn hz4 (Or.inl g17) (by first | exact Or.inl rfl | exact Or.inr rfl)) kw_799 kw_801 sel_Mo_wrong kw_8 kw_802 (by decide +kernel) ⟨rfl, rfl⟩ ⟨Nat.le_of_ble_eq_true rfl, Nat.le_of_ble_eq_true rfl⟩ rfl hl.1 (Nat.le_of_ble_eq_true rfl) d_Mo_number_84 ⟨Nat.le_of_ble_eq_true rfl, Nat.le_of_ble_eq_true rfl⟩ (fun mem86 H locs hq hP hS => ?_)
              have hD : va_D (Az sz) (fw n ad mem86) := fw_D hD
              obtain ⟨J87, hW88, hwr89⟩ := hq
              have kk90 : J87 1 = nI L := (show J87 1 = J9 1 from hwr89.2 1 (by decide) (by decide)).trans g1
              have kk91 : J87 16 = nI a1 := (show J87 16 = J9 16 from hwr89.2 16 (by decide) (by decide)).trans g16
              refine lv_iload_n Bx.1 Bx.2.1 d_Mo_number_87 rfl (lv_at hl 1 rfl) ?_
              exact W.iret (v := v) hx hb hr (fun t ht hW => ⟨⟨v, mem86, rfl, ⟨J87, hW88, by omega, by rw [hnn.2]; omega, by rw [hnn.2, show a + k = a1 by omega]; exact kk91, fun i q1 q2 q3 => by rw [hwr89.2 i q2 q3, eJ9, va_up_ne _ _ q1], hnn.1.symm, Or.inl ⟨by unfold numS; simp only []; rw [hnn.1, hnn.2, if_pos (by first | exact Or.inl (by omega) | exact Or.inr (Int32.not_le.mp hb84))], hwr89.1⟩⟩, by show va_P _ _ _ t.heap; rw [ht]; exact hP⟩, hS.F ht⟩) hS.2.2 d_Mo_number_88
          · have hN92 : k = 0 := (nI_eq (by omega) (by omega)).mp (show nI (k) = nI (0) from hb82)
            refine lv_aload_n Bx.1 Bx.2.1 d_Mo_number_66 rfl (lv_at hl 2 rfl) ?_
            refine lv_iconst (v := 1) Bx.1 Bx.2.1 d_Mo_number_67 (by decide) ?_
            refine lv_aload_n Bx.1 Bx.2.1 d_Mo_number_68 rfl (lv_at hl 2 rfl) ?_
            refine f_get Bx hP (by omega) hz4.1 rfl inMo 16 (by decide) kw_672 rfl rfl d_Mo_number_69 ?_
            rw [g16]
            refine f_callVv (na := 2) (As := [.int (1), .int (nI a1)]) (rest := []) Bx hml E hP hD hS (by omega) hz4.1 rfl (m_Mo_wrong l hn hz4 (Or.inl g17) (by first | exact Or.inl rfl | exact Or.inr rfl)) kw_799 kw_801 sel_Mo_wrong kw_8 kw_802 (by decide +kernel) ⟨rfl, rfl⟩ ⟨Nat.le_of_ble_eq_true rfl, Nat.le_of_ble_eq_true rfl⟩ rfl hl.1 (Nat.le_of_ble_eq_true rfl) d_Mo_number_72 ⟨Nat.le_of_ble_eq_true rfl, Nat.le_of_ble_eq_true rfl⟩ (fun mem94 H locs hq hP hS => ?_)
            have hD : va_D (Az sz) (fw n ad mem94) := fw_D hD
            obtain ⟨J95, hW96, hwr97⟩ := hq
            have kk98 : J95 1 = nI L := (show J95 1 = J9 1 from hwr97.2 1 (by decide) (by decide)).trans g1
            have kk99 : J95 16 = nI a1 := (show J95 16 = J9 16 from hwr97.2 16 (by decide) (by decide)).trans g16
            refine lv_iload_n Bx.1 Bx.2.1 d_Mo_number_75 rfl (lv_at hl 1 rfl) ?_
            refine lv_bipush (v := 127) Bx.1 Bx.2.1 d_Mo_number_76 (by decide) ?_
            refine lv_icmp_le Bx.1 Bx.2.1 d_Mo_number_78 rfl (fun hb100 => ?_) (fun hb100 => ?_)
            · refine lv_iload_n Bx.1 Bx.2.1 d_Mo_number_87 rfl (lv_at hl 1 rfl) ?_
              exact W.iret (v := v) hx hb hr (fun t ht hW => ⟨⟨v, mem94, rfl, ⟨J95, hW96, by omega, by rw [hnn.2]; omega, by rw [hnn.2, show a + k = a1 by omega]; exact kk99, fun i q1 q2 q3 => by rw [hwr97.2 i q2 q3, eJ9, va_up_ne _ _ q1], hnn.1.symm, Or.inl ⟨by unfold numS; simp only []; rw [hnn.1, hnn.2, if_pos (by first | exact Or.inl (by omega) | exact Or.inr (by exact absurd rfl (by omega)))], hwr97.1⟩⟩, by show va_P _ _ _ t.heap; rw [ht]; exact hP⟩, hS.F ht⟩) hS.2.2 d_Mo_number_88
            · refine lv_aload_n Bx.1 Bx.2.1 d_Mo_number_81 rfl (lv_at hl 2 rfl) ?_
              refine lv_iconst (v := 1) Bx.1 Bx.2.1 d_Mo_number_82 (by decide) ?_
              refine lv_iload_n Bx.1 Bx.2.1 d_Mo_number_83 rfl (lv_at hl 4 rfl) ?_
              refine f_callVv (na := 2) (As := [.int (1), .int (fro)]) (rest := []) Bx hml E hP hD hS (by omega) hW96.1 rfl (m_Mo_wrong l hn hW96 (Or.inr hwr97.1) (by first | exact Or.inl rfl | exact Or.inr rfl)) kw_799 kw_801 sel_Mo_wrong kw_8 kw_802 (by decide +kernel) ⟨rfl, rfl⟩ ⟨Nat.le_of_ble_eq_true rfl, Nat.le_of_ble_eq_true rfl⟩ rfl hl.1 (Nat.le_of_ble_eq_true rfl) d_Mo_number_84 ⟨Nat.le_of_ble_eq_true rfl, Nat.le_of_ble_eq_true rfl⟩ (fun mem102 H locs hq hP hS => ?_)
              have hD : va_D (Az sz) (fw n ad mem102) := fw_D hD
              obtain ⟨J103, hW104, hwr105⟩ := hq
              have kk106 : J103 1 = nI L := (show J103 1 = J95 1 from hwr105.2 1 (by decide) (by decide)).trans kk98
              have kk107 : J103 16 = nI a1 := (show J103 16 = J95 16 from hwr105.2 16 (by decide) (by decide)).trans kk99
              refine lv_iload_n Bx.1 Bx.2.1 d_Mo_number_87 rfl (lv_at hl 1 rfl) ?_
              exact W.iret (v := v) hx hb hr (fun t ht hW => ⟨⟨v, mem102, rfl, ⟨J103, hW104, by omega, by rw [hnn.2]; omega, by rw [hnn.2, show a + k = a1 by omega]; exact kk107, fun i q1 q2 q3 => by rw [hwr105.2 i q2 q3, hwr97.2 i q2 q3, eJ9, va_up_ne _ _ q1], hnn.1.symm, Or.inl ⟨by unfold numS; simp only []; rw [hnn.1, hnn.2, if_pos (by first | exact Or.inl (by omega) | exact Or.inr (Int32.not_le.mp hb100))], hwr105.1⟩⟩, by show va_P _ _ _ t.heap; rw [ht]; exact hP⟩, hS.F ht⟩) hS.2.2 d_Mo_number_88
        · have hN108 : ¬ 3 ≤ k := fun q9 => hb80 (show nI (3) ≤ nI (k) from (nI_leI (by omega) (by omega)).mpr q9)
          refine lv_aload_n Bx.1 Bx.2.1 d_Mo_number_21 rfl (lv_at hl 2 rfl) ?_
          refine f_callVi (na := 0) (As := []) (rest := []) Bx hml E hP hD hS (by omega) hz4.1 rfl (m_Mo_here l hn hz4 g1 hL g16 (by omega)) kw_778 kw_780 sel_Mo_here kw_8 kw_781 (by decide +kernel) ⟨rfl, rfl⟩ ⟨Nat.le_of_ble_eq_true rfl, Nat.le_of_ble_eq_true rfl⟩ rfl hl.1 (Nat.le_of_ble_eq_true rfl) d_Mo_number_22 ⟨Nat.le_of_ble_eq_true rfl, Nat.le_of_ble_eq_true rfl⟩ (fun r109 mem110 H locs hq hP hS => ?_)
          have hD : va_D (Az sz) (fw n ad mem110) := fw_D hD
          obtain ⟨hre, hq⟩ := hq
          rw [hq] at hP hD
          subst hre
          refine lv_iload_n Bx.1 Bx.2.1 d_Mo_number_25 rfl (lv_at hl 3 rfl) ?_
          refine f_callSi (na := 2) (As := [.int (hereF L (A 225) (a1)), .int (ba)]) (rest := []) Bx hml E.2.1 (m_Mo_figureX l (hereF L (A 225) (a1)) (ba)) kw_850 kw_851 kw_8 kw_852 (by decide +kernel) ⟨rfl, rfl⟩ ⟨Nat.le_of_ble_eq_true rfl, Nat.le_of_ble_eq_true rfl⟩ rfl hl.1 (Nat.le_of_ble_eq_true rfl) d_Mo_number_26 ⟨Nat.le_of_ble_eq_true rfl, Nat.le_of_ble_eq_true rfl⟩ (fun r112 hs111 => ?_)
          subst hs111
          refine lv_if_lt Bx.1 Bx.2.1 d_Mo_number_29 rfl (fun hb113 => ?_) (fun hb113 => ?_)
          · have hnn : (numN (A 225) L ba (if ba = 10 then 3 else 2) a 0).1 = v ∧ (numN (A 225) L ba (if ba = 10 then 3 else 2) a 0).2 = k := by
              obtain ⟨r6, hr6⟩ : ∃ r6, (if ba = 10 then 3 else 2) - k = r6 + 1 := ⟨(if ba = 10 then 3 else 2) - k - 1, by omega⟩
              have h9 := hz6
              rw [hr6, numN, if_pos hb113] at h9
              exact ⟨h9.1.symm, by have := h9.2; simp only [] at this; omega⟩
            refine lv_iload Bx.1 Bx.2.1 d_Mo_number_61 (lv_at hl 0 rfl) ?_
            refine lv_if_ne Bx.1 Bx.2.1 d_Mo_number_63 rfl (fun hb114 => ?_) (fun hb114 => ?_)
            · have hN115 : ¬ k = 0 := fun q9 => hb114 (show nI (k) = nI (0) from (nI_eq (by omega) (by omega)).mpr q9)
              refine lv_iload_n Bx.1 Bx.2.1 d_Mo_number_75 rfl (lv_at hl 1 rfl) ?_
              refine lv_bipush (v := 127) Bx.1 Bx.2.1 d_Mo_number_76 (by decide) ?_
              refine lv_icmp_le Bx.1 Bx.2.1 d_Mo_number_78 rfl (fun hb116 => ?_) (fun hb116 => ?_)
              · refine lv_iload_n Bx.1 Bx.2.1 d_Mo_number_87 rfl (lv_at hl 1 rfl) ?_
                exact W.iret (v := v) hx hb hr (fun t ht hW => ⟨⟨v, mem9, rfl, ⟨J9, hz4, by omega, by rw [hnn.2]; omega, by rw [hnn.2, show a + k = a1 by omega]; exact g16, fun i q1 q2 q3 => by rw [eJ9, va_up_ne _ _ q1], hnn.1.symm, Or.inr ⟨by unfold numS; simp only []; rw [hnn.1, hnn.2, if_neg (fun z => by rcases z with z | z; omega; exact (fun z => absurd z (Int32.not_lt.mpr hb116)) z)], g17, by omega⟩⟩, by show va_P _ _ _ t.heap; rw [ht]; exact hP⟩, hS.F ht⟩) hS.2.2 d_Mo_number_88
              · refine lv_aload_n Bx.1 Bx.2.1 d_Mo_number_81 rfl (lv_at hl 2 rfl) ?_
                refine lv_iconst (v := 1) Bx.1 Bx.2.1 d_Mo_number_82 (by decide) ?_
                refine lv_iload_n Bx.1 Bx.2.1 d_Mo_number_83 rfl (lv_at hl 4 rfl) ?_
                refine f_callVv (na := 2) (As := [.int (1), .int (fro)]) (rest := []) Bx hml E hP hD hS (by omega) hz4.1 rfl (m_Mo_wrong l hn hz4 (Or.inl g17) (by first | exact Or.inl rfl | exact Or.inr rfl)) kw_799 kw_801 sel_Mo_wrong kw_8 kw_802 (by decide +kernel) ⟨rfl, rfl⟩ ⟨Nat.le_of_ble_eq_true rfl, Nat.le_of_ble_eq_true rfl⟩ rfl hl.1 (Nat.le_of_ble_eq_true rfl) d_Mo_number_84 ⟨Nat.le_of_ble_eq_true rfl, Nat.le_of_ble_eq_true rfl⟩ (fun mem118 H locs hq hP hS => ?_)
                have hD : va_D (Az sz) (fw n ad mem118) := fw_D hD
                obtain ⟨J119, hW120, hwr121⟩ := hq
                have kk122 : J119 1 = nI L := (show J119 1 = J9 1 from hwr121.2 1 (by decide) (by decide)).trans g1
                have kk123 : J119 16 = nI a1 := (show J119 16 = J9 16 from hwr121.2 16 (by decide) (by decide)).trans g16
                refine lv_iload_n Bx.1 Bx.2.1 d_Mo_number_87 rfl (lv_at hl 1 rfl) ?_
                exact W.iret (v := v) hx hb hr (fun t ht hW => ⟨⟨v, mem118, rfl, ⟨J119, hW120, by omega, by rw [hnn.2]; omega, by rw [hnn.2, show a + k = a1 by omega]; exact kk123, fun i q1 q2 q3 => by rw [hwr121.2 i q2 q3, eJ9, va_up_ne _ _ q1], hnn.1.symm, Or.inl ⟨by unfold numS; simp only []; rw [hnn.1, hnn.2, if_pos (by first | exact Or.inl (by omega) | exact Or.inr (Int32.not_le.mp hb116))], hwr121.1⟩⟩, by show va_P _ _ _ t.heap; rw [ht]; exact hP⟩, hS.F ht⟩) hS.2.2 d_Mo_number_88
            · have hN124 : k = 0 := (nI_eq (by omega) (by omega)).mp (show nI (k) = nI (0) from hb114)
              refine lv_aload_n Bx.1 Bx.2.1 d_Mo_number_66 rfl (lv_at hl 2 rfl) ?_
              refine lv_iconst (v := 1) Bx.1 Bx.2.1 d_Mo_number_67 (by decide) ?_
              refine lv_aload_n Bx.1 Bx.2.1 d_Mo_number_68 rfl (lv_at hl 2 rfl) ?_
              refine f_get Bx hP (by omega) hz4.1 rfl inMo 16 (by decide) kw_672 rfl rfl d_Mo_number_69 ?_
              rw [g16]
              refine f_callVv (na := 2) (As := [.int (1), .int (nI a1)]) (rest := []) Bx hml E hP hD hS (by omega) hz4.1 rfl (m_Mo_wrong l hn hz4 (Or.inl g17) (by first | exact Or.inl rfl | exact Or.inr rfl)) kw_799 kw_801 sel_Mo_wrong kw_8 kw_802 (by decide +kernel) ⟨rfl, rfl⟩ ⟨Nat.le_of_ble_eq_true rfl, Nat.le_of_ble_eq_true rfl⟩ rfl hl.1 (Nat.le_of_ble_eq_true rfl) d_Mo_number_72 ⟨Nat.le_of_ble_eq_true rfl, Nat.le_of_ble_eq_true rfl⟩ (fun mem126 H locs hq hP hS => ?_)
              have hD : va_D (Az sz) (fw n ad mem126) := fw_D hD
              obtain ⟨J127, hW128, hwr129⟩ := hq
              have kk130 : J127 1 = nI L := (show J127 1 = J9 1 from hwr129.2 1 (by decide) (by decide)).trans g1
              have kk131 : J127 16 = nI a1 := (show J127 16 = J9 16 from hwr129.2 16 (by decide) (by decide)).trans g16
              refine lv_iload_n Bx.1 Bx.2.1 d_Mo_number_75 rfl (lv_at hl 1 rfl) ?_
              refine lv_bipush (v := 127) Bx.1 Bx.2.1 d_Mo_number_76 (by decide) ?_
              refine lv_icmp_le Bx.1 Bx.2.1 d_Mo_number_78 rfl (fun hb132 => ?_) (fun hb132 => ?_)
              · refine lv_iload_n Bx.1 Bx.2.1 d_Mo_number_87 rfl (lv_at hl 1 rfl) ?_
                exact W.iret (v := v) hx hb hr (fun t ht hW => ⟨⟨v, mem126, rfl, ⟨J127, hW128, by omega, by rw [hnn.2]; omega, by rw [hnn.2, show a + k = a1 by omega]; exact kk131, fun i q1 q2 q3 => by rw [hwr129.2 i q2 q3, eJ9, va_up_ne _ _ q1], hnn.1.symm, Or.inl ⟨by unfold numS; simp only []; rw [hnn.1, hnn.2, if_pos (by first | exact Or.inl (by omega) | exact Or.inr (by exact absurd rfl (by omega)))], hwr129.1⟩⟩, by show va_P _ _ _ t.heap; rw [ht]; exact hP⟩, hS.F ht⟩) hS.2.2 d_Mo_number_88
              · refine lv_aload_n Bx.1 Bx.2.1 d_Mo_number_81 rfl (lv_at hl 2 rfl) ?_
                refine lv_iconst (v := 1) Bx.1 Bx.2.1 d_Mo_number_82 (by decide) ?_
                refine lv_iload_n Bx.1 Bx.2.1 d_Mo_number_83 rfl (lv_at hl 4 rfl) ?_
                refine f_callVv (na := 2) (As := [.int (1), .int (fro)]) (rest := []) Bx hml E hP hD hS (by omega) hW128.1 rfl (m_Mo_wrong l hn hW128 (Or.inr hwr129.1) (by first | exact Or.inl rfl | exact Or.inr rfl)) kw_799 kw_801 sel_Mo_wrong kw_8 kw_802 (by decide +kernel) ⟨rfl, rfl⟩ ⟨Nat.le_of_ble_eq_true rfl, Nat.le_of_ble_eq_true rfl⟩ rfl hl.1 (Nat.le_of_ble_eq_true rfl) d_Mo_number_84 ⟨Nat.le_of_ble_eq_true rfl, Nat.le_of_ble_eq_true rfl⟩ (fun mem134 H locs hq hP hS => ?_)
                have hD : va_D (Az sz) (fw n ad mem134) := fw_D hD
                obtain ⟨J135, hW136, hwr137⟩ := hq
                have kk138 : J135 1 = nI L := (show J135 1 = J127 1 from hwr137.2 1 (by decide) (by decide)).trans kk130
                have kk139 : J135 16 = nI a1 := (show J135 16 = J127 16 from hwr137.2 16 (by decide) (by decide)).trans kk131
                refine lv_iload_n Bx.1 Bx.2.1 d_Mo_number_87 rfl (lv_at hl 1 rfl) ?_
                exact W.iret (v := v) hx hb hr (fun t ht hW => ⟨⟨v, mem134, rfl, ⟨J135, hW136, by omega, by rw [hnn.2]; omega, by rw [hnn.2, show a + k = a1 by omega]; exact kk139, fun i q1 q2 q3 => by rw [hwr137.2 i q2 q3, hwr129.2 i q2 q3, eJ9, va_up_ne _ _ q1], hnn.1.symm, Or.inl ⟨by unfold numS; simp only []; rw [hnn.1, hnn.2, if_pos (by first | exact Or.inl (by omega) | exact Or.inr (Int32.not_le.mp hb132))], hwr137.1⟩⟩, by show va_P _ _ _ t.heap; rw [ht]; exact hP⟩, hS.F ht⟩) hS.2.2 d_Mo_number_88
          · have hlt9 : a1 < L := hereF_lt (figF_ne hb113)
            refine lv_iload_n Bx.1 Bx.2.1 d_Mo_number_32 rfl (lv_at hl 3 rfl) ?_
            refine lv_iload_n Bx.1 Bx.2.1 d_Mo_number_33 rfl (lv_at hl 1 rfl) ?_
            refine lv_imul Bx.1 Bx.2.1 d_Mo_number_34 ?_
            refine lv_aload_n Bx.1 Bx.2.1 d_Mo_number_35 rfl (lv_at hl 2 rfl) ?_
            refine f_callVi (na := 0) (As := []) (rest := [.int (ba * v)]) Bx hml E hP hD hS (by omega) hz4.1 rfl (m_Mo_here l hn hz4 g1 hL g16 (by omega)) kw_778 kw_780 sel_Mo_here kw_8 kw_781 (by decide +kernel) ⟨rfl, rfl⟩ ⟨Nat.le_of_ble_eq_true rfl, Nat.le_of_ble_eq_true rfl⟩ rfl hl.1 (Nat.le_of_ble_eq_true rfl) d_Mo_number_36 ⟨Nat.le_of_ble_eq_true rfl, Nat.le_of_ble_eq_true rfl⟩ (fun r140 mem141 H locs hq hP hS => ?_)
            have hD : va_D (Az sz) (fw n ad mem141) := fw_D hD
            obtain ⟨hre, hq⟩ := hq
            rw [hq] at hP hD
            subst hre
            refine lv_iload_n Bx.1 Bx.2.1 d_Mo_number_39 rfl (lv_at hl 3 rfl) ?_
            refine f_callSi (na := 2) (As := [.int (hereF L (A 225) (a1)), .int (ba)]) (rest := [.int (ba * v)]) Bx hml E.2.1 (m_Mo_figureX l (hereF L (A 225) (a1)) (ba)) kw_850 kw_851 kw_8 kw_852 (by decide +kernel) ⟨rfl, rfl⟩ ⟨Nat.le_of_ble_eq_true rfl, Nat.le_of_ble_eq_true rfl⟩ rfl hl.1 (Nat.le_of_ble_eq_true rfl) d_Mo_number_40 ⟨Nat.le_of_ble_eq_true rfl, Nat.le_of_ble_eq_true rfl⟩ (fun r143 hs142 => ?_)
            subst hs142
            refine lv_iadd Bx.1 Bx.2.1 d_Mo_number_43 ?_
            refine lv_istore_n (lv' := [(3, .int (ba * v + figF (hereF L (A 225) (a1)) (ba))), (4, .int (nI k)), (0, .ref (ad 224)), (1, .int (ba)), (2, .int (fro))]) Bx.1 Bx.2.1 d_Mo_number_44 rfl hl (by decide) rfl (fun ls hl => ?_)
            refine lv_iinc (lv' := [(4, .int ((nI k + (1)))), (3, .int (ba * v + figF (hereF L (A 225) (a1)) (ba))), (0, .ref (ad 224)), (1, .int (ba)), (2, .int (fro))]) Bx.1 Bx.2.1 d_Mo_number_45 hl (k := 1) rfl rfl (by decide) rfl (fun ls hl => ?_)
            rw [show (nI k + (1) : Int32) = nI (k + 1) from nI_1 (k)] at hl
            refine lv_aload_n Bx.1 Bx.2.1 d_Mo_number_48 rfl (lv_at hl 2 rfl) ?_
            refine lv_dup Bx.1 Bx.2.1 d_Mo_number_49 rfl ?_
            refine f_get Bx hP (by omega) hz4.1 rfl inMo 16 (by decide) kw_672 rfl rfl d_Mo_number_50 ?_
            rw [g16]
            refine lv_iconst (v := 1) Bx.1 Bx.2.1 d_Mo_number_53 (by decide) ?_
            refine lv_iadd Bx.1 Bx.2.1 d_Mo_number_54 ?_
            rw [show nI a1 + 1 = nI (a1 + 1) from nI_add (a1) (1)]
            refine f_put Bx hP hD hS (by omega) hz4.1 rfl inMo tyMo okMo nmMo 16 (by decide) kw_672 rfl rfl rfl rfl (Nat.le_of_ble_eq_true rfl) d_Mo_number_55 (fun H locs hP hS => ?_)
            obtain ⟨J144, eJ144⟩ : ∃ z, z = va_up J9 16 (nI (a1 + 1)) := ⟨_, rfl⟩
            obtain ⟨mem145, e_mem145⟩ : ∃ z, z = va_up mem9 224 (moC ad J144) := ⟨_, rfl⟩
            have hP : va_P D vcl (fw n ad mem145) H := by rw [e_mem145, eJ144]; exact hP
            have hD : va_D (Az sz) (fw n ad mem145) := fw_D hD
            have hW146 : MW cy ad J144 A nm m0 mem145 := by rw [e_mem145]; exact hz4.upJ (by rw [eJ144]; exact va_up_ne _ _ (by decide))
            have kk147 : J144 1 = nI L := by rw [eJ144]; exact g1
            have kk148 : J144 17 = 0 := by rw [eJ144]; exact g17
            have kk149 : J144 16 = nI (a1 + 1) := by rw [eJ144, va_up_self]
            refine lv_goto Bx.1 Bx.2.1 d_Mo_number_58 rfl ?_
            have hJe : J144 = va_up J 16 (nI (a1 + 1)) := by rw [eJ144, eJ9, up_up]
            have hnx : (numN (A 225) L ba ((if ba = 10 then 3 else 2) - (k + 1)) (a1 + 1) (ba * v + figF (hereF L (A 225) (a1)) (ba))).1 = (numN (A 225) L ba (if ba = 10 then 3 else 2) a 0).1 ∧ (numN (A 225) L ba ((if ba = 10 then 3 else 2) - (k + 1)) (a1 + 1) (ba * v + figF (hereF L (A 225) (a1)) (ba))).2 + (k + 1) = (numN (A 225) L ba (if ba = 10 then 3 else 2) a 0).2 := by
              obtain ⟨r6, hr6⟩ : ∃ r6, (if ba = 10 then 3 else 2) - k = r6 + 1 := ⟨(if ba = 10 then 3 else 2) - k - 1, by omega⟩
              have h9 := hz6
              rw [hr6, numN, if_neg hb113] at h9
              rw [show (if ba = 10 then 3 else 2) - (k + 1) = r6 by omega]
              exact ⟨h9.1, by have := h9.2; simp only [] at this; omega⟩
            exact ih7 mem145 (J144) (a1 + 1) (k + 1) (ba * v + figF (hereF L (A 225) (a1)) (ba)) _ _ _ (by have := hmeas8; omega) (⟨hJe, kk147, kk149, kk148⟩) (hW146) (⟨by omega, by omega, by omega⟩) (hnx) hP hD hS (lv_sub hl [0, 1, 2, 3, 4] rfl)
  exact loop1 _ mem (J) (a) (0) (0) _ _ _ (Nat.lt_succ_self _) (⟨by rw [up_id J ha], h1, ha, h17⟩) (hM) (⟨by omega, by omega, by omega⟩) (⟨rfl, rfl⟩) hP hD hS (lv_sub hl [0, 1, 2, 3, 4] rfl)
