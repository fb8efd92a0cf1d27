set_option maxHeartbeats 4000000 in
set_option maxRecDepth 100000 in
theorem m_Mo_ruleX (l : Launch) {D : va_G} {cy : Nat → ClassId} {sz n : Nat} {ad : Nat → Nat} {mem : Nat → va_E} {J : Nat → Int32} {A : Nat → Nat → Int32} {nm : Nat → Int64} {m0 : Nat → va_E} {R : Nat} {x9 : Int64} (hn : 242 ≤ n) (hM : MW cy ad J A nm m0 mem) (h4 : J 4 = nI R) (hRb : R ≤ 12) : MI l D cy sz n ad y_Mo_rule c_Mo_rule 4 (some .int) ({ frames := 1, cells := 0, slots := 0, locals := 30 } : Room) mem [.ref (ad 224), .long (x9)] (fun r mem' => ∃ J', MW cy ad J' A nm m0 mem' ∧ (∀ i, i ≠ 0 → J' i = J i) ∧ ((∃ i, fdF nm x9 R = some i ∧ r = nI i ∧ J' 0 = 0) ∨ (fdF nm x9 R = none ∧ J' 0 = 1))) := by
  refine Met.ofW (cc := c_Mo_rule) (maxL := 4) (ret := (some .int)) (by decide) rfl ?_
  intro p e s m args below meth c s₁ B hml hv
  obtain ⟨rfl, E, hP, hD⟩ := hv
  have hx := B.exec
  have hb := B.bytes
  have hr := B.returns
  have hlocks := B.notSynchronized
  have Bx : MB p s m [.ref (ad 224), .long (x9)].toArray c c_Mo_rule "AbnfChartModel" D cy := ⟨hx, hb, tb_all (atoms_spec B.pre) E.2.1, findClass_of_methodNamed B.named, E.1⟩
  have hS : va_S (Az sz) s.heap s.heap [] := va_S.rf
  have hl := lv_entry ([.ref (ad 224), .long (x9)]) (n := 4) (Nat.le_of_ble_eq_true rfl)
  rw [lg_entry_eq]
  generalize (lg_sl ([.ref (ad 224), .long (x9)]) ++ List.replicate (4 - (lg_sl ([.ref (ad 224), .long (x9)])).length) Slot.unset).toArray = ls at hl ⊢
  have hl : lv_has ls 4 [(0, .ref (ad 224)), (1, .long (x9))] := hl
  refine lv_aload_n Bx.1 Bx.2.1 d_Mo_rule_0 rfl (lv_at hl 0 rfl) ?_
  refine lv_iconst (v := 0) Bx.1 Bx.2.1 d_Mo_rule_1 (by decide) ?_
  refine f_put Bx hP hD hS (by omega) hM.1 rfl inMo tyMo okMo nmMo 0 (by decide) kw_656 rfl rfl rfl rfl (Nat.le_of_ble_eq_true rfl) d_Mo_rule_2 (fun H locs hP hS => ?_)
  obtain ⟨J1, eJ1⟩ : ∃ z, z = va_up J 0 (0) := ⟨_, rfl⟩
  obtain ⟨mem2, e_mem2⟩ : ∃ z, z = va_up mem 224 (moC ad J1) := ⟨_, rfl⟩
  have hP : va_P D vcl (fw n ad mem2) H := by rw [e_mem2, eJ1]; exact hP
  have hD : va_D (Az sz) (fw n ad mem2) := fw_D hD
  have hW3 : MW cy ad J1 A nm m0 mem2 := by rw [e_mem2]; exact hM.upJ (by rw [eJ1]; exact va_up_ne _ _ (by decide))
  have kk4 : J1 4 = nI R := by rw [eJ1]; exact h4
  have kk5 : J1 0 = 0 := by rw [eJ1, va_up_self]
  refine lv_iconst (v := 0) Bx.1 Bx.2.1 d_Mo_rule_5 (by decide) ?_
  refine lv_istore_n (lv' := [(3, .int (0)), (0, .ref (ad 224)), (1, .long (x9))]) Bx.1 Bx.2.1 d_Mo_rule_6 rfl hl (by decide) rfl (fun ls hl => ?_)
  have loop6 : ∀ (d7 : Nat) (k : Nat) (ls : Array Slot) (H : Heap) (locs : List Loc), (R - k < d7) → (k ≤ R) → (fdF nm x9 k = none) → (va_P D vcl (fw n ad mem2) H) → (va_D (Az sz) (fw n ad mem2)) → (va_S (Az sz) s.heap H locs) → (lv_has ls 4 [(3, .int (nI k)), (0, .ref (ad 224)), (1, .long (x9))]) → W p l e (headSpec (Cond.code y_Mo_rule c_Mo_rule 4 (some .int) :: tg) ({ frames := 1, cells := 0, slots := 0, locals := 30 } : Room)).room s m [.ref (ad 224), .long (x9)].toArray below meth c H locs 0 0 (MQ below (va_Qi (fun r mem' => ∃ J', MW cy ad J' A nm m0 mem' ∧ (∀ i, i ≠ 0 → J' i = J i) ∧ ((∃ i, fdF nm x9 R = some i ∧ r = nI i ∧ J' 0 = 0) ∨ (fdF nm x9 R = none ∧ J' 0 = 1))) (PP D n ad) (Az sz)) [.ref (ad 224), .long (x9)].toArray s 0 0 (Az sz)) (F0 m 7 ls []) := by
    intro d7
    induction d7 with
    | zero => intro k ls H locs hmeas11; exact absurd hmeas11 (Nat.not_lt_zero _)
    | succ d7 ih10 =>
      intro k ls H locs hmeas11 hz8 hz9 hP hD hS hl
      refine lv_iload_n Bx.1 Bx.2.1 d_Mo_rule_7 rfl (lv_at hl 0 rfl) ?_
      refine lv_aload_n Bx.1 Bx.2.1 d_Mo_rule_8 rfl (lv_at hl 1 rfl) ?_
      refine f_get Bx hP (by omega) hW3.1 rfl inMo 4 (by decide) kw_660 rfl rfl d_Mo_rule_9 ?_
      rw [kk4]
      refine lv_icmp_ge Bx.1 Bx.2.1 d_Mo_rule_12 rfl (fun hb12 => ?_) (fun hb12 => ?_)
      · have hN13 : R ≤ k := (nI_leI (by omega) (by omega)).mp (show nI (R) ≤ nI (k) from hb12)
        have hfR : fdF nm x9 R = none := by rw [show R = k by omega]; exact hz9
        refine lv_aload_n Bx.1 Bx.2.1 d_Mo_rule_34 rfl (lv_at hl 1 rfl) ?_
        refine lv_iconst (v := 1) Bx.1 Bx.2.1 d_Mo_rule_35 (by decide) ?_
        refine f_callVi (na := 1) (As := [.int (1)]) (rest := []) Bx hml E hP hD hS (by omega) hW3.1 rfl (m_Mo_fail l hn (J := J1) hW3.1) kw_757 kw_759 sel_Mo_fail kw_8 kw_760 (by decide +kernel) ⟨rfl, rfl⟩ ⟨Nat.le_of_ble_eq_true rfl, Nat.le_of_ble_eq_true rfl⟩ rfl hl.1 (Nat.le_of_ble_eq_true rfl) d_Mo_rule_36 ⟨Nat.le_of_ble_eq_true rfl, Nat.le_of_ble_eq_true rfl⟩ (fun r14 mem15 H locs hq hP hS => ?_)
        have hD : va_D (Az sz) (fw n ad mem15) := fw_D hD
        obtain ⟨hq0, hq⟩ := hq
        have hWf : MW cy ad (va_up J1 0 (1)) A nm m0 mem15 := by rw [hq]; exact hW3.upJ (va_up_ne _ _ (by decide))
        exact W.iret (v := r14) hx hb hr (fun t ht hW => ⟨⟨r14, mem15, rfl, ⟨_, hWf, fun i q1 => by rw [va_up_ne _ _ q1, eJ1, va_up_ne _ _ q1], Or.inr ⟨hfR, va_up_self _ _ _⟩⟩, by show va_P _ _ _ t.heap; rw [ht]; exact hP⟩, hS.F ht⟩) hS.2.2 d_Mo_rule_39
      · have hN16 : ¬ R ≤ k := fun q9 => hb12 (show nI (R) ≤ nI (k) from (nI_leI (by omega) (by omega)).mpr q9)
        refine lv_aload_n Bx.1 Bx.2.1 d_Mo_rule_15 rfl (lv_at hl 1 rfl) ?_
        refine f_get Bx hP (by omega) hW3.1 rfl inMo 5 (by decide) kw_661 rfl rfl d_Mo_rule_16 ?_
        refine lv_iload_n Bx.1 Bx.2.1 d_Mo_rule_19 rfl (lv_at hl 0 rfl) ?_
        refine f_lald Bx hP (by omega) hW3.2.1 (vp_in_nI (n := k) (by omega) (by decide)) d_Mo_rule_20 ?_
        rw [nI_clamp (n := k) (by omega)]
        refine lv_lload_n Bx.1 Bx.2.1 d_Mo_rule_21 rfl (lv_at hl 2 rfl) ?_
        refine W.lcmp Bx.1 Bx.2.1 d_Mo_rule_22 ?_
        refine lv_if_ne Bx.1 Bx.2.1 d_Mo_rule_23 rfl (fun h7c => ?_) (fun h7c => ?_)
        · refine lv_iinc (lv' := [(3, .int ((nI k + (1)))), (0, .ref (ad 224)), (1, .long (x9))]) Bx.1 Bx.2.1 d_Mo_rule_28 hl (k := 0) rfl rfl (by decide) rfl (fun ls hl => ?_)
          rw [show (nI k + (1) : Int32) = nI (k + 1) from nI_1 (k)] at hl
          refine lv_goto Bx.1 Bx.2.1 d_Mo_rule_31 rfl ?_
          exact ih10 (k + 1) _ _ _ (by have := hmeas11; omega) (by omega) (fdF_miss hz9 (fun z => h7c ((lg_cmp_eq _ _).mpr z))) hP hD hS (lv_sub hl [0, 1, 2] rfl)
        · have hhit : fdF nm x9 R = some k := by
            have := fdF_hit hz9 ((lg_cmp_eq _ _).mp h7c) (R - (k + 1))
            rw [show k + 1 + (R - (k + 1)) = R by omega] at this
            exact this
          refine lv_iload_n Bx.1 Bx.2.1 d_Mo_rule_26 rfl (lv_at hl 0 rfl) ?_
          exact W.iret (v := nI k) hx hb hr (fun t ht hW => ⟨⟨nI k, mem2, rfl, ⟨J1, hW3, fun i q1 => by rw [eJ1, va_up_ne _ _ q1], Or.inl ⟨k, hhit, rfl, kk5⟩⟩, by show va_P _ _ _ t.heap; rw [ht]; exact hP⟩, hS.F ht⟩) hS.2.2 d_Mo_rule_27
  exact loop6 _ (0) _ _ _ (Nat.lt_succ_self _) (by omega) (rfl) hP hD hS (lv_sub hl [0, 1, 2] rfl)
