def nmX (J J' : Nat → Int32) (A A' : Nat → Nat → Int32) (nm nm' : Nat → Int64) (L a R : Nat) (r : Int32) : Prop := a < (nmF (A 225) L 6 0 a 0).2 ∧ (nmF (A 225) L 6 0 a 0).2 ≤ L ∧ J' 16 = nI (nmF (A 225) L 6 0 a 0).2 ∧ (∀ i, i ≠ 16 → i ≠ 17 → i ≠ 3 → i ≠ 4 → J' i = J i) ∧ ((nameS (A 225) L a R A nm = none ∧ b12 (J' 17) ∧ A' = A) ∨ (J' 17 = J 17 ∧ ∃ r0 R', nameS (A 225) L a R A nm = some (r0, (nmF (A 225) L 6 0 a 0).2, R', A', nm') ∧ r = nI r0 ∧ r0 < R' ∧ R' ≤ 12 ∧ J' 4 = nI R' ∧ ((R' = R ∧ A' = A) ∨ (R' = R + 1 ∧ A' = va_up A 227 (upd (A 227) R (-1))))))
set_option maxHeartbeats 4000000 in
set_option maxRecDepth 100000 in
theorem m_Mo_nameX (l : Launch) {D : va_G} {cy : Nat → ClassId} {sz n : Nat} {ad : Nat → Nat} {mem : Nat → va_E} {J : Nat → Int32} {A : Nat → Nat → Int32} {nm : Nat → Int64} {m0 : Nat → va_E} {L a R : Nat} (hn : 242 ≤ n) (hM : MW cy ad J A nm m0 mem) (h1 : J 1 = nI L) (hL : L ≤ 240) (ha : J 16 = nI a) (haL : a ≤ L) (h17 : J 17 = 0 ∨ b12 (J 17)) (hR : J 4 = nI R) (hRb : R ≤ 12) (hlet : ltF (hereF L (A 225) a) ≠ 0) : MI l D cy sz n ad y_Mo_name c_Mo_name 6 (some .int) ({ frames := 2, cells := 0, slots := 0, locals := 60 } : Room) mem [.ref (ad 224)] (fun r mem' => ∃ J' A' nm', MW cy ad J' A' nm' m0 mem' ∧ nmX J J' A A' nm nm' L a R r) := by
  refine Met.ofW (cc := c_Mo_name) (maxL := 6) (ret := (some .int)) (by decide) rfl ?_
  intro p e s m args below meth c s₁ B hml hv
  obtain ⟨rfl, E, hP, hD⟩ := hv
  have hx := B.exec
  have hb := B.bytes
  have hr := B.returns
  have hlocks := B.notSynchronized
  have Bx : MB p s m [.ref (ad 224)].toArray c c_Mo_name "AbnfChartModel" D cy := ⟨hx, hb, tb_all (atoms_spec B.pre) E.2.1, findClass_of_methodNamed B.named, E.1⟩
  have hS : va_S (Az sz) s.heap s.heap [] := va_S.rf
  have hl := lv_entry ([.ref (ad 224)]) (n := 6) (Nat.le_of_ble_eq_true rfl)
  rw [lg_entry_eq]
  generalize (lg_sl ([.ref (ad 224)]) ++ List.replicate (6 - (lg_sl ([.ref (ad 224)])).length) Slot.unset).toArray = ls at hl ⊢
  have hl : lv_has ls 6 [(0, .ref (ad 224))] := hl
  refine lv_aload_n Bx.1 Bx.2.1 d_Mo_name_0 rfl (lv_at hl 0 rfl) ?_
  refine f_get Bx hP (by omega) hM.1 rfl inMo 16 (by decide) kw_672 rfl rfl d_Mo_name_1 ?_
  rw [ha]
  refine lv_istore_n (lv' := [(1, .int (nI a)), (0, .ref (ad 224))]) Bx.1 Bx.2.1 d_Mo_name_4 rfl hl (by decide) rfl (fun ls hl => ?_)
  refine lv_lconst (v := 0) Bx.1 Bx.2.1 d_Mo_name_5 (by decide) ?_
  refine lv_lstore_n (lv' := [(2, .long (0)), (1, .int (nI a)), (0, .ref (ad 224))]) Bx.1 Bx.2.1 d_Mo_name_6 rfl hl (by decide) rfl (fun ls hl => ?_)
  refine lv_iconst (v := 0) Bx.1 Bx.2.1 d_Mo_name_7 (by decide) ?_
  refine lv_istore (lv' := [(4, .int (0)), (2, .long (0)), (1, .int (nI a)), (0, .ref (ad 224))]) Bx.1 Bx.2.1 d_Mo_name_8 hl (by decide) rfl (fun ls hl => ?_)
  have loop1 : ∀ (d2 : Nat) (mem9 : Nat → va_E) (J9 : Nat → Int32) (a1 : Nat) (k : Nat) (v : Int64) (ls : Array Slot) (H : Heap) (locs : List Loc), (6 - k < d2) → (J9 = va_up J 16 (nI a1) ∧ J9 1 = nI L ∧ J9 16 = nI a1 ∧ J9 4 = nI R) → (MW cy ad J9 A nm m0 mem9) → (a1 = a + k ∧ a1 ≤ L ∧ k ≤ 6) → (nmF (A 225) L (6 - k) k a1 v = nmF (A 225) L 6 0 a 0) → (va_P D vcl (fw n ad mem9) H) → (va_D (Az sz) (fw n ad mem9)) → (va_S (Az sz) s.heap H locs) → (lv_has ls 6 [(4, .int (nI k)), (2, .long (v)), (1, .int (nI a)), (0, .ref (ad 224))]) → W p l e (headSpec (Cond.code y_Mo_name c_Mo_name 6 (some .int) :: tg) ({ frames := 2, cells := 0, slots := 0, locals := 60 } : Room)).room s m [.ref (ad 224)].toArray below meth c H locs 0 0 (MQ below (va_Qi (fun r mem' => ∃ J' A' nm', MW cy ad J' A' nm' m0 mem' ∧ nmX J J' A A' nm nm' L a R r) (PP D n ad) (Az sz)) [.ref (ad 224)].toArray s 0 0 (Az sz)) (F0 m 10 ls []) := by
    intro d2
    induction d2 with
    | zero => intro mem9 J9 a1 k v ls H locs hmeas8; exact absurd hmeas8 (Nat.not_lt_zero _)
    | succ d2 ih7 =>
      intro mem9 J9 a1 k v ls H locs hmeas8 hz3 hz4 hz5 hz6 hP hD hS hl
      obtain ⟨eJ9, g1, g16, g4⟩ := hz3
      refine lv_iload Bx.1 Bx.2.1 d_Mo_name_10 (lv_at hl 0 rfl) ?_
      refine lv_bipush (v := 6) Bx.1 Bx.2.1 d_Mo_name_12 (by decide) ?_
      refine lv_icmp_ge Bx.1 Bx.2.1 d_Mo_name_14 rfl (fun hb9 => ?_) (fun hb9 => ?_)
      · have hN10 : 6 ≤ k := (nI_leI (by omega) (by omega)).mp (show nI (6) ≤ nI (k) from hb9)
        have hn1 : 1 ≤ k := by first | omega | exact Nat.pos_of_ne_zero (fun q9 => by subst q9; obtain rfl : a1 = a := (by omega); exact absurd trivial hlet)
        have hnm : nmF (A 225) L 6 0 a 0 = (v, a1) := by
          rw [← hz6]
          rw [show 6 - k = 0 by omega]
          rfl
        have hn2 : (nmF (A 225) L 6 0 a 0).2 = a1 := by rw [hnm]
        have hnv : (nmF (A 225) L 6 0 a 0).1 = v := by rw [hnm]
        refine lv_iconst (v := 0) Bx.1 Bx.2.1 d_Mo_name_84 (by decide) ?_
        refine lv_istore (lv' := [(5, .int (0)), (4, .int (nI k)), (2, .long (v)), (1, .int (nI a)), (0, .ref (ad 224))]) Bx.1 Bx.2.1 d_Mo_name_85 hl (by decide) rfl (fun ls hl => ?_)
        have loop11 : ∀ (d12 : Nat) (rr : Nat) (ls : Array Slot) (H : Heap) (locs : List Loc), (R - rr < d12) → (rr ≤ R) → (fdF nm v rr = none) → (va_P D vcl (fw n ad mem9) H) → (va_D (Az sz) (fw n ad mem9)) → (va_S (Az sz) s.heap H locs) → (lv_has ls 6 [(5, .int (nI rr)), (4, .int (nI k)), (2, .long (v)), (1, .int (nI a)), (0, .ref (ad 224))]) → W p l e (headSpec (Cond.code y_Mo_name c_Mo_name 6 (some .int) :: tg) ({ frames := 2, cells := 0, slots := 0, locals := 60 } : Room)).room s m [.ref (ad 224)].toArray below meth c H locs 0 0 (MQ below (va_Qi (fun r mem' => ∃ J' A' nm', MW cy ad J' A' nm' m0 mem' ∧ nmX J J' A A' nm nm' L a R r) (PP D n ad) (Az sz)) [.ref (ad 224)].toArray s 0 0 (Az sz)) (F0 m 87 ls []) := by
          intro d12
          induction d12 with
          | zero => intro rr ls H locs hmeas16; exact absurd hmeas16 (Nat.not_lt_zero _)
          | succ d12 ih15 =>
            intro rr ls H locs hmeas16 hz13 hz14 hP hD hS hl
            refine lv_iload Bx.1 Bx.2.1 d_Mo_name_87 (lv_at hl 0 rfl) ?_
            refine lv_aload_n Bx.1 Bx.2.1 d_Mo_name_89 rfl (lv_at hl 4 rfl) ?_
            refine f_get Bx hP (by omega) hz4.1 rfl inMo 4 (by decide) kw_660 rfl rfl d_Mo_name_90 ?_
            rw [g4]
            refine lv_icmp_ge Bx.1 Bx.2.1 d_Mo_name_93 rfl (fun hb17 => ?_) (fun hb17 => ?_)
            · have hN18 : R ≤ rr := (nI_leI (by omega) (by omega)).mp (show nI (R) ≤ nI (rr) from hb17)
              have hfR : fdF nm v R = none := by rw [show R = rr by omega]; exact hz14
              refine lv_aload_n Bx.1 Bx.2.1 d_Mo_name_117 rfl (lv_at hl 4 rfl) ?_
              refine f_get Bx hP (by omega) hz4.1 rfl inMo 4 (by decide) kw_660 rfl rfl d_Mo_name_118 ?_
              rw [g4]
              refine lv_bipush (v := 12) Bx.1 Bx.2.1 d_Mo_name_121 (by decide) ?_
              refine lv_icmp_ne Bx.1 Bx.2.1 d_Mo_name_123 rfl (fun hb19 => ?_) (fun hb19 => ?_)
              · have hN20 : ¬ R = 12 := fun q9 => hb19 (show nI (R) = nI (12) from (nI_eq (by omega) (by omega)).mpr q9)
                refine lv_aload_n Bx.1 Bx.2.1 d_Mo_name_134 rfl (lv_at hl 4 rfl) ?_
                refine f_get Bx hP (by omega) hz4.1 rfl inMo 5 (by decide) kw_661 rfl rfl d_Mo_name_135 ?_
                refine lv_aload_n Bx.1 Bx.2.1 d_Mo_name_138 rfl (lv_at hl 4 rfl) ?_
                refine f_get Bx hP (by omega) hz4.1 rfl inMo 4 (by decide) kw_660 rfl rfl d_Mo_name_139 ?_
                rw [g4]
                refine lv_lload_n Bx.1 Bx.2.1 d_Mo_name_142 rfl (lv_at hl 2 rfl) ?_
                refine f_last (x := v) (i := nI R) Bx hP hD hS (by omega) hz4.2.1 (vp_in_nI (n := R) (by omega) (by decide)) d_Mo_name_143 (fun H locs hP hS => ?_)
                rw [nI_clamp (n := R) (by omega)] at hP
                obtain ⟨nn22, enn22⟩ : ∃ z : Nat → Int64, z = vp_updL nm R (v) := ⟨_, rfl⟩
                rw [← enn22] at hP
                obtain ⟨mem21, e_mem21⟩ : ∃ z, z = va_up mem9 226 (.inl (cy 2, 12, .inr (.inl nn22))) := ⟨_, rfl⟩
                have hP : va_P D vcl (fw n ad mem21) H := by rw [e_mem21]; exact hP
                have hD : va_D (Az sz) (fw n ad mem21) := fw_D hD
                have hW23 : MW cy ad J9 A nn22 m0 mem21 := by rw [e_mem21]; exact hz4.upN
                refine lv_aload_n Bx.1 Bx.2.1 d_Mo_name_144 rfl (lv_at hl 4 rfl) ?_
                refine f_get Bx hP (by omega) hW23.1 rfl inMo 6 (by decide) kw_662 rfl rfl d_Mo_name_145 ?_
                refine lv_aload_n Bx.1 Bx.2.1 d_Mo_name_148 rfl (lv_at hl 4 rfl) ?_
                refine f_get Bx hP (by omega) hW23.1 rfl inMo 4 (by decide) kw_660 rfl rfl d_Mo_name_149 ?_
                rw [g4]
                refine lv_iconst (v := -1) Bx.1 Bx.2.1 d_Mo_name_152 (by decide) ?_
                refine f_iast (x := (-1)) (i := nI (R)) Bx hP hD hS (by omega) (show mem21 227 = .inl (cy 1, 12, .inl (A 227)) from hW23.2.2.1 227 (by decide) (by decide) (by decide)) (vp_in_nI (n := R) (by omega) (by decide)) d_Mo_name_153 (fun H locs hP hS => ?_)
                rw [nI_clamp (n := R) (by omega)] at hP
                obtain ⟨A24, eA24⟩ : ∃ z, z = va_up A 227 (upd (A 227) (R) ((-1))) := ⟨_, rfl⟩
                obtain ⟨mem25, e_mem25⟩ : ∃ z, z = va_up mem21 227 (.inl (cy 1, 12, .inl (upd (A 227) (R) ((-1))))) := ⟨_, rfl⟩
                have hP : va_P D vcl (fw n ad mem25) H := by rw [e_mem25]; exact hP
                have hD : va_D (Az sz) (fw n ad mem25) := fw_D hD
                have hW26 : MW cy ad J9 A24 nn22 m0 mem25 := by rw [e_mem25, eA24]; exact hW23.upA (j := 227) (by decide) (by decide) (by decide) (Or.inl (by decide))
                refine lv_aload_n Bx.1 Bx.2.1 d_Mo_name_154 rfl (lv_at hl 4 rfl) ?_
                refine lv_dup Bx.1 Bx.2.1 d_Mo_name_155 rfl ?_
                refine f_get Bx hP (by omega) hW26.1 rfl inMo 4 (by decide) kw_660 rfl rfl d_Mo_name_156 ?_
                rw [g4]
                refine lv_iconst (v := 1) Bx.1 Bx.2.1 d_Mo_name_159 (by decide) ?_
                refine lv_iadd Bx.1 Bx.2.1 d_Mo_name_160 ?_
                rw [show nI R + 1 = nI (R + 1) from nI_add (R) (1)]
                refine f_put Bx hP hD hS (by omega) hW26.1 rfl inMo tyMo okMo nmMo 4 (by decide) kw_660 rfl rfl rfl rfl (Nat.le_of_ble_eq_true rfl) d_Mo_name_161 (fun H locs hP hS => ?_)
                obtain ⟨J27, eJ27⟩ : ∃ z, z = va_up J9 4 (nI (R + 1)) := ⟨_, rfl⟩
                obtain ⟨mem28, e_mem28⟩ : ∃ z, z = va_up mem25 224 (moC ad J27) := ⟨_, rfl⟩
                have hP : va_P D vcl (fw n ad mem28) H := by rw [e_mem28, eJ27]; exact hP
                have hD : va_D (Az sz) (fw n ad mem28) := fw_D hD
                have hW29 : MW cy ad J27 A24 nn22 m0 mem28 := by rw [e_mem28]; exact hW26.upJ (by rw [eJ27]; exact va_up_ne _ _ (by decide))
                have kk30 : J27 1 = nI L := by rw [eJ27]; exact g1
                have kk31 : J27 16 = nI a1 := by rw [eJ27]; exact g16
                have kk32 : J27 4 = nI (R + 1) := by rw [eJ27, va_up_self]
                refine lv_aload_n Bx.1 Bx.2.1 d_Mo_name_164 rfl (lv_at hl 4 rfl) ?_
                refine f_get Bx hP (by omega) hW29.1 rfl inMo 4 (by decide) kw_660 rfl rfl d_Mo_name_165 ?_
                rw [kk32]
                refine lv_iconst (v := 1) Bx.1 Bx.2.1 d_Mo_name_168 (by decide) ?_
                refine lv_isub Bx.1 Bx.2.1 d_Mo_name_169 ?_
                rw [show nI (R + 1) - 1 = nI (R) from nI_pred (R)]
                exact W.iret (v := nI (R)) hx hb hr (fun t ht hW => ⟨⟨nI (R), mem28, rfl, ⟨J27, A24, nn22, hW29, by rw [hn2]; omega, by rw [hn2]; omega, by rw [hn2]; exact kk31, fun i q1 q2 q3 q4 => by rw [eJ27, va_up_ne _ _ q4, eJ9, va_up_ne _ _ q1], Or.inr ⟨by rw [eJ27, eJ9]; rfl, R, R + 1, by unfold nameS; rw [hnv, hfR, hn2]; simp only []; rw [if_neg (by omega), eA24, enn22], rfl, by omega, by omega, kk32, Or.inr ⟨rfl, by rw [eA24]⟩⟩⟩, by show va_P _ _ _ t.heap; rw [ht]; exact hP⟩, hS.F ht⟩) hS.2.2 d_Mo_name_170
              · have hN33 : R = 12 := (nI_eq (by omega) (by omega)).mp (show nI (R) = nI (12) from hb19)
                refine lv_aload_n Bx.1 Bx.2.1 d_Mo_name_126 rfl (lv_at hl 4 rfl) ?_
                refine lv_iconst (v := 2) Bx.1 Bx.2.1 d_Mo_name_127 (by decide) ?_
                refine lv_iload_n Bx.1 Bx.2.1 d_Mo_name_128 rfl (lv_at hl 3 rfl) ?_
                refine f_callVv (na := 2) (As := [.int (2), .int (nI a)]) (rest := []) Bx hml E hP hD hS (by omega) hz4.1 rfl (m_Mo_wrong l hn hz4 (by rw [eJ9]; exact h17) (by first | exact Or.inl rfl | exact Or.inr rfl)) kw_799 kw_801 sel_Mo_wrong kw_8 kw_802 (by decide +kernel) ⟨rfl, rfl⟩ ⟨Nat.le_of_ble_eq_true rfl, Nat.le_of_ble_eq_true rfl⟩ rfl hl.1 (Nat.le_of_ble_eq_true rfl) d_Mo_name_129 ⟨Nat.le_of_ble_eq_true rfl, Nat.le_of_ble_eq_true rfl⟩ (fun mem35 H locs hq hP hS => ?_)
                have hD : va_D (Az sz) (fw n ad mem35) := fw_D hD
                obtain ⟨J36, hW37, hwr38⟩ := hq
                have kk39 : J36 1 = nI L := (show J36 1 = J9 1 from hwr38.2 1 (by decide) (by decide)).trans g1
                have kk40 : J36 16 = nI a1 := (show J36 16 = J9 16 from hwr38.2 16 (by decide) (by decide)).trans g16
                have kk41 : J36 4 = nI R := (show J36 4 = J9 4 from hwr38.2 4 (by decide) (by decide)).trans g4
                refine lv_iconst (v := 0) Bx.1 Bx.2.1 d_Mo_name_132 (by decide) ?_
                exact W.iret (v := 0) hx hb hr (fun t ht hW => ⟨⟨0, mem35, rfl, ⟨J36, A, nm, hW37, by rw [hn2]; omega, by rw [hn2]; omega, by rw [hn2]; exact kk40, fun i q1 q2 q3 q4 => (hwr38.2 i q2 q3).trans (by rw [eJ9, va_up_ne _ _ q1]), Or.inl ⟨by unfold nameS; rw [hnv, hfR]; simp only []; rw [if_pos (by omega)], hwr38.1, rfl⟩⟩, by show va_P _ _ _ t.heap; rw [ht]; exact hP⟩, hS.F ht⟩) hS.2.2 d_Mo_name_133
            · have hN42 : ¬ R ≤ rr := fun q9 => hb17 (show nI (R) ≤ nI (rr) from (nI_leI (by omega) (by omega)).mpr q9)
              refine lv_aload_n Bx.1 Bx.2.1 d_Mo_name_96 rfl (lv_at hl 4 rfl) ?_
              refine f_get Bx hP (by omega) hz4.1 rfl inMo 5 (by decide) kw_661 rfl rfl d_Mo_name_97 ?_
              refine lv_iload Bx.1 Bx.2.1 d_Mo_name_100 (lv_at hl 0 rfl) ?_
              refine f_lald Bx hP (by omega) hz4.2.1 (vp_in_nI (n := rr) (by omega) (by decide)) d_Mo_name_102 ?_
              rw [nI_clamp (n := rr) (by omega)]
              refine lv_lload_n Bx.1 Bx.2.1 d_Mo_name_103 rfl (lv_at hl 2 rfl) ?_
              refine W.lcmp Bx.1 Bx.2.1 d_Mo_name_104 ?_
              refine lv_if_ne Bx.1 Bx.2.1 d_Mo_name_105 rfl (fun h7 => ?_) (fun h7 => ?_)
              · refine lv_iinc (lv' := [(5, .int ((nI rr + (1)))), (4, .int (nI k)), (2, .long (v)), (1, .int (nI a)), (0, .ref (ad 224))]) Bx.1 Bx.2.1 d_Mo_name_111 hl (k := 0) rfl rfl (by decide) rfl (fun ls hl => ?_)
                rw [show (nI rr + (1) : Int32) = nI (rr + 1) from nI_1 (rr)] at hl
                refine lv_goto Bx.1 Bx.2.1 d_Mo_name_114 rfl ?_
                exact ih15 (rr + 1) _ _ _ (by have := hmeas16; omega) (by omega) (fdF_miss hz14 (fun z => h7 ((lg_cmp_eq _ _).mpr z))) hP hD hS (lv_sub hl [0, 1, 2, 3, 4] rfl)
              · have hhit : fdF nm v R = some rr := by
                  have := fdF_hit hz14 ((lg_cmp_eq _ _).mp h7) (R - (rr + 1))
                  rw [show rr + 1 + (R - (rr + 1)) = R by omega] at this
                  exact this
                refine lv_iload Bx.1 Bx.2.1 d_Mo_name_108 (lv_at hl 0 rfl) ?_
                exact W.iret (v := nI rr) hx hb hr (fun t ht hW => ⟨⟨nI rr, mem9, rfl, ⟨J9, A, nm, hz4, by rw [hn2]; omega, by rw [hn2]; omega, by rw [hn2]; exact g16, fun i q1 q2 q3 q4 => by rw [eJ9, va_up_ne _ _ q1], Or.inr ⟨by rw [eJ9]; rfl, rr, R, by unfold nameS; rw [hnv, hhit], rfl, by omega, by omega, g4, Or.inl ⟨rfl, rfl⟩⟩⟩, by show va_P _ _ _ t.heap; rw [ht]; exact hP⟩, hS.F ht⟩) hS.2.2 d_Mo_name_110
        exact loop11 _ (0) _ _ _ (Nat.lt_succ_self _) (by omega) (rfl) hP hD hS (lv_sub hl [0, 1, 2, 3, 4] rfl)
      · have hN43 : ¬ 6 ≤ k := fun q9 => hb9 (show nI (6) ≤ nI (k) from (nI_leI (by omega) (by omega)).mpr q9)
        refine lv_aload_n Bx.1 Bx.2.1 d_Mo_name_17 rfl (lv_at hl 3 rfl) ?_
        refine f_callVi (na := 0) (As := []) (rest := []) Bx hml E hP hD hS (by omega) hz4.1 rfl (m_Mo_here l hn hz4 g1 hL g16 (by omega)) kw_778 kw_780 sel_Mo_here kw_8 kw_781 (by decide +kernel) ⟨rfl, rfl⟩ ⟨Nat.le_of_ble_eq_true rfl, Nat.le_of_ble_eq_true rfl⟩ rfl hl.1 (Nat.le_of_ble_eq_true rfl) d_Mo_name_18 ⟨Nat.le_of_ble_eq_true rfl, Nat.le_of_ble_eq_true rfl⟩ (fun r44 mem45 H locs hq hP hS => ?_)
        have hD : va_D (Az sz) (fw n ad mem45) := fw_D hD
        obtain ⟨hre, hq⟩ := hq
        rw [hq] at hP hD
        subst hre
        refine f_callSi (na := 1) (As := [.int (hereF L (A 225) (a1))]) (rest := []) Bx hml E.2.1 (m_Mo_letter l (hereF L (A 225) (a1))) kw_782 kw_783 kw_8 kw_784 (by decide +kernel) ⟨rfl, rfl⟩ ⟨Nat.le_of_ble_eq_true rfl, Nat.le_of_ble_eq_true rfl⟩ rfl hl.1 (Nat.le_of_ble_eq_true rfl) d_Mo_name_21 ⟨Nat.le_of_ble_eq_true rfl, Nat.le_of_ble_eq_true rfl⟩ (fun r47 hs46 => ?_)
        subst hs46
        refine lv_if_ne Bx.1 Bx.2.1 d_Mo_name_24 rfl (fun hb48 => ?_) (fun hb48 => ?_)
        · have hlt49 : a1 < L := hereF_lt (ltF_ne hb48)
          refine lv_lload_n Bx.1 Bx.2.1 d_Mo_name_51 rfl (lv_at hl 1 rfl) ?_
          refine lv_aload_n Bx.1 Bx.2.1 d_Mo_name_52 rfl (lv_at hl 3 rfl) ?_
          refine f_callVi (na := 0) (As := []) (rest := [.long (v)]) Bx hml E hP hD hS (by omega) hz4.1 rfl (m_Mo_here l hn hz4 g1 hL g16 (by omega)) kw_778 kw_780 sel_Mo_here kw_8 kw_781 (by decide +kernel) ⟨rfl, rfl⟩ ⟨Nat.le_of_ble_eq_true rfl, Nat.le_of_ble_eq_true rfl⟩ rfl hl.1 (Nat.le_of_ble_eq_true rfl) d_Mo_name_53 ⟨Nat.le_of_ble_eq_true rfl, Nat.le_of_ble_eq_true rfl⟩ (fun r50 mem51 H locs hq hP hS => ?_)
          have hD : va_D (Az sz) (fw n ad mem51) := fw_D hD
          obtain ⟨hre, hq⟩ := hq
          rw [hq] at hP hD
          subst hre
          refine f_callSi (na := 1) (As := [.int (hereF L (A 225) (a1))]) (rest := [.long (v)]) Bx hml E.2.1 (m_Mo_small l (hereF L (A 225) (a1))) kw_796 kw_797 kw_8 kw_798 (by decide +kernel) ⟨rfl, rfl⟩ ⟨Nat.le_of_ble_eq_true rfl, Nat.le_of_ble_eq_true rfl⟩ rfl hl.1 (Nat.le_of_ble_eq_true rfl) d_Mo_name_56 ⟨Nat.le_of_ble_eq_true rfl, Nat.le_of_ble_eq_true rfl⟩ (fun r53 hs52 => ?_)
          subst hs52
          refine lv_i2l Bx.1 Bx.2.1 d_Mo_name_59 rfl ?_
          refine lv_bipush (v := 8) Bx.1 Bx.2.1 d_Mo_name_60 (by decide) ?_
          refine lv_iload Bx.1 Bx.2.1 d_Mo_name_62 (lv_at hl 0 rfl) ?_
          refine lv_imul Bx.1 Bx.2.1 d_Mo_name_64 ?_
          rw [show 8 * nI k = nI (8 * k) from nI_mulR (8) (k)]
          refine lv_lshl Bx.1 Bx.2.1 d_Mo_name_65 rfl ?_
          refine lv_lor Bx.1 Bx.2.1 d_Mo_name_66 ?_
          refine lv_lstore_n (lv' := [(2, .long (v ||| ((smF (hereF L (A 225) (a1))).toInt64) <<< ((nI (8 * k) : Int32).toInt64 &&& 63))), (4, .int (nI k)), (1, .int (nI a)), (0, .ref (ad 224))]) Bx.1 Bx.2.1 d_Mo_name_67 rfl hl (by decide) rfl (fun ls hl => ?_)
          refine lv_iinc (lv' := [(4, .int ((nI k + (1)))), (2, .long (v ||| ((smF (hereF L (A 225) (a1))).toInt64) <<< ((nI (8 * k) : Int32).toInt64 &&& 63))), (1, .int (nI a)), (0, .ref (ad 224))]) Bx.1 Bx.2.1 d_Mo_name_68 hl (k := 1) rfl rfl (by decide) rfl (fun ls hl => ?_)
          rw [show (nI k + (1) : Int32) = nI (k + 1) from nI_1 (k)] at hl
          refine lv_aload_n Bx.1 Bx.2.1 d_Mo_name_71 rfl (lv_at hl 3 rfl) ?_
          refine lv_dup Bx.1 Bx.2.1 d_Mo_name_72 rfl ?_
          refine f_get Bx hP (by omega) hz4.1 rfl inMo 16 (by decide) kw_672 rfl rfl d_Mo_name_73 ?_
          rw [g16]
          refine lv_iconst (v := 1) Bx.1 Bx.2.1 d_Mo_name_76 (by decide) ?_
          refine lv_iadd Bx.1 Bx.2.1 d_Mo_name_77 ?_
          rw [show nI a1 + 1 = nI (a1 + 1) from nI_add (a1) (1)]
          refine f_put Bx hP hD hS (by omega) hz4.1 rfl inMo tyMo okMo nmMo 16 (by decide) kw_672 rfl rfl rfl rfl (Nat.le_of_ble_eq_true rfl) d_Mo_name_78 (fun H locs hP hS => ?_)
          obtain ⟨J54, eJ54⟩ : ∃ z, z = va_up J9 16 (nI (a1 + 1)) := ⟨_, rfl⟩
          obtain ⟨mem55, e_mem55⟩ : ∃ z, z = va_up mem9 224 (moC ad J54) := ⟨_, rfl⟩
          have hP : va_P D vcl (fw n ad mem55) H := by rw [e_mem55, eJ54]; exact hP
          have hD : va_D (Az sz) (fw n ad mem55) := fw_D hD
          have hW56 : MW cy ad J54 A nm m0 mem55 := by rw [e_mem55]; exact hz4.upJ (by rw [eJ54]; exact va_up_ne _ _ (by decide))
          have kk57 : J54 1 = nI L := by rw [eJ54]; exact g1
          have kk58 : J54 4 = nI R := by rw [eJ54]; exact g4
          have kk59 : J54 16 = nI (a1 + 1) := by rw [eJ54, va_up_self]
          refine lv_goto Bx.1 Bx.2.1 d_Mo_name_81 rfl ?_
          have hJe : J54 = va_up J 16 (nI (a1 + 1)) := by rw [eJ54, eJ9, up_up]
          have hnx : nmF (A 225) L (6 - (k + 1)) (k + 1) (a1 + 1) (v ||| ((smF (hereF L (A 225) (a1))).toInt64) <<< ((nI (8 * k) : Int32).toInt64 &&& 63)) = nmF (A 225) L 6 0 a 0 := by
            rw [← hz6]
            obtain ⟨r6, hr6⟩ : ∃ r6, 6 - k = r6 + 1 := ⟨5 - k, by omega⟩
            rw [hr6, show 6 - (k + 1) = r6 by omega]
            conv => rhs; rw [nmF, if_pos (Or.inl hb48)]
          exact ih7 mem55 (J54) (a1 + 1) (k + 1) (v ||| ((smF (hereF L (A 225) (a1))).toInt64) <<< ((nI (8 * k) : Int32).toInt64 &&& 63)) _ _ _ (by have := hmeas8; omega) (⟨hJe, kk57, kk59, kk58⟩) (hW56) (⟨by omega, by omega, by omega⟩) (hnx) hP hD hS (lv_sub hl [0, 1, 2, 3] rfl)
        · refine lv_iload Bx.1 Bx.2.1 d_Mo_name_27 (lv_at hl 0 rfl) ?_
          refine lv_if_le Bx.1 Bx.2.1 d_Mo_name_29 rfl (fun hb60 => ?_) (fun hb60 => ?_)
          · have hN61 : k ≤ 0 := (nI_leI (by omega) (by omega)).mp (show nI (k) ≤ nI (0) from hb60)
            have hn1 : 1 ≤ k := by first | omega | exact Nat.pos_of_ne_zero (fun q9 => by subst q9; obtain rfl : a1 = a := (by omega); exact absurd hb48 hlet)
            have hnm : nmF (A 225) L 6 0 a 0 = (v, a1) := by
              rw [← hz6]
              obtain ⟨r6, hr6⟩ : ∃ r6, 6 - k = r6 + 1 := ⟨5 - k, by omega⟩
              rw [hr6, nmF, if_neg (fun z => by
                rcases z with z | ⟨z1, z | z⟩
                · exact z hb48
                · first | omega | exact z trivial
                · first | omega | exact trivial z)]
            have hn2 : (nmF (A 225) L 6 0 a 0).2 = a1 := by rw [hnm]
            have hnv : (nmF (A 225) L 6 0 a 0).1 = v := by rw [hnm]
            refine lv_iconst (v := 0) Bx.1 Bx.2.1 d_Mo_name_84 (by decide) ?_
            refine lv_istore (lv' := [(5, .int (0)), (4, .int (nI k)), (2, .long (v)), (1, .int (nI a)), (0, .ref (ad 224))]) Bx.1 Bx.2.1 d_Mo_name_85 hl (by decide) rfl (fun ls hl => ?_)
            have loop62 : ∀ (d63 : Nat) (rr : Nat) (ls : Array Slot) (H : Heap) (locs : List Loc), (R - rr < d63) → (rr ≤ R) → (fdF nm v rr = none) → (va_P D vcl (fw n ad mem9) H) → (va_D (Az sz) (fw n ad mem9)) → (va_S (Az sz) s.heap H locs) → (lv_has ls 6 [(5, .int (nI rr)), (4, .int (nI k)), (2, .long (v)), (1, .int (nI a)), (0, .ref (ad 224))]) → W p l e (headSpec (Cond.code y_Mo_name c_Mo_name 6 (some .int) :: tg) ({ frames := 2, cells := 0, slots := 0, locals := 60 } : Room)).room s m [.ref (ad 224)].toArray below meth c H locs 0 0 (MQ below (va_Qi (fun r mem' => ∃ J' A' nm', MW cy ad J' A' nm' m0 mem' ∧ nmX J J' A A' nm nm' L a R r) (PP D n ad) (Az sz)) [.ref (ad 224)].toArray s 0 0 (Az sz)) (F0 m 87 ls []) := by
              intro d63
              induction d63 with
              | zero => intro rr ls H locs hmeas67; exact absurd hmeas67 (Nat.not_lt_zero _)
              | succ d63 ih66 =>
                intro rr ls H locs hmeas67 hz64 hz65 hP hD hS hl
                refine lv_iload Bx.1 Bx.2.1 d_Mo_name_87 (lv_at hl 0 rfl) ?_
                refine lv_aload_n Bx.1 Bx.2.1 d_Mo_name_89 rfl (lv_at hl 4 rfl) ?_
                refine f_get Bx hP (by omega) hz4.1 rfl inMo 4 (by decide) kw_660 rfl rfl d_Mo_name_90 ?_
                rw [g4]
                refine lv_icmp_ge Bx.1 Bx.2.1 d_Mo_name_93 rfl (fun hb68 => ?_) (fun hb68 => ?_)
                · have hN69 : R ≤ rr := (nI_leI (by omega) (by omega)).mp (show nI (R) ≤ nI (rr) from hb68)
                  have hfR : fdF nm v R = none := by rw [show R = rr by omega]; exact hz65
                  refine lv_aload_n Bx.1 Bx.2.1 d_Mo_name_117 rfl (lv_at hl 4 rfl) ?_
                  refine f_get Bx hP (by omega) hz4.1 rfl inMo 4 (by decide) kw_660 rfl rfl d_Mo_name_118 ?_
                  rw [g4]
                  refine lv_bipush (v := 12) Bx.1 Bx.2.1 d_Mo_name_121 (by decide) ?_
                  refine lv_icmp_ne Bx.1 Bx.2.1 d_Mo_name_123 rfl (fun hb70 => ?_) (fun hb70 => ?_)
                  · have hN71 : ¬ R = 12 := fun q9 => hb70 (show nI (R) = nI (12) from (nI_eq (by omega) (by omega)).mpr q9)
                    refine lv_aload_n Bx.1 Bx.2.1 d_Mo_name_134 rfl (lv_at hl 4 rfl) ?_
                    refine f_get Bx hP (by omega) hz4.1 rfl inMo 5 (by decide) kw_661 rfl rfl d_Mo_name_135 ?_
                    refine lv_aload_n Bx.1 Bx.2.1 d_Mo_name_138 rfl (lv_at hl 4 rfl) ?_
                    refine f_get Bx hP (by omega) hz4.1 rfl inMo 4 (by decide) kw_660 rfl rfl d_Mo_name_139 ?_
                    rw [g4]
                    refine lv_lload_n Bx.1 Bx.2.1 d_Mo_name_142 rfl (lv_at hl 2 rfl) ?_
                    refine f_last (x := v) (i := nI R) Bx hP hD hS (by omega) hz4.2.1 (vp_in_nI (n := R) (by omega) (by decide)) d_Mo_name_143 (fun H locs hP hS => ?_)
                    rw [nI_clamp (n := R) (by omega)] at hP
                    obtain ⟨nn73, enn73⟩ : ∃ z : Nat → Int64, z = vp_updL nm R (v) := ⟨_, rfl⟩
                    rw [← enn73] at hP
                    obtain ⟨mem72, e_mem72⟩ : ∃ z, z = va_up mem9 226 (.inl (cy 2, 12, .inr (.inl nn73))) := ⟨_, rfl⟩
                    have hP : va_P D vcl (fw n ad mem72) H := by rw [e_mem72]; exact hP
                    have hD : va_D (Az sz) (fw n ad mem72) := fw_D hD
                    have hW74 : MW cy ad J9 A nn73 m0 mem72 := by rw [e_mem72]; exact hz4.upN
                    refine lv_aload_n Bx.1 Bx.2.1 d_Mo_name_144 rfl (lv_at hl 4 rfl) ?_
                    refine f_get Bx hP (by omega) hW74.1 rfl inMo 6 (by decide) kw_662 rfl rfl d_Mo_name_145 ?_
                    refine lv_aload_n Bx.1 Bx.2.1 d_Mo_name_148 rfl (lv_at hl 4 rfl) ?_
                    refine f_get Bx hP (by omega) hW74.1 rfl inMo 4 (by decide) kw_660 rfl rfl d_Mo_name_149 ?_
                    rw [g4]
                    refine lv_iconst (v := -1) Bx.1 Bx.2.1 d_Mo_name_152 (by decide) ?_
                    refine f_iast (x := (-1)) (i := nI (R)) Bx hP hD hS (by omega) (show mem72 227 = .inl (cy 1, 12, .inl (A 227)) from hW74.2.2.1 227 (by decide) (by decide) (by decide)) (vp_in_nI (n := R) (by omega) (by decide)) d_Mo_name_153 (fun H locs hP hS => ?_)
                    rw [nI_clamp (n := R) (by omega)] at hP
                    obtain ⟨A75, eA75⟩ : ∃ z, z = va_up A 227 (upd (A 227) (R) ((-1))) := ⟨_, rfl⟩
                    obtain ⟨mem76, e_mem76⟩ : ∃ z, z = va_up mem72 227 (.inl (cy 1, 12, .inl (upd (A 227) (R) ((-1))))) := ⟨_, rfl⟩
                    have hP : va_P D vcl (fw n ad mem76) H := by rw [e_mem76]; exact hP
                    have hD : va_D (Az sz) (fw n ad mem76) := fw_D hD
                    have hW77 : MW cy ad J9 A75 nn73 m0 mem76 := by rw [e_mem76, eA75]; exact hW74.upA (j := 227) (by decide) (by decide) (by decide) (Or.inl (by decide))
                    refine lv_aload_n Bx.1 Bx.2.1 d_Mo_name_154 rfl (lv_at hl 4 rfl) ?_
                    refine lv_dup Bx.1 Bx.2.1 d_Mo_name_155 rfl ?_
                    refine f_get Bx hP (by omega) hW77.1 rfl inMo 4 (by decide) kw_660 rfl rfl d_Mo_name_156 ?_
                    rw [g4]
                    refine lv_iconst (v := 1) Bx.1 Bx.2.1 d_Mo_name_159 (by decide) ?_
                    refine lv_iadd Bx.1 Bx.2.1 d_Mo_name_160 ?_
                    rw [show nI R + 1 = nI (R + 1) from nI_add (R) (1)]
                    refine f_put Bx hP hD hS (by omega) hW77.1 rfl inMo tyMo okMo nmMo 4 (by decide) kw_660 rfl rfl rfl rfl (Nat.le_of_ble_eq_true rfl) d_Mo_name_161 (fun H locs hP hS => ?_)
                    obtain ⟨J78, eJ78⟩ : ∃ z, z = va_up J9 4 (nI (R + 1)) := ⟨_, rfl⟩
                    obtain ⟨mem79, e_mem79⟩ : ∃ z, z = va_up mem76 224 (moC ad J78) := ⟨_, rfl⟩
                    have hP : va_P D vcl (fw n ad mem79) H := by rw [e_mem79, eJ78]; exact hP
                    have hD : va_D (Az sz) (fw n ad mem79) := fw_D hD
                    have hW80 : MW cy ad J78 A75 nn73 m0 mem79 := by rw [e_mem79]; exact hW77.upJ (by rw [eJ78]; exact va_up_ne _ _ (by decide))
                    have kk81 : J78 1 = nI L := by rw [eJ78]; exact g1
                    have kk82 : J78 16 = nI a1 := by rw [eJ78]; exact g16
                    have kk83 : J78 4 = nI (R + 1) := by rw [eJ78, va_up_self]
                    refine lv_aload_n Bx.1 Bx.2.1 d_Mo_name_164 rfl (lv_at hl 4 rfl) ?_
                    refine f_get Bx hP (by omega) hW80.1 rfl inMo 4 (by decide) kw_660 rfl rfl d_Mo_name_165 ?_
                    rw [kk83]
                    refine lv_iconst (v := 1) Bx.1 Bx.2.1 d_Mo_name_168 (by decide) ?_
                    refine lv_isub Bx.1 Bx.2.1 d_Mo_name_169 ?_
                    rw [show nI (R + 1) - 1 = nI (R) from nI_pred (R)]
                    exact W.iret (v := nI (R)) hx hb hr (fun t ht hW => ⟨⟨nI (R), mem79, rfl, ⟨J78, A75, nn73, hW80, by rw [hn2]; omega, by rw [hn2]; omega, by rw [hn2]; exact kk82, fun i q1 q2 q3 q4 => by rw [eJ78, va_up_ne _ _ q4, eJ9, va_up_ne _ _ q1], Or.inr ⟨by rw [eJ78, eJ9]; rfl, R, R + 1, by unfold nameS; rw [hnv, hfR, hn2]; simp only []; rw [if_neg (by omega), eA75, enn73], rfl, by omega, by omega, kk83, Or.inr ⟨rfl, by rw [eA75]⟩⟩⟩, by show va_P _ _ _ t.heap; rw [ht]; exact hP⟩, hS.F ht⟩) hS.2.2 d_Mo_name_170
                  · have hN84 : R = 12 := (nI_eq (by omega) (by omega)).mp (show nI (R) = nI (12) from hb70)
                    refine lv_aload_n Bx.1 Bx.2.1 d_Mo_name_126 rfl (lv_at hl 4 rfl) ?_
                    refine lv_iconst (v := 2) Bx.1 Bx.2.1 d_Mo_name_127 (by decide) ?_
                    refine lv_iload_n Bx.1 Bx.2.1 d_Mo_name_128 rfl (lv_at hl 3 rfl) ?_
                    refine f_callVv (na := 2) (As := [.int (2), .int (nI a)]) (rest := []) Bx hml E hP hD hS (by omega) hz4.1 rfl (m_Mo_wrong l hn hz4 (by rw [eJ9]; exact h17) (by first | exact Or.inl rfl | exact Or.inr rfl)) kw_799 kw_801 sel_Mo_wrong kw_8 kw_802 (by decide +kernel) ⟨rfl, rfl⟩ ⟨Nat.le_of_ble_eq_true rfl, Nat.le_of_ble_eq_true rfl⟩ rfl hl.1 (Nat.le_of_ble_eq_true rfl) d_Mo_name_129 ⟨Nat.le_of_ble_eq_true rfl, Nat.le_of_ble_eq_true rfl⟩ (fun mem86 H locs hq hP hS => ?_)
                    have hD : va_D (Az sz) (fw n ad mem86) := fw_D hD
                    obtain ⟨J87, hW88, hwr89⟩ := hq
                    have kk90 : J87 1 = nI L := (show J87 1 = J9 1 from hwr89.2 1 (by decide) (by decide)).trans g1
                    have kk91 : J87 16 = nI a1 := (show J87 16 = J9 16 from hwr89.2 16 (by decide) (by decide)).trans g16
                    have kk92 : J87 4 = nI R := (show J87 4 = J9 4 from hwr89.2 4 (by decide) (by decide)).trans g4
                    refine lv_iconst (v := 0) Bx.1 Bx.2.1 d_Mo_name_132 (by decide) ?_
                    exact W.iret (v := 0) hx hb hr (fun t ht hW => ⟨⟨0, mem86, rfl, ⟨J87, A, nm, hW88, by rw [hn2]; omega, by rw [hn2]; omega, by rw [hn2]; exact kk91, fun i q1 q2 q3 q4 => (hwr89.2 i q2 q3).trans (by rw [eJ9, va_up_ne _ _ q1]), Or.inl ⟨by unfold nameS; rw [hnv, hfR]; simp only []; rw [if_pos (by omega)], hwr89.1, rfl⟩⟩, by show va_P _ _ _ t.heap; rw [ht]; exact hP⟩, hS.F ht⟩) hS.2.2 d_Mo_name_133
                · have hN93 : ¬ R ≤ rr := fun q9 => hb68 (show nI (R) ≤ nI (rr) from (nI_leI (by omega) (by omega)).mpr q9)
                  refine lv_aload_n Bx.1 Bx.2.1 d_Mo_name_96 rfl (lv_at hl 4 rfl) ?_
                  refine f_get Bx hP (by omega) hz4.1 rfl inMo 5 (by decide) kw_661 rfl rfl d_Mo_name_97 ?_
                  refine lv_iload Bx.1 Bx.2.1 d_Mo_name_100 (lv_at hl 0 rfl) ?_
                  refine f_lald Bx hP (by omega) hz4.2.1 (vp_in_nI (n := rr) (by omega) (by decide)) d_Mo_name_102 ?_
                  rw [nI_clamp (n := rr) (by omega)]
                  refine lv_lload_n Bx.1 Bx.2.1 d_Mo_name_103 rfl (lv_at hl 2 rfl) ?_
                  refine W.lcmp Bx.1 Bx.2.1 d_Mo_name_104 ?_
                  refine lv_if_ne Bx.1 Bx.2.1 d_Mo_name_105 rfl (fun h7 => ?_) (fun h7 => ?_)
                  · refine lv_iinc (lv' := [(5, .int ((nI rr + (1)))), (4, .int (nI k)), (2, .long (v)), (1, .int (nI a)), (0, .ref (ad 224))]) Bx.1 Bx.2.1 d_Mo_name_111 hl (k := 0) rfl rfl (by decide) rfl (fun ls hl => ?_)
                    rw [show (nI rr + (1) : Int32) = nI (rr + 1) from nI_1 (rr)] at hl
                    refine lv_goto Bx.1 Bx.2.1 d_Mo_name_114 rfl ?_
                    exact ih66 (rr + 1) _ _ _ (by have := hmeas67; omega) (by omega) (fdF_miss hz65 (fun z => h7 ((lg_cmp_eq _ _).mpr z))) hP hD hS (lv_sub hl [0, 1, 2, 3, 4] rfl)
                  · have hhit : fdF nm v R = some rr := by
                      have := fdF_hit hz65 ((lg_cmp_eq _ _).mp h7) (R - (rr + 1))
                      rw [show rr + 1 + (R - (rr + 1)) = R by omega] at this
                      exact this
                    refine lv_iload Bx.1 Bx.2.1 d_Mo_name_108 (lv_at hl 0 rfl) ?_
                    exact W.iret (v := nI rr) hx hb hr (fun t ht hW => ⟨⟨nI rr, mem9, rfl, ⟨J9, A, nm, hz4, by rw [hn2]; omega, by rw [hn2]; omega, by rw [hn2]; exact g16, fun i q1 q2 q3 q4 => by rw [eJ9, va_up_ne _ _ q1], Or.inr ⟨by rw [eJ9]; rfl, rr, R, by unfold nameS; rw [hnv, hhit], rfl, by omega, by omega, g4, Or.inl ⟨rfl, rfl⟩⟩⟩, by show va_P _ _ _ t.heap; rw [ht]; exact hP⟩, hS.F ht⟩) hS.2.2 d_Mo_name_110
            exact loop62 _ (0) _ _ _ (Nat.lt_succ_self _) (by omega) (rfl) hP hD hS (lv_sub hl [0, 1, 2, 3, 4] rfl)
          · have hN94 : ¬ k ≤ 0 := fun q9 => hb60 (show nI (k) ≤ nI (0) from (nI_leI (by omega) (by omega)).mpr q9)
            refine lv_aload_n Bx.1 Bx.2.1 d_Mo_name_32 rfl (lv_at hl 3 rfl) ?_
            refine f_callVi (na := 0) (As := []) (rest := []) Bx hml E hP hD hS (by omega) hz4.1 rfl (m_Mo_here l hn hz4 g1 hL g16 (by omega)) kw_778 kw_780 sel_Mo_here kw_8 kw_781 (by decide +kernel) ⟨rfl, rfl⟩ ⟨Nat.le_of_ble_eq_true rfl, Nat.le_of_ble_eq_true rfl⟩ rfl hl.1 (Nat.le_of_ble_eq_true rfl) d_Mo_name_33 ⟨Nat.le_of_ble_eq_true rfl, Nat.le_of_ble_eq_true rfl⟩ (fun r95 mem96 H locs hq hP hS => ?_)
            have hD : va_D (Az sz) (fw n ad mem96) := fw_D hD
            obtain ⟨hre, hq⟩ := hq
            rw [hq] at hP hD
            subst hre
            refine f_callSi (na := 1) (As := [.int (hereF L (A 225) (a1))]) (rest := []) Bx hml E.2.1 (m_Mo_digit l (hereF L (A 225) (a1))) kw_793 kw_794 kw_8 kw_795 (by decide +kernel) ⟨rfl, rfl⟩ ⟨Nat.le_of_ble_eq_true rfl, Nat.le_of_ble_eq_true rfl⟩ rfl hl.1 (Nat.le_of_ble_eq_true rfl) d_Mo_name_36 ⟨Nat.le_of_ble_eq_true rfl, Nat.le_of_ble_eq_true rfl⟩ (fun r98 hs97 => ?_)
            subst hs97
            refine lv_if_ne Bx.1 Bx.2.1 d_Mo_name_39 rfl (fun hb99 => ?_) (fun hb99 => ?_)
            · have hlt100 : a1 < L := hereF_lt (dg_ne hb99)
              refine lv_lload_n Bx.1 Bx.2.1 d_Mo_name_51 rfl (lv_at hl 1 rfl) ?_
              refine lv_aload_n Bx.1 Bx.2.1 d_Mo_name_52 rfl (lv_at hl 3 rfl) ?_
              refine f_callVi (na := 0) (As := []) (rest := [.long (v)]) Bx hml E hP hD hS (by omega) hz4.1 rfl (m_Mo_here l hn hz4 g1 hL g16 (by omega)) kw_778 kw_780 sel_Mo_here kw_8 kw_781 (by decide +kernel) ⟨rfl, rfl⟩ ⟨Nat.le_of_ble_eq_true rfl, Nat.le_of_ble_eq_true rfl⟩ rfl hl.1 (Nat.le_of_ble_eq_true rfl) d_Mo_name_53 ⟨Nat.le_of_ble_eq_true rfl, Nat.le_of_ble_eq_true rfl⟩ (fun r101 mem102 H locs hq hP hS => ?_)
              have hD : va_D (Az sz) (fw n ad mem102) := fw_D hD
              obtain ⟨hre, hq⟩ := hq
              rw [hq] at hP hD
              subst hre
              refine f_callSi (na := 1) (As := [.int (hereF L (A 225) (a1))]) (rest := [.long (v)]) Bx hml E.2.1 (m_Mo_small l (hereF L (A 225) (a1))) kw_796 kw_797 kw_8 kw_798 (by decide +kernel) ⟨rfl, rfl⟩ ⟨Nat.le_of_ble_eq_true rfl, Nat.le_of_ble_eq_true rfl⟩ rfl hl.1 (Nat.le_of_ble_eq_true rfl) d_Mo_name_56 ⟨Nat.le_of_ble_eq_true rfl, Nat.le_of_ble_eq_true rfl⟩ (fun r104 hs103 => ?_)
              subst hs103
              refine lv_i2l Bx.1 Bx.2.1 d_Mo_name_59 rfl ?_
              refine lv_bipush (v := 8) Bx.1 Bx.2.1 d_Mo_name_60 (by decide) ?_
              refine lv_iload Bx.1 Bx.2.1 d_Mo_name_62 (lv_at hl 0 rfl) ?_
              refine lv_imul Bx.1 Bx.2.1 d_Mo_name_64 ?_
              rw [show 8 * nI k = nI (8 * k) from nI_mulR (8) (k)]
              refine lv_lshl Bx.1 Bx.2.1 d_Mo_name_65 rfl ?_
              refine lv_lor Bx.1 Bx.2.1 d_Mo_name_66 ?_
              refine lv_lstore_n (lv' := [(2, .long (v ||| ((smF (hereF L (A 225) (a1))).toInt64) <<< ((nI (8 * k) : Int32).toInt64 &&& 63))), (4, .int (nI k)), (1, .int (nI a)), (0, .ref (ad 224))]) Bx.1 Bx.2.1 d_Mo_name_67 rfl hl (by decide) rfl (fun ls hl => ?_)
              refine lv_iinc (lv' := [(4, .int ((nI k + (1)))), (2, .long (v ||| ((smF (hereF L (A 225) (a1))).toInt64) <<< ((nI (8 * k) : Int32).toInt64 &&& 63))), (1, .int (nI a)), (0, .ref (ad 224))]) Bx.1 Bx.2.1 d_Mo_name_68 hl (k := 1) rfl rfl (by decide) rfl (fun ls hl => ?_)
              rw [show (nI k + (1) : Int32) = nI (k + 1) from nI_1 (k)] at hl
              refine lv_aload_n Bx.1 Bx.2.1 d_Mo_name_71 rfl (lv_at hl 3 rfl) ?_
              refine lv_dup Bx.1 Bx.2.1 d_Mo_name_72 rfl ?_
              refine f_get Bx hP (by omega) hz4.1 rfl inMo 16 (by decide) kw_672 rfl rfl d_Mo_name_73 ?_
              rw [g16]
              refine lv_iconst (v := 1) Bx.1 Bx.2.1 d_Mo_name_76 (by decide) ?_
              refine lv_iadd Bx.1 Bx.2.1 d_Mo_name_77 ?_
              rw [show nI a1 + 1 = nI (a1 + 1) from nI_add (a1) (1)]
              refine f_put Bx hP hD hS (by omega) hz4.1 rfl inMo tyMo okMo nmMo 16 (by decide) kw_672 rfl rfl rfl rfl (Nat.le_of_ble_eq_true rfl) d_Mo_name_78 (fun H locs hP hS => ?_)
              obtain ⟨J105, eJ105⟩ : ∃ z, z = va_up J9 16 (nI (a1 + 1)) := ⟨_, rfl⟩
              obtain ⟨mem106, e_mem106⟩ : ∃ z, z = va_up mem9 224 (moC ad J105) := ⟨_, rfl⟩
              have hP : va_P D vcl (fw n ad mem106) H := by rw [e_mem106, eJ105]; exact hP
              have hD : va_D (Az sz) (fw n ad mem106) := fw_D hD
              have hW107 : MW cy ad J105 A nm m0 mem106 := by rw [e_mem106]; exact hz4.upJ (by rw [eJ105]; exact va_up_ne _ _ (by decide))
              have kk108 : J105 1 = nI L := by rw [eJ105]; exact g1
              have kk109 : J105 4 = nI R := by rw [eJ105]; exact g4
              have kk110 : J105 16 = nI (a1 + 1) := by rw [eJ105, va_up_self]
              refine lv_goto Bx.1 Bx.2.1 d_Mo_name_81 rfl ?_
              have hJe : J105 = va_up J 16 (nI (a1 + 1)) := by rw [eJ105, eJ9, up_up]
              have hnx : nmF (A 225) L (6 - (k + 1)) (k + 1) (a1 + 1) (v ||| ((smF (hereF L (A 225) (a1))).toInt64) <<< ((nI (8 * k) : Int32).toInt64 &&& 63)) = nmF (A 225) L 6 0 a 0 := by
                rw [← hz6]
                obtain ⟨r6, hr6⟩ : ∃ r6, 6 - k = r6 + 1 := ⟨5 - k, by omega⟩
                rw [hr6, show 6 - (k + 1) = r6 by omega]
                conv => rhs; rw [nmF, if_pos (Or.inr ⟨by omega, Or.inl hb99⟩)]
              exact ih7 mem106 (J105) (a1 + 1) (k + 1) (v ||| ((smF (hereF L (A 225) (a1))).toInt64) <<< ((nI (8 * k) : Int32).toInt64 &&& 63)) _ _ _ (by have := hmeas8; omega) (⟨hJe, kk108, kk110, kk109⟩) (hW107) (⟨by omega, by omega, by omega⟩) (hnx) hP hD hS (lv_sub hl [0, 1, 2, 3] rfl)
            · refine lv_aload_n Bx.1 Bx.2.1 d_Mo_name_42 rfl (lv_at hl 3 rfl) ?_
              refine f_callVi (na := 0) (As := []) (rest := []) Bx hml E hP hD hS (by omega) hz4.1 rfl (m_Mo_here l hn hz4 g1 hL g16 (by omega)) kw_778 kw_780 sel_Mo_here kw_8 kw_781 (by decide +kernel) ⟨rfl, rfl⟩ ⟨Nat.le_of_ble_eq_true rfl, Nat.le_of_ble_eq_true rfl⟩ rfl hl.1 (Nat.le_of_ble_eq_true rfl) d_Mo_name_43 ⟨Nat.le_of_ble_eq_true rfl, Nat.le_of_ble_eq_true rfl⟩ (fun r111 mem112 H locs hq hP hS => ?_)
              have hD : va_D (Az sz) (fw n ad mem112) := fw_D hD
              obtain ⟨hre, hq⟩ := hq
              rw [hq] at hP hD
              subst hre
              refine lv_bipush (v := 45) Bx.1 Bx.2.1 d_Mo_name_46 (by decide) ?_
              refine lv_icmp_ne Bx.1 Bx.2.1 d_Mo_name_48 rfl (fun hb113 => ?_) (fun hb113 => ?_)
              · have hn1 : 1 ≤ k := by first | omega | exact Nat.pos_of_ne_zero (fun q9 => by subst q9; obtain rfl : a1 = a := (by omega); exact absurd hb48 hlet)
                have hnm : nmF (A 225) L 6 0 a 0 = (v, a1) := by
                  rw [← hz6]
                  obtain ⟨r6, hr6⟩ : ∃ r6, 6 - k = r6 + 1 := ⟨5 - k, by omega⟩
                  rw [hr6, nmF, if_neg (fun z => by
                    rcases z with z | ⟨z1, z | z⟩
                    · exact z hb48
                    · first | omega | exact z hb99
                    · first | omega | exact hb113 z)]
                have hn2 : (nmF (A 225) L 6 0 a 0).2 = a1 := by rw [hnm]
                have hnv : (nmF (A 225) L 6 0 a 0).1 = v := by rw [hnm]
                refine lv_iconst (v := 0) Bx.1 Bx.2.1 d_Mo_name_84 (by decide) ?_
                refine lv_istore (lv' := [(5, .int (0)), (4, .int (nI k)), (2, .long (v)), (1, .int (nI a)), (0, .ref (ad 224))]) Bx.1 Bx.2.1 d_Mo_name_85 hl (by decide) rfl (fun ls hl => ?_)
                have loop114 : ∀ (d115 : Nat) (rr : Nat) (ls : Array Slot) (H : Heap) (locs : List Loc), (R - rr < d115) → (rr ≤ R) → (fdF nm v rr = none) → (va_P D vcl (fw n ad mem9) H) → (va_D (Az sz) (fw n ad mem9)) → (va_S (Az sz) s.heap H locs) → (lv_has ls 6 [(5, .int (nI rr)), (4, .int (nI k)), (2, .long (v)), (1, .int (nI a)), (0, .ref (ad 224))]) → W p l e (headSpec (Cond.code y_Mo_name c_Mo_name 6 (some .int) :: tg) ({ frames := 2, cells := 0, slots := 0, locals := 60 } : Room)).room s m [.ref (ad 224)].toArray below meth c H locs 0 0 (MQ below (va_Qi (fun r mem' => ∃ J' A' nm', MW cy ad J' A' nm' m0 mem' ∧ nmX J J' A A' nm nm' L a R r) (PP D n ad) (Az sz)) [.ref (ad 224)].toArray s 0 0 (Az sz)) (F0 m 87 ls []) := by
                  intro d115
                  induction d115 with
                  | zero => intro rr ls H locs hmeas119; exact absurd hmeas119 (Nat.not_lt_zero _)
                  | succ d115 ih118 =>
                    intro rr ls H locs hmeas119 hz116 hz117 hP hD hS hl
                    refine lv_iload Bx.1 Bx.2.1 d_Mo_name_87 (lv_at hl 0 rfl) ?_
                    refine lv_aload_n Bx.1 Bx.2.1 d_Mo_name_89 rfl (lv_at hl 4 rfl) ?_
                    refine f_get Bx hP (by omega) hz4.1 rfl inMo 4 (by decide) kw_660 rfl rfl d_Mo_name_90 ?_
                    rw [g4]
                    refine lv_icmp_ge Bx.1 Bx.2.1 d_Mo_name_93 rfl (fun hb120 => ?_) (fun hb120 => ?_)
                    · have hN121 : R ≤ rr := (nI_leI (by omega) (by omega)).mp (show nI (R) ≤ nI (rr) from hb120)
                      have hfR : fdF nm v R = none := by rw [show R = rr by omega]; exact hz117
                      refine lv_aload_n Bx.1 Bx.2.1 d_Mo_name_117 rfl (lv_at hl 4 rfl) ?_
                      refine f_get Bx hP (by omega) hz4.1 rfl inMo 4 (by decide) kw_660 rfl rfl d_Mo_name_118 ?_
                      rw [g4]
                      refine lv_bipush (v := 12) Bx.1 Bx.2.1 d_Mo_name_121 (by decide) ?_
                      refine lv_icmp_ne Bx.1 Bx.2.1 d_Mo_name_123 rfl (fun hb122 => ?_) (fun hb122 => ?_)
                      · have hN123 : ¬ R = 12 := fun q9 => hb122 (show nI (R) = nI (12) from (nI_eq (by omega) (by omega)).mpr q9)
                        refine lv_aload_n Bx.1 Bx.2.1 d_Mo_name_134 rfl (lv_at hl 4 rfl) ?_
                        refine f_get Bx hP (by omega) hz4.1 rfl inMo 5 (by decide) kw_661 rfl rfl d_Mo_name_135 ?_
                        refine lv_aload_n Bx.1 Bx.2.1 d_Mo_name_138 rfl (lv_at hl 4 rfl) ?_
                        refine f_get Bx hP (by omega) hz4.1 rfl inMo 4 (by decide) kw_660 rfl rfl d_Mo_name_139 ?_
                        rw [g4]
                        refine lv_lload_n Bx.1 Bx.2.1 d_Mo_name_142 rfl (lv_at hl 2 rfl) ?_
                        refine f_last (x := v) (i := nI R) Bx hP hD hS (by omega) hz4.2.1 (vp_in_nI (n := R) (by omega) (by decide)) d_Mo_name_143 (fun H locs hP hS => ?_)
                        rw [nI_clamp (n := R) (by omega)] at hP
                        obtain ⟨nn125, enn125⟩ : ∃ z : Nat → Int64, z = vp_updL nm R (v) := ⟨_, rfl⟩
                        rw [← enn125] at hP
                        obtain ⟨mem124, e_mem124⟩ : ∃ z, z = va_up mem9 226 (.inl (cy 2, 12, .inr (.inl nn125))) := ⟨_, rfl⟩
                        have hP : va_P D vcl (fw n ad mem124) H := by rw [e_mem124]; exact hP
                        have hD : va_D (Az sz) (fw n ad mem124) := fw_D hD
                        have hW126 : MW cy ad J9 A nn125 m0 mem124 := by rw [e_mem124]; exact hz4.upN
                        refine lv_aload_n Bx.1 Bx.2.1 d_Mo_name_144 rfl (lv_at hl 4 rfl) ?_
                        refine f_get Bx hP (by omega) hW126.1 rfl inMo 6 (by decide) kw_662 rfl rfl d_Mo_name_145 ?_
                        refine lv_aload_n Bx.1 Bx.2.1 d_Mo_name_148 rfl (lv_at hl 4 rfl) ?_
                        refine f_get Bx hP (by omega) hW126.1 rfl inMo 4 (by decide) kw_660 rfl rfl d_Mo_name_149 ?_
                        rw [g4]
                        refine lv_iconst (v := -1) Bx.1 Bx.2.1 d_Mo_name_152 (by decide) ?_
                        refine f_iast (x := (-1)) (i := nI (R)) Bx hP hD hS (by omega) (show mem124 227 = .inl (cy 1, 12, .inl (A 227)) from hW126.2.2.1 227 (by decide) (by decide) (by decide)) (vp_in_nI (n := R) (by omega) (by decide)) d_Mo_name_153 (fun H locs hP hS => ?_)
                        rw [nI_clamp (n := R) (by omega)] at hP
                        obtain ⟨A127, eA127⟩ : ∃ z, z = va_up A 227 (upd (A 227) (R) ((-1))) := ⟨_, rfl⟩
                        obtain ⟨mem128, e_mem128⟩ : ∃ z, z = va_up mem124 227 (.inl (cy 1, 12, .inl (upd (A 227) (R) ((-1))))) := ⟨_, rfl⟩
                        have hP : va_P D vcl (fw n ad mem128) H := by rw [e_mem128]; exact hP
                        have hD : va_D (Az sz) (fw n ad mem128) := fw_D hD
                        have hW129 : MW cy ad J9 A127 nn125 m0 mem128 := by rw [e_mem128, eA127]; exact hW126.upA (j := 227) (by decide) (by decide) (by decide) (Or.inl (by decide))
                        refine lv_aload_n Bx.1 Bx.2.1 d_Mo_name_154 rfl (lv_at hl 4 rfl) ?_
                        refine lv_dup Bx.1 Bx.2.1 d_Mo_name_155 rfl ?_
                        refine f_get Bx hP (by omega) hW129.1 rfl inMo 4 (by decide) kw_660 rfl rfl d_Mo_name_156 ?_
                        rw [g4]
                        refine lv_iconst (v := 1) Bx.1 Bx.2.1 d_Mo_name_159 (by decide) ?_
                        refine lv_iadd Bx.1 Bx.2.1 d_Mo_name_160 ?_
                        rw [show nI R + 1 = nI (R + 1) from nI_add (R) (1)]
                        refine f_put Bx hP hD hS (by omega) hW129.1 rfl inMo tyMo okMo nmMo 4 (by decide) kw_660 rfl rfl rfl rfl (Nat.le_of_ble_eq_true rfl) d_Mo_name_161 (fun H locs hP hS => ?_)
                        obtain ⟨J130, eJ130⟩ : ∃ z, z = va_up J9 4 (nI (R + 1)) := ⟨_, rfl⟩
                        obtain ⟨mem131, e_mem131⟩ : ∃ z, z = va_up mem128 224 (moC ad J130) := ⟨_, rfl⟩
                        have hP : va_P D vcl (fw n ad mem131) H := by rw [e_mem131, eJ130]; exact hP
                        have hD : va_D (Az sz) (fw n ad mem131) := fw_D hD
                        have hW132 : MW cy ad J130 A127 nn125 m0 mem131 := by rw [e_mem131]; exact hW129.upJ (by rw [eJ130]; exact va_up_ne _ _ (by decide))
                        have kk133 : J130 1 = nI L := by rw [eJ130]; exact g1
                        have kk134 : J130 16 = nI a1 := by rw [eJ130]; exact g16
                        have kk135 : J130 4 = nI (R + 1) := by rw [eJ130, va_up_self]
                        refine lv_aload_n Bx.1 Bx.2.1 d_Mo_name_164 rfl (lv_at hl 4 rfl) ?_
                        refine f_get Bx hP (by omega) hW132.1 rfl inMo 4 (by decide) kw_660 rfl rfl d_Mo_name_165 ?_
                        rw [kk135]
                        refine lv_iconst (v := 1) Bx.1 Bx.2.1 d_Mo_name_168 (by decide) ?_
                        refine lv_isub Bx.1 Bx.2.1 d_Mo_name_169 ?_
                        rw [show nI (R + 1) - 1 = nI (R) from nI_pred (R)]
                        exact W.iret (v := nI (R)) hx hb hr (fun t ht hW => ⟨⟨nI (R), mem131, rfl, ⟨J130, A127, nn125, hW132, by rw [hn2]; omega, by rw [hn2]; omega, by rw [hn2]; exact kk134, fun i q1 q2 q3 q4 => by rw [eJ130, va_up_ne _ _ q4, eJ9, va_up_ne _ _ q1], Or.inr ⟨by rw [eJ130, eJ9]; rfl, R, R + 1, by unfold nameS; rw [hnv, hfR, hn2]; simp only []; rw [if_neg (by omega), eA127, enn125], rfl, by omega, by omega, kk135, Or.inr ⟨rfl, by rw [eA127]⟩⟩⟩, by show va_P _ _ _ t.heap; rw [ht]; exact hP⟩, hS.F ht⟩) hS.2.2 d_Mo_name_170
                      · have hN136 : R = 12 := (nI_eq (by omega) (by omega)).mp (show nI (R) = nI (12) from hb122)
                        refine lv_aload_n Bx.1 Bx.2.1 d_Mo_name_126 rfl (lv_at hl 4 rfl) ?_
                        refine lv_iconst (v := 2) Bx.1 Bx.2.1 d_Mo_name_127 (by decide) ?_
                        refine lv_iload_n Bx.1 Bx.2.1 d_Mo_name_128 rfl (lv_at hl 3 rfl) ?_
                        refine f_callVv (na := 2) (As := [.int (2), .int (nI a)]) (rest := []) Bx hml E hP hD hS (by omega) hz4.1 rfl (m_Mo_wrong l hn hz4 (by rw [eJ9]; exact h17) (by first | exact Or.inl rfl | exact Or.inr rfl)) kw_799 kw_801 sel_Mo_wrong kw_8 kw_802 (by decide +kernel) ⟨rfl, rfl⟩ ⟨Nat.le_of_ble_eq_true rfl, Nat.le_of_ble_eq_true rfl⟩ rfl hl.1 (Nat.le_of_ble_eq_true rfl) d_Mo_name_129 ⟨Nat.le_of_ble_eq_true rfl, Nat.le_of_ble_eq_true rfl⟩ (fun mem138 H locs hq hP hS => ?_)
                        have hD : va_D (Az sz) (fw n ad mem138) := fw_D hD
                        obtain ⟨J139, hW140, hwr141⟩ := hq
                        have kk142 : J139 1 = nI L := (show J139 1 = J9 1 from hwr141.2 1 (by decide) (by decide)).trans g1
                        have kk143 : J139 16 = nI a1 := (show J139 16 = J9 16 from hwr141.2 16 (by decide) (by decide)).trans g16
                        have kk144 : J139 4 = nI R := (show J139 4 = J9 4 from hwr141.2 4 (by decide) (by decide)).trans g4
                        refine lv_iconst (v := 0) Bx.1 Bx.2.1 d_Mo_name_132 (by decide) ?_
                        exact W.iret (v := 0) hx hb hr (fun t ht hW => ⟨⟨0, mem138, rfl, ⟨J139, A, nm, hW140, by rw [hn2]; omega, by rw [hn2]; omega, by rw [hn2]; exact kk143, fun i q1 q2 q3 q4 => (hwr141.2 i q2 q3).trans (by rw [eJ9, va_up_ne _ _ q1]), Or.inl ⟨by unfold nameS; rw [hnv, hfR]; simp only []; rw [if_pos (by omega)], hwr141.1, rfl⟩⟩, by show va_P _ _ _ t.heap; rw [ht]; exact hP⟩, hS.F ht⟩) hS.2.2 d_Mo_name_133
                    · have hN145 : ¬ R ≤ rr := fun q9 => hb120 (show nI (R) ≤ nI (rr) from (nI_leI (by omega) (by omega)).mpr q9)
                      refine lv_aload_n Bx.1 Bx.2.1 d_Mo_name_96 rfl (lv_at hl 4 rfl) ?_
                      refine f_get Bx hP (by omega) hz4.1 rfl inMo 5 (by decide) kw_661 rfl rfl d_Mo_name_97 ?_
                      refine lv_iload Bx.1 Bx.2.1 d_Mo_name_100 (lv_at hl 0 rfl) ?_
                      refine f_lald Bx hP (by omega) hz4.2.1 (vp_in_nI (n := rr) (by omega) (by decide)) d_Mo_name_102 ?_
                      rw [nI_clamp (n := rr) (by omega)]
                      refine lv_lload_n Bx.1 Bx.2.1 d_Mo_name_103 rfl (lv_at hl 2 rfl) ?_
                      refine W.lcmp Bx.1 Bx.2.1 d_Mo_name_104 ?_
                      refine lv_if_ne Bx.1 Bx.2.1 d_Mo_name_105 rfl (fun h7 => ?_) (fun h7 => ?_)
                      · refine lv_iinc (lv' := [(5, .int ((nI rr + (1)))), (4, .int (nI k)), (2, .long (v)), (1, .int (nI a)), (0, .ref (ad 224))]) Bx.1 Bx.2.1 d_Mo_name_111 hl (k := 0) rfl rfl (by decide) rfl (fun ls hl => ?_)
                        rw [show (nI rr + (1) : Int32) = nI (rr + 1) from nI_1 (rr)] at hl
                        refine lv_goto Bx.1 Bx.2.1 d_Mo_name_114 rfl ?_
                        exact ih118 (rr + 1) _ _ _ (by have := hmeas119; omega) (by omega) (fdF_miss hz117 (fun z => h7 ((lg_cmp_eq _ _).mpr z))) hP hD hS (lv_sub hl [0, 1, 2, 3, 4] rfl)
                      · have hhit : fdF nm v R = some rr := by
                          have := fdF_hit hz117 ((lg_cmp_eq _ _).mp h7) (R - (rr + 1))
                          rw [show rr + 1 + (R - (rr + 1)) = R by omega] at this
                          exact this
                        refine lv_iload Bx.1 Bx.2.1 d_Mo_name_108 (lv_at hl 0 rfl) ?_
                        exact W.iret (v := nI rr) hx hb hr (fun t ht hW => ⟨⟨nI rr, mem9, rfl, ⟨J9, A, nm, hz4, by rw [hn2]; omega, by rw [hn2]; omega, by rw [hn2]; exact g16, fun i q1 q2 q3 q4 => by rw [eJ9, va_up_ne _ _ q1], Or.inr ⟨by rw [eJ9]; rfl, rr, R, by unfold nameS; rw [hnv, hhit], rfl, by omega, by omega, g4, Or.inl ⟨rfl, rfl⟩⟩⟩, by show va_P _ _ _ t.heap; rw [ht]; exact hP⟩, hS.F ht⟩) hS.2.2 d_Mo_name_110
                exact loop114 _ (0) _ _ _ (Nat.lt_succ_self _) (by omega) (rfl) hP hD hS (lv_sub hl [0, 1, 2, 3, 4] rfl)
              · have hlt146 := hereF_lt (by rw [hb113]; decide)
                refine lv_lload_n Bx.1 Bx.2.1 d_Mo_name_51 rfl (lv_at hl 1 rfl) ?_
                refine lv_aload_n Bx.1 Bx.2.1 d_Mo_name_52 rfl (lv_at hl 3 rfl) ?_
                refine f_callVi (na := 0) (As := []) (rest := [.long (v)]) Bx hml E hP hD hS (by omega) hz4.1 rfl (m_Mo_here l hn hz4 g1 hL g16 (by omega)) kw_778 kw_780 sel_Mo_here kw_8 kw_781 (by decide +kernel) ⟨rfl, rfl⟩ ⟨Nat.le_of_ble_eq_true rfl, Nat.le_of_ble_eq_true rfl⟩ rfl hl.1 (Nat.le_of_ble_eq_true rfl) d_Mo_name_53 ⟨Nat.le_of_ble_eq_true rfl, Nat.le_of_ble_eq_true rfl⟩ (fun r147 mem148 H locs hq hP hS => ?_)
                have hD : va_D (Az sz) (fw n ad mem148) := fw_D hD
                obtain ⟨hre, hq⟩ := hq
                rw [hq] at hP hD
                subst hre
                refine f_callSi (na := 1) (As := [.int (hereF L (A 225) (a1))]) (rest := [.long (v)]) Bx hml E.2.1 (m_Mo_small l (hereF L (A 225) (a1))) kw_796 kw_797 kw_8 kw_798 (by decide +kernel) ⟨rfl, rfl⟩ ⟨Nat.le_of_ble_eq_true rfl, Nat.le_of_ble_eq_true rfl⟩ rfl hl.1 (Nat.le_of_ble_eq_true rfl) d_Mo_name_56 ⟨Nat.le_of_ble_eq_true rfl, Nat.le_of_ble_eq_true rfl⟩ (fun r150 hs149 => ?_)
                subst hs149
                refine lv_i2l Bx.1 Bx.2.1 d_Mo_name_59 rfl ?_
                refine lv_bipush (v := 8) Bx.1 Bx.2.1 d_Mo_name_60 (by decide) ?_
                refine lv_iload Bx.1 Bx.2.1 d_Mo_name_62 (lv_at hl 0 rfl) ?_
                refine lv_imul Bx.1 Bx.2.1 d_Mo_name_64 ?_
                rw [show 8 * nI k = nI (8 * k) from nI_mulR (8) (k)]
                refine lv_lshl Bx.1 Bx.2.1 d_Mo_name_65 rfl ?_
                refine lv_lor Bx.1 Bx.2.1 d_Mo_name_66 ?_
                refine lv_lstore_n (lv' := [(2, .long (v ||| ((smF (hereF L (A 225) (a1))).toInt64) <<< ((nI (8 * k) : Int32).toInt64 &&& 63))), (4, .int (nI k)), (1, .int (nI a)), (0, .ref (ad 224))]) Bx.1 Bx.2.1 d_Mo_name_67 rfl hl (by decide) rfl (fun ls hl => ?_)
                refine lv_iinc (lv' := [(4, .int ((nI k + (1)))), (2, .long (v ||| ((smF (hereF L (A 225) (a1))).toInt64) <<< ((nI (8 * k) : Int32).toInt64 &&& 63))), (1, .int (nI a)), (0, .ref (ad 224))]) Bx.1 Bx.2.1 d_Mo_name_68 hl (k := 1) rfl rfl (by decide) rfl (fun ls hl => ?_)
                rw [show (nI k + (1) : Int32) = nI (k + 1) from nI_1 (k)] at hl
                refine lv_aload_n Bx.1 Bx.2.1 d_Mo_name_71 rfl (lv_at hl 3 rfl) ?_
                refine lv_dup Bx.1 Bx.2.1 d_Mo_name_72 rfl ?_
                refine f_get Bx hP (by omega) hz4.1 rfl inMo 16 (by decide) kw_672 rfl rfl d_Mo_name_73 ?_
                rw [g16]
                refine lv_iconst (v := 1) Bx.1 Bx.2.1 d_Mo_name_76 (by decide) ?_
                refine lv_iadd Bx.1 Bx.2.1 d_Mo_name_77 ?_
                rw [show nI a1 + 1 = nI (a1 + 1) from nI_add (a1) (1)]
                refine f_put Bx hP hD hS (by omega) hz4.1 rfl inMo tyMo okMo nmMo 16 (by decide) kw_672 rfl rfl rfl rfl (Nat.le_of_ble_eq_true rfl) d_Mo_name_78 (fun H locs hP hS => ?_)
                obtain ⟨J151, eJ151⟩ : ∃ z, z = va_up J9 16 (nI (a1 + 1)) := ⟨_, rfl⟩
                obtain ⟨mem152, e_mem152⟩ : ∃ z, z = va_up mem9 224 (moC ad J151) := ⟨_, rfl⟩
                have hP : va_P D vcl (fw n ad mem152) H := by rw [e_mem152, eJ151]; exact hP
                have hD : va_D (Az sz) (fw n ad mem152) := fw_D hD
                have hW153 : MW cy ad J151 A nm m0 mem152 := by rw [e_mem152]; exact hz4.upJ (by rw [eJ151]; exact va_up_ne _ _ (by decide))
                have kk154 : J151 1 = nI L := by rw [eJ151]; exact g1
                have kk155 : J151 4 = nI R := by rw [eJ151]; exact g4
                have kk156 : J151 16 = nI (a1 + 1) := by rw [eJ151, va_up_self]
                refine lv_goto Bx.1 Bx.2.1 d_Mo_name_81 rfl ?_
                have hJe : J151 = va_up J 16 (nI (a1 + 1)) := by rw [eJ151, eJ9, up_up]
                have hnx : nmF (A 225) L (6 - (k + 1)) (k + 1) (a1 + 1) (v ||| ((smF (hereF L (A 225) (a1))).toInt64) <<< ((nI (8 * k) : Int32).toInt64 &&& 63)) = nmF (A 225) L 6 0 a 0 := by
                  rw [← hz6]
                  obtain ⟨r6, hr6⟩ : ∃ r6, 6 - k = r6 + 1 := ⟨5 - k, by omega⟩
                  rw [hr6, show 6 - (k + 1) = r6 by omega]
                  conv => rhs; rw [nmF, if_pos (Or.inr ⟨by omega, Or.inr hb113⟩)]
                exact ih7 mem152 (J151) (a1 + 1) (k + 1) (v ||| ((smF (hereF L (A 225) (a1))).toInt64) <<< ((nI (8 * k) : Int32).toInt64 &&& 63)) _ _ _ (by have := hmeas8; omega) (⟨hJe, kk154, kk156, kk155⟩) (hW153) (⟨by omega, by omega, by omega⟩) (hnx) hP hD hS (lv_sub hl [0, 1, 2, 3] rfl)
  exact loop1 _ mem (J) (a) (0) (0) _ _ _ (Nat.lt_succ_self _) (⟨by rw [up_id J ha], h1, ha, hR⟩) (hM) (⟨by omega, by omega, by omega⟩) (rfl) hP hD hS (lv_sub hl [0, 1, 2, 3] rfl)
