theorem sing_n1 {T : Nat → Int32} {L a u R E f : Nat} {A : Ro} {nm : Nat → Int64} (hl : ¬ ltF (hereF L T a) = 0) (hn : nameS T L a R A nm = none) : singS T L a u R E f A nm = none := by
  unfold singS
  simp only []
  rw [if_pos hl, hn]
theorem sing_n2 {T : Nat → Int32} {L a u R E f : Nat} {A : Ro} {nm : Nat → Int64} (hl : ¬ ltF (hereF L T a) = 0) {r a1 R1 : Nat} {A1 : Ro} {nm1 : Nat → Int64} (hn : nameS T L a R A nm = some (r, a1, R1, A1, nm1)) (hE : E = 100) : singS T L a u R E f A nm = none := by
  unfold singS
  simp only []
  rw [if_pos hl, hn]
  simp only []
  rw [if_pos hE]
theorem sing_n3 {T : Nat → Int32} {L a u R E f : Nat} {A : Ro} {nm : Nat → Int64} (hl : ¬ ltF (hereF L T a) = 0) {r a1 R1 : Nat} {A1 : Ro} {nm1 : Nat → Int64} (hn : nameS T L a R A nm = some (r, a1, R1, A1, nm1)) (hE : E < 100) : singS T L a u R E f A nm = some (a1, u, R1, E + 1, f, plcS (va_up (elA A1 E 6) 229 (upd (elA A1 E 6 229) E (nI r))) f E, nm1, false) := by
  unfold singS
  simp only []
  rw [if_pos hl, hn]
  simp only []
  rw [if_neg (by omega)]
theorem sing_b0 {T : Nat → Int32} {L a u R E f : Nat} {A : Ro} {nm : Nat → Int64} (hl : ltF (hereF L T a) = 0) (h : hereF L T a = 40) (hf : 6 < f + 1) : singS T L a u R E f A nm = none := by
  unfold singS
  simp only []
  rw [if_neg (fun z => z hl), if_pos h, if_pos hf]
theorem sing_br {T : Nat → Int32} {L a u R E f : Nat} {A : Ro} {nm : Nat → Int64} (hl : ltF (hereF L T a) = 0) (h : hereF L T a = 40) (hf : ¬ 6 < f + 1) : singS T L a u R E f A nm = entS T L (a + 1) u R E (f + 1) A nm 1 (-1) := by
  unfold singS
  simp only []
  rw [if_neg (fun z => z hl), if_pos h, if_neg hf]
theorem sing_o0 {T : Nat → Int32} {L a u R E f : Nat} {A : Ro} {nm : Nat → Int64} (hl : ltF (hereF L T a) = 0) (h : hereF L T a = 91) (hf : 6 < f + 1 ∨ E = 100) : singS T L a u R E f A nm = none := by
  unfold singS
  simp only []
  rw [if_neg (fun z => z hl), if_neg (by rw [h]; decide), if_pos h, if_pos hf]
theorem sing_op {T : Nat → Int32} {L a u R E f : Nat} {A : Ro} {nm : Nat → Int64} (hl : ltF (hereF L T a) = 0) (h : hereF L T a = 91) (hf : ¬ 6 < f + 1) (hE : E < 100) : singS T L a u R E f A nm = entS T L (a + 1) u R (E + 1) (f + 1) (elA A E 3) nm 2 (nI E) := by
  unfold singS
  simp only []
  rw [if_neg (fun z => z hl), if_neg (by rw [h]; decide), if_pos h, if_neg (by omega)]
theorem sing_E {T : Nat → Int32} {L a u R E f : Nat} {A : Ro} {nm : Nat → Int64} (hl : ltF (hereF L T a) = 0) (h1 : ¬ hereF L T a = 40) (h2 : ¬ hereF L T a = 91) (hE : E = 100) : singS T L a u R E f A nm = none := by
  unfold singS
  simp only []
  rw [if_neg (fun z => z hl), if_neg h1, if_neg h2, if_pos hE]
theorem sing_st {T : Nat → Int32} {L a u R E f : Nat} {A : Ro} {nm : Nat → Int64} (hl : ltF (hereF L T a) = 0) (h1 : ¬ hereF L T a = 40) (h2 : ¬ hereF L T a = 91) (h3 : hereF L T a = 34) (hE : E < 100) : singS T L a u R E f A nm = plS R (E + 1) f E nm (strS T L a u E (elA A E 4)) := by
  unfold singS
  simp only []
  rw [if_neg (fun z => z hl), if_neg h1, if_neg h2, if_neg (by omega), if_pos h3]
theorem sing_bx {T : Nat → Int32} {L a u R E f : Nat} {A : Ro} {nm : Nat → Int64} (hl : ltF (hereF L T a) = 0) (h1 : ¬ hereF L T a = 40) (h2 : ¬ hereF L T a = 91) (h3 : ¬ hereF L T a = 34) (hE : E < 100) (hb1 : ¬ smF (hereF L T (a + 1)) = 100) (hb2 : ¬ smF (hereF L T (a + 1)) = 120) (hb3 : ¬ smF (hereF L T (a + 1)) = 115) : singS T L a u R E f A nm = none := by
  unfold singS
  simp only []
  rw [if_neg (fun z => z hl), if_neg h1, if_neg h2, if_neg (by omega), if_neg h3, if_neg hb3, if_neg (fun z => z.elim hb1 hb2)]
theorem sing_q0 {T : Nat → Int32} {L a u R E f : Nat} {A : Ro} {nm : Nat → Int64} (hl : ltF (hereF L T a) = 0) (h1 : ¬ hereF L T a = 40) (h2 : ¬ hereF L T a = 91) (h3 : ¬ hereF L T a = 34) (hE : E < 100) (hb : smF (hereF L T (a + 1)) = 115) (hq : ¬ hereF L T (a + 1 + 1) = 34) : singS T L a u R E f A nm = none := by
  unfold singS
  simp only []
  rw [if_neg (fun z => z hl), if_neg h1, if_neg h2, if_neg (by omega), if_neg h3, if_pos hb, if_pos hq]
theorem sing_qs {T : Nat → Int32} {L a u R E f : Nat} {A : Ro} {nm : Nat → Int64} (hl : ltF (hereF L T a) = 0) (h1 : ¬ hereF L T a = 40) (h2 : ¬ hereF L T a = 91) (h3 : ¬ hereF L T a = 34) (hE : E < 100) (hb : smF (hereF L T (a + 1)) = 115) (hq : hereF L T (a + 1 + 1) = 34) : singS T L a u R E f A nm = plS R (E + 1) f E nm (strS T L (a + 1 + 1) u E (va_up (elA A E 4) 231 (upd (elA A E 4 231) E (vp_nar .boolean 1)))) := by
  unfold singS
  simp only []
  rw [if_neg (fun z => z hl), if_neg h1, if_neg h2, if_neg (by omega), if_neg h3, if_pos hb, if_neg (fun z => z hq)]
theorem sing_d {T : Nat → Int32} {L a u R E f : Nat} {A : Ro} {nm : Nat → Int64} (hl : ltF (hereF L T a) = 0) (h1 : ¬ hereF L T a = 40) (h2 : ¬ hereF L T a = 91) (h3 : ¬ hereF L T a = 34) (hE : E < 100) (hb : smF (hereF L T (a + 1)) = 100) : singS T L a u R E f A nm = plS R (E + 1) f E nm (numsS T L (a + 1 + 1) u E 10 (va_up (elA A E 4) 231 (upd (elA A E 4 231) E (vp_nar .boolean 1)))) := by
  unfold singS
  simp only []
  rw [if_neg (fun z => z hl), if_neg h1, if_neg h2, if_neg (by omega), if_neg h3, if_neg (by rw [hb]; decide), if_pos (Or.inl hb), if_pos hb]
theorem sing_x {T : Nat → Int32} {L a u R E f : Nat} {A : Ro} {nm : Nat → Int64} (hl : ltF (hereF L T a) = 0) (h1 : ¬ hereF L T a = 40) (h2 : ¬ hereF L T a = 91) (h3 : ¬ hereF L T a = 34) (hE : E < 100) (hb : smF (hereF L T (a + 1)) = 120) : singS T L a u R E f A nm = plS R (E + 1) f E nm (numsS T L (a + 1 + 1) u E 16 (va_up (elA A E 4) 231 (upd (elA A E 4 231) E (vp_nar .boolean 1)))) := by
  unfold singS
  simp only []
  rw [if_neg (fun z => z hl), if_neg h1, if_neg h2, if_neg (by omega), if_neg h3, if_neg (by rw [hb]; decide), if_pos (Or.inr hb), if_neg (by rw [hb]; decide)]
set_option maxHeartbeats 4000000 in
set_option maxRecDepth 100000 in
theorem m_Mo_singleX (l : Launch) {D : va_G} {cy : Nat → ClassId} {sz n : Nat} {ad : Nat → Nat} {mem : Nat → va_E} {J : Nat → Int32} {A : Nat → Nat → Int32} {nm : Nat → Int64} {m0 : Nat → va_E} {L G a u R f : Nat} {T : Nat → Int32} {fc fs ft : Nat → Nat} {Ec : Nat} (hn : 242 ≤ n) (hM : MW cy ad J A nm m0 mem) (hNm : Num L G a u R Ec f J) (hBd : L ≤ 240 ∧ a ≤ L ∧ u ≤ a ∧ R ≤ 12 ∧ f ≤ 6) (hEb : Ec ≤ 100) (hT : A 225 = T) (hp : J 28 = 0) (hI : Inv R Ec u f True fc fs ft A (fun _ => False)) : MV l D cy sz n ad y_Mo_single c_Mo_single 5 ({ frames := 5, cells := 0, slots := 0, locals := 150 } : Room) mem [.ref (ad 224)] (fun mem' => ∃ J' A' nm', MW cy ad J' A' nm' m0 mem' ∧ Res9 L G T a J' A' nm' (singS T L a u R Ec f A nm)) := by
  refine Met.ofW (cc := c_Mo_single) (maxL := 5) (ret := none) (by decide) rfl ?_
  intro p e s m args below meth c s₁ B hml hv
  obtain ⟨rfl, E, hP, hD⟩ := hv
  have hx := B.exec
  have hb := B.bytes
  have hr := B.returns
  have hlocks := B.notSynchronized
  have Bx : MB p s m [.ref (ad 224)].toArray c c_Mo_single "AbnfChartModel" D cy := ⟨hx, hb, tb_all (atoms_spec B.pre) E.2.1, findClass_of_methodNamed B.named, E.1⟩
  have hS : va_S (Az sz) s.heap s.heap [] := va_S.rf
  have hl := lv_entry ([.ref (ad 224)]) (n := 5) (Nat.le_of_ble_eq_true rfl)
  rw [lg_entry_eq]
  generalize (lg_sl ([.ref (ad 224)]) ++ List.replicate (5 - (lg_sl ([.ref (ad 224)])).length) Slot.unset).toArray = ls at hl ⊢
  have hl : lv_has ls 5 [(0, .ref (ad 224))] := hl
  obtain ⟨hL, haL, huA, hRb, hfb⟩ := hBd
  obtain ⟨g1, g2, g3, g4, g5, g6, g7, g8⟩ := hNm
  have hfg := hI.2.2.2.2 f (Nat.le_refl _)
  have hrr0 := hfg.rep
  have hfs := hfg.2.2.2.1 (Or.inr trivial)
  refine lv_aload_n Bx.1 Bx.2.1 d_Mo_single_0 rfl (lv_at hl 0 rfl) ?_
  refine f_get Bx hP (by omega) hM.1 rfl inMo 16 (by decide) kw_672 rfl rfl d_Mo_single_1 ?_
  rw [g3]
  refine lv_istore_n (lv' := [(1, .int (nI a)), (0, .ref (ad 224))]) Bx.1 Bx.2.1 d_Mo_single_4 rfl hl (by decide) rfl (fun ls hl => ?_)
  refine lv_aload_n Bx.1 Bx.2.1 d_Mo_single_5 rfl (lv_at hl 1 rfl) ?_
  refine f_callVi (na := 0) (As := []) (rest := []) Bx hml E hP hD hS (by omega) hM.1 rfl (m_Mo_here l hn hM g1 hL g3 (by omega)) kw_778 kw_780 sel_Mo_here kw_8 kw_781 (by decide +kernel) ⟨rfl, rfl⟩ ⟨Nat.le_of_ble_eq_true rfl, Nat.le_of_ble_eq_true rfl⟩ rfl hl.1 (Nat.le_of_ble_eq_true rfl) d_Mo_single_6 ⟨Nat.le_of_ble_eq_true rfl, Nat.le_of_ble_eq_true rfl⟩ (fun r9 mem10 H locs hq hP hS => ?_)
  have hD : va_D (Az sz) (fw n ad mem10) := fw_D hD
  obtain ⟨hre, hq⟩ := hq
  rw [hq] at hP hD
  subst hre
  rw [show hereF L (A 225) (a) = hereF L T (a) by rw [hT]]
  refine lv_istore_n (lv' := [(2, .int (hereF L T (a))), (1, .int (nI a)), (0, .ref (ad 224))]) Bx.1 Bx.2.1 d_Mo_single_9 rfl hl (by decide) rfl (fun ls hl => ?_)
  refine lv_iload_n Bx.1 Bx.2.1 d_Mo_single_10 rfl (lv_at hl 0 rfl) ?_
  refine f_callSi (na := 1) (As := [.int (hereF L T (a))]) (rest := []) Bx hml E.2.1 (m_Mo_letter l (hereF L T (a))) kw_782 kw_783 kw_8 kw_784 (by decide +kernel) ⟨rfl, rfl⟩ ⟨Nat.le_of_ble_eq_true rfl, Nat.le_of_ble_eq_true rfl⟩ rfl hl.1 (Nat.le_of_ble_eq_true rfl) d_Mo_single_11 ⟨Nat.le_of_ble_eq_true rfl, Nat.le_of_ble_eq_true rfl⟩ (fun r12 hs11 => ?_)
  subst hs11
  refine lv_if_eq Bx.1 Bx.2.1 d_Mo_single_14 rfl (fun hb13 => ?_) (fun hb13 => ?_)
  · refine lv_iload_n Bx.1 Bx.2.1 d_Mo_single_56 rfl (lv_at hl 0 rfl) ?_
    refine lv_bipush (v := 40) Bx.1 Bx.2.1 d_Mo_single_57 (by decide) ?_
    refine lv_icmp_eq Bx.1 Bx.2.1 d_Mo_single_59 rfl (fun hb14 => ?_) (fun hb14 => ?_)
    · have hlt15 := hereF_lt (by rw [hb14]; decide)
      rw [hb14] at hl
      refine lv_aload_n Bx.1 Bx.2.1 d_Mo_single_68 rfl (lv_at hl 2 rfl) ?_
      refine f_get Bx hP (by omega) hM.1 rfl inMo 18 (by decide) kw_674 rfl rfl d_Mo_single_69 ?_
      rw [g8]
      refine lv_bipush (v := 6) Bx.1 Bx.2.1 d_Mo_single_72 (by decide) ?_
      refine lv_icmp_le Bx.1 Bx.2.1 d_Mo_single_74 rfl (fun hb16 => ?_) (fun hb16 => ?_)
      · have hN17 : f + 1 ≤ 6 := (nI_leI (by omega) (by omega)).mp (show nI (f + 1) ≤ nI (6) from hb16)
        refine lv_iload_n Bx.1 Bx.2.1 d_Mo_single_84 rfl (lv_at hl 0 rfl) ?_
        refine lv_bipush (v := 91) Bx.1 Bx.2.1 d_Mo_single_85 (by decide) ?_
        refine lv_icmp_ne Bx.1 Bx.2.1 d_Mo_single_87 rfl (fun hb18 => ?_) (fun hb18 => ?_)
        · refine lv_iconst (v := -1) Bx.1 Bx.2.1 d_Mo_single_99 (by decide) ?_
          refine lv_istore_n (lv' := [(3, .int ((-1))), (2, .int (40)), (1, .int (nI a)), (0, .ref (ad 224))]) Bx.1 Bx.2.1 d_Mo_single_100 rfl hl (by decide) rfl (fun ls hl => ?_)
          refine lv_aload_n Bx.1 Bx.2.1 d_Mo_single_101 rfl (lv_at hl 3 rfl) ?_
          refine f_get Bx hP (by omega) hM.1 rfl inMo 17 (by decide) kw_673 rfl rfl d_Mo_single_102 ?_
          rw [g4]
          refine lv_if_le Bx.1 Bx.2.1 d_Mo_single_105 rfl (fun hb19 => ?_) (fun hb19 => ?_)
          · refine lv_aload_n Bx.1 Bx.2.1 d_Mo_single_109 rfl (lv_at hl 3 rfl) ?_
            refine lv_dup Bx.1 Bx.2.1 d_Mo_single_110 rfl ?_
            refine f_get Bx hP (by omega) hM.1 rfl inMo 16 (by decide) kw_672 rfl rfl d_Mo_single_111 ?_
            rw [g3]
            refine lv_iconst (v := 1) Bx.1 Bx.2.1 d_Mo_single_114 (by decide) ?_
            refine lv_iadd Bx.1 Bx.2.1 d_Mo_single_115 ?_
            rw [show nI a + 1 = nI (a + 1) from nI_add (a) (1)]
            refine f_put Bx hP hD hS (by omega) hM.1 rfl inMo tyMo okMo nmMo 16 (by decide) kw_672 rfl rfl rfl rfl (Nat.le_of_ble_eq_true rfl) d_Mo_single_116 (fun H locs hP hS => ?_)
            obtain ⟨J20, eJ20⟩ : ∃ z, z = va_up J 16 (nI (a + 1)) := ⟨_, rfl⟩
            obtain ⟨mem21, e_mem21⟩ : ∃ z, z = va_up mem 224 (moC ad J20) := ⟨_, rfl⟩
            have hP : va_P D vcl (fw n ad mem21) H := by rw [e_mem21, eJ20]; exact hP
            have hD : va_D (Az sz) (fw n ad mem21) := fw_D hD
            have hW22 : MW cy ad J20 A nm m0 mem21 := by rw [e_mem21]; exact hM.upJ (by rw [eJ20]; exact va_up_ne _ _ (by decide))
            have kk23 : J20 1 = nI L := by rw [eJ20]; exact g1
            have kk24 : J20 24 = nI G := by rw [eJ20]; exact g2
            have kk25 : J20 17 = 0 := by rw [eJ20]; exact g4
            have kk26 : J20 14 = nI u := by rw [eJ20]; exact g5
            have kk27 : J20 4 = nI R := by rw [eJ20]; exact g6
            have kk28 : J20 7 = nI Ec := by rw [eJ20]; exact g7
            have kk29 : J20 18 = nI (f + 1) := by rw [eJ20]; exact g8
            have kk30 : J20 28 = 0 := by rw [eJ20]; exact hp
            have kk31 : J20 16 = nI (a + 1) := by rw [eJ20, va_up_self]
            refine lv_aload_n Bx.1 Bx.2.1 d_Mo_single_119 rfl (lv_at hl 3 rfl) ?_
            refine lv_iload_n Bx.1 Bx.2.1 d_Mo_single_120 rfl (lv_at hl 1 rfl) ?_
            refine lv_bipush (v := 40) Bx.1 Bx.2.1 d_Mo_single_121 (by decide) ?_
            refine lv_icmp_ne Bx.1 Bx.2.1 d_Mo_single_123 rfl (fun hb32 => ?_) (fun hb32 => ?_)
            · exact absurd hb32 (by decide)
            · refine lv_iconst (v := 1) Bx.1 Bx.2.1 d_Mo_single_126 (by decide) ?_
              refine lv_goto Bx.1 Bx.2.1 d_Mo_single_127 rfl ?_
              refine lv_iload_n Bx.1 Bx.2.1 d_Mo_single_131 rfl (lv_at hl 0 rfl) ?_
              refine f_callVv (na := 2) (As := [.int (1), .int ((-1))]) (rest := []) Bx hml E hP hD hS (by omega) hW22.1 rfl (m_Mo_enterBX l hn hW22 ⟨kk23, kk24, kk31, kk25, kk26, kk27, kk28, kk29⟩ ⟨hL, by omega, by omega, by omega, by omega⟩ (by omega) (by omega) hT kk30 hI (Or.inl ⟨rfl, rfl, fun _ z => z⟩) (by omega) hrr0 hI.1.CL) kw_807 kw_809 sel_Mo_enter kw_8 kw_810 (by decide +kernel) ⟨rfl, rfl⟩ ⟨Nat.le_of_ble_eq_true rfl, Nat.le_of_ble_eq_true rfl⟩ rfl hl.1 (Nat.le_of_ble_eq_true rfl) d_Mo_single_132 ⟨Nat.le_of_ble_eq_true rfl, Nat.le_of_ble_eq_true rfl⟩ (fun mem34 H locs hq hP hS => ?_)
              have hD : va_D (Az sz) (fw n ad mem34) := fw_D hD
              obtain ⟨J35, A36, nn37, hW38, hres39⟩ := hq
              refine lv_goto Bx.1 Bx.2.1 d_Mo_single_135 rfl ?_
              exact W.vret hx hb hr (fun t ht hW => ⟨⟨mem34, rfl, ⟨J35, A36, nn37, hW38, hres39.res (by omega) (sing_br hb13 hb14 (by omega))⟩, by show va_P _ _ _ t.heap; rw [ht]; exact hP⟩, hS.F ht⟩) hS.2.2 d_Mo_single_317
          · exact absurd hb19 (by decide)
        · exact absurd hb18 (by decide)
      · have hN40 : ¬ f + 1 ≤ 6 := fun q9 => hb16 (show nI (f + 1) ≤ nI (6) from (nI_leI (by omega) (by omega)).mpr q9)
        refine lv_aload_n Bx.1 Bx.2.1 d_Mo_single_77 rfl (lv_at hl 2 rfl) ?_
        refine lv_iconst (v := 2) Bx.1 Bx.2.1 d_Mo_single_78 (by decide) ?_
        refine lv_iload_n Bx.1 Bx.2.1 d_Mo_single_79 rfl (lv_at hl 1 rfl) ?_
        refine f_callVv (na := 2) (As := [.int (2), .int (nI a)]) (rest := []) Bx hml E hP hD hS (by omega) hM.1 rfl (m_Mo_wrong l hn hM (Or.inl g4) (by first | exact Or.inl rfl | exact Or.inr rfl)) kw_799 kw_801 sel_Mo_wrong kw_8 kw_802 (by decide +kernel) ⟨rfl, rfl⟩ ⟨Nat.le_of_ble_eq_true rfl, Nat.le_of_ble_eq_true rfl⟩ rfl hl.1 (Nat.le_of_ble_eq_true rfl) d_Mo_single_80 ⟨Nat.le_of_ble_eq_true rfl, Nat.le_of_ble_eq_true rfl⟩ (fun mem42 H locs hq hP hS => ?_)
        have hD : va_D (Az sz) (fw n ad mem42) := fw_D hD
        obtain ⟨J43, hW44, hwr45⟩ := hq
        have kk46 : J43 1 = nI L := (show J43 1 = J 1 from hwr45.2 1 (by decide) (by decide)).trans g1
        have kk47 : J43 24 = nI G := (show J43 24 = J 24 from hwr45.2 24 (by decide) (by decide)).trans g2
        have kk48 : J43 16 = nI a := (show J43 16 = J 16 from hwr45.2 16 (by decide) (by decide)).trans g3
        have kk49 : J43 14 = nI u := (show J43 14 = J 14 from hwr45.2 14 (by decide) (by decide)).trans g5
        have kk50 : J43 4 = nI R := (show J43 4 = J 4 from hwr45.2 4 (by decide) (by decide)).trans g6
        have kk51 : J43 7 = nI Ec := (show J43 7 = J 7 from hwr45.2 7 (by decide) (by decide)).trans g7
        have kk52 : J43 18 = nI (f + 1) := (show J43 18 = J 18 from hwr45.2 18 (by decide) (by decide)).trans g8
        have kk53 : J43 28 = 0 := (show J43 28 = J 28 from hwr45.2 28 (by decide) (by decide)).trans hp
        exact W.vret hx hb hr (fun t ht hW => ⟨⟨mem42, rfl, ⟨J43, A, nm, hW44, Or.inl ⟨⟨kk46, kk47, hT, hwr45.1, _, by omega, kk48⟩, sing_b0 hb13 hb14 (by omega)⟩⟩, by show va_P _ _ _ t.heap; rw [ht]; exact hP⟩, hS.F ht⟩) hS.2.2 d_Mo_single_83
    · refine lv_iload_n Bx.1 Bx.2.1 d_Mo_single_62 rfl (lv_at hl 0 rfl) ?_
      refine lv_bipush (v := 91) Bx.1 Bx.2.1 d_Mo_single_63 (by decide) ?_
      refine lv_icmp_ne Bx.1 Bx.2.1 d_Mo_single_65 rfl (fun hb54 => ?_) (fun hb54 => ?_)
      · refine lv_iload_n Bx.1 Bx.2.1 d_Mo_single_138 rfl (lv_at hl 0 rfl) ?_
        refine lv_bipush (v := 34) Bx.1 Bx.2.1 d_Mo_single_139 (by decide) ?_
        refine lv_icmp_ne Bx.1 Bx.2.1 d_Mo_single_141 rfl (fun hb55 => ?_) (fun hb55 => ?_)
        · refine lv_aload_n Bx.1 Bx.2.1 d_Mo_single_166 rfl (lv_at hl 2 rfl) ?_
          refine lv_iconst (v := 4) Bx.1 Bx.2.1 d_Mo_single_167 (by decide) ?_
          refine lv_iload_n Bx.1 Bx.2.1 d_Mo_single_168 rfl (lv_at hl 1 rfl) ?_
          refine f_callVi (na := 2) (As := [.int (4), .int (nI a)]) (rest := []) Bx hml E hP hD hS (by omega) hM.1 rfl (m_Mo_elementX l hn hM (Or.inl g4) g7 (by omega)) kw_814 kw_816 sel_Mo_element kw_8 kw_817 (by decide +kernel) ⟨rfl, rfl⟩ ⟨Nat.le_of_ble_eq_true rfl, Nat.le_of_ble_eq_true rfl⟩ rfl hl.1 (Nat.le_of_ble_eq_true rfl) d_Mo_single_169 ⟨Nat.le_of_ble_eq_true rfl, Nat.le_of_ble_eq_true rfl⟩ (fun r56 mem57 H locs hq hP hS => ?_)
          have hD : va_D (Az sz) (fw n ad mem57) := fw_D hD
          rcases hq with ⟨hE65, hre66, J58, hW59, hwr60⟩ | ⟨hEl61, hre67, hW64⟩
          · subst hre66
            have kk68 : J58 1 = nI L := (show J58 1 = J 1 from hwr60.2 1 (by decide) (by decide)).trans g1
            have kk69 : J58 24 = nI G := (show J58 24 = J 24 from hwr60.2 24 (by decide) (by decide)).trans g2
            have kk70 : J58 16 = nI a := (show J58 16 = J 16 from hwr60.2 16 (by decide) (by decide)).trans g3
            have kk71 : J58 14 = nI u := (show J58 14 = J 14 from hwr60.2 14 (by decide) (by decide)).trans g5
            have kk72 : J58 4 = nI R := (show J58 4 = J 4 from hwr60.2 4 (by decide) (by decide)).trans g6
            have kk73 : J58 7 = nI Ec := (show J58 7 = J 7 from hwr60.2 7 (by decide) (by decide)).trans g7
            have kk74 : J58 18 = nI (f + 1) := (show J58 18 = J 18 from hwr60.2 18 (by decide) (by decide)).trans g8
            have kk75 : J58 28 = 0 := (show J58 28 = J 28 from hwr60.2 28 (by decide) (by decide)).trans hp
            refine lv_istore_n (lv' := [(3, .int (0)), (2, .int (hereF L T (a))), (1, .int (nI a)), (0, .ref (ad 224))]) Bx.1 Bx.2.1 d_Mo_single_172 rfl hl (by decide) rfl (fun ls hl => ?_)
            refine lv_aload_n Bx.1 Bx.2.1 d_Mo_single_173 rfl (lv_at hl 3 rfl) ?_
            refine lv_dup Bx.1 Bx.2.1 d_Mo_single_174 rfl ?_
            refine f_get Bx hP (by omega) hW59.1 rfl inMo 16 (by decide) kw_672 rfl rfl d_Mo_single_175 ?_
            rw [kk70]
            refine lv_iconst (v := 1) Bx.1 Bx.2.1 d_Mo_single_178 (by decide) ?_
            refine lv_iadd Bx.1 Bx.2.1 d_Mo_single_179 ?_
            rw [show nI a + 1 = nI (a + 1) from nI_add (a) (1)]
            refine f_put Bx hP hD hS (by omega) hW59.1 rfl inMo tyMo okMo nmMo 16 (by decide) kw_672 rfl rfl rfl rfl (Nat.le_of_ble_eq_true rfl) d_Mo_single_180 (fun H locs hP hS => ?_)
            obtain ⟨J76, eJ76⟩ : ∃ z, z = va_up J58 16 (nI (a + 1)) := ⟨_, rfl⟩
            obtain ⟨mem77, e_mem77⟩ : ∃ z, z = va_up mem57 224 (moC ad J76) := ⟨_, rfl⟩
            have hP : va_P D vcl (fw n ad mem77) H := by rw [e_mem77, eJ76]; exact hP
            have hD : va_D (Az sz) (fw n ad mem77) := fw_D hD
            have hW78 : MW cy ad J76 A nm m0 mem77 := by rw [e_mem77]; exact hW59.upJ (by rw [eJ76]; exact va_up_ne _ _ (by decide))
            have kk79 : J76 1 = nI L := by rw [eJ76]; exact kk68
            have kk80 : J76 24 = nI G := by rw [eJ76]; exact kk69
            have kk81 : J76 14 = nI u := by rw [eJ76]; exact kk71
            have kk82 : J76 4 = nI R := by rw [eJ76]; exact kk72
            have kk83 : J76 7 = nI Ec := by rw [eJ76]; exact kk73
            have kk84 : J76 18 = nI (f + 1) := by rw [eJ76]; exact kk74
            have kk85 : J76 28 = 0 := by rw [eJ76]; exact kk75
            have kk86 : J76 16 = nI (a + 1) := by rw [eJ76, va_up_self]
            have bd87 : b12 (J76 17) := by rw [eJ76]; exact hwr60.1
            refine lv_aload_n Bx.1 Bx.2.1 d_Mo_single_183 rfl (lv_at hl 3 rfl) ?_
            refine f_callVi (na := 0) (As := []) (rest := []) Bx hml E hP hD hS (by omega) hW78.1 rfl (m_Mo_here l hn hW78 kk79 hL kk86 (by omega)) kw_778 kw_780 sel_Mo_here kw_8 kw_781 (by decide +kernel) ⟨rfl, rfl⟩ ⟨Nat.le_of_ble_eq_true rfl, Nat.le_of_ble_eq_true rfl⟩ rfl hl.1 (Nat.le_of_ble_eq_true rfl) d_Mo_single_184 ⟨Nat.le_of_ble_eq_true rfl, Nat.le_of_ble_eq_true rfl⟩ (fun r88 mem89 H locs hq hP hS => ?_)
            have hD : va_D (Az sz) (fw n ad mem89) := fw_D hD
            obtain ⟨hre, hq⟩ := hq
            rw [hq] at hP hD
            subst hre
            rw [show hereF L (A 225) (a + 1) = hereF L T (a + 1) by rw [hT]]
            refine f_callSi (na := 1) (As := [.int (hereF L T (a + 1))]) (rest := []) Bx hml E.2.1 (m_Mo_small l (hereF L T (a + 1))) kw_796 kw_797 kw_8 kw_798 (by decide +kernel) ⟨rfl, rfl⟩ ⟨Nat.le_of_ble_eq_true rfl, Nat.le_of_ble_eq_true rfl⟩ rfl hl.1 (Nat.le_of_ble_eq_true rfl) d_Mo_single_187 ⟨Nat.le_of_ble_eq_true rfl, Nat.le_of_ble_eq_true rfl⟩ (fun r91 hs90 => ?_)
            subst hs90
            refine lv_istore (lv' := [(4, .int (smF (hereF L T (a + 1)))), (3, .int (0)), (2, .int (hereF L T (a))), (1, .int (nI a)), (0, .ref (ad 224))]) Bx.1 Bx.2.1 d_Mo_single_190 hl (by decide) rfl (fun ls hl => ?_)
            refine lv_aload_n Bx.1 Bx.2.1 d_Mo_single_192 rfl (lv_at hl 4 rfl) ?_
            refine f_get Bx hP (by omega) hW78.1 rfl inMo 17 (by decide) kw_673 rfl rfl d_Mo_single_193 ?_
            refine lv_if_ne Bx.1 Bx.2.1 d_Mo_single_196 rfl (fun hb92 => ?_) (fun hb92 => ?_)
            · refine lv_aload_n Bx.1 Bx.2.1 d_Mo_single_229 rfl (lv_at hl 4 rfl) ?_
              refine f_get Bx hP (by omega) hW78.1 rfl inMo 17 (by decide) kw_673 rfl rfl d_Mo_single_230 ?_
              refine lv_if_le Bx.1 Bx.2.1 d_Mo_single_233 rfl (fun hb93 => ?_) (fun hb93 => ?_)
              · exact absurd hb93 bd87.nle
              · exact W.vret hx hb hr (fun t ht hW => ⟨⟨mem77, rfl, ⟨J76, A, nm, hW78, Or.inl ⟨⟨kk79, kk80, hT, bd87, _, by omega, kk86⟩, sing_E hb13 hb14 hb54 hE65⟩⟩, by show va_P _ _ _ t.heap; rw [ht]; exact hP⟩, hS.F ht⟩) hS.2.2 d_Mo_single_236
            · exact absurd hb92 bd87.ne
          · subst hre67
            obtain ⟨J62, eJ62⟩ : ∃ z, z = va_up J 7 (nI (Ec + 1)) := ⟨_, rfl⟩
            obtain ⟨A63, eA63⟩ : ∃ z, z = elA A (Ec) 4 := ⟨_, rfl⟩
            rw [← eJ62, ← eA63] at hW64
            have kk94 : J62 1 = nI L := (show J62 1 = J 1 from by rw [eJ62]; rfl).trans g1
            have kk95 : J62 24 = nI G := (show J62 24 = J 24 from by rw [eJ62]; rfl).trans g2
            have kk96 : J62 16 = nI a := (show J62 16 = J 16 from by rw [eJ62]; rfl).trans g3
            have kk97 : J62 17 = 0 := (show J62 17 = J 17 from by rw [eJ62]; rfl).trans g4
            have kk98 : J62 14 = nI u := (show J62 14 = J 14 from by rw [eJ62]; rfl).trans g5
            have kk99 : J62 4 = nI R := (show J62 4 = J 4 from by rw [eJ62]; rfl).trans g6
            have kk100 : J62 18 = nI (f + 1) := (show J62 18 = J 18 from by rw [eJ62]; rfl).trans g8
            have kk101 : J62 28 = 0 := (show J62 28 = J 28 from by rw [eJ62]; rfl).trans hp
            have kk102 : J62 7 = nI (Ec + 1) := by rw [eJ62, va_up_self]
            have tT103 : A63 225 = T := by rw [eA63]; exact hT
            refine lv_istore_n (lv' := [(3, .int (nI Ec)), (2, .int (hereF L T (a))), (1, .int (nI a)), (0, .ref (ad 224))]) Bx.1 Bx.2.1 d_Mo_single_172 rfl hl (by decide) rfl (fun ls hl => ?_)
            refine lv_aload_n Bx.1 Bx.2.1 d_Mo_single_173 rfl (lv_at hl 3 rfl) ?_
            refine lv_dup Bx.1 Bx.2.1 d_Mo_single_174 rfl ?_
            refine f_get Bx hP (by omega) hW64.1 rfl inMo 16 (by decide) kw_672 rfl rfl d_Mo_single_175 ?_
            rw [kk96]
            refine lv_iconst (v := 1) Bx.1 Bx.2.1 d_Mo_single_178 (by decide) ?_
            refine lv_iadd Bx.1 Bx.2.1 d_Mo_single_179 ?_
            rw [show nI a + 1 = nI (a + 1) from nI_add (a) (1)]
            refine f_put Bx hP hD hS (by omega) hW64.1 rfl inMo tyMo okMo nmMo 16 (by decide) kw_672 rfl rfl rfl rfl (Nat.le_of_ble_eq_true rfl) d_Mo_single_180 (fun H locs hP hS => ?_)
            obtain ⟨J104, eJ104⟩ : ∃ z, z = va_up J62 16 (nI (a + 1)) := ⟨_, rfl⟩
            obtain ⟨mem105, e_mem105⟩ : ∃ z, z = va_up mem57 224 (moC ad J104) := ⟨_, rfl⟩
            have hP : va_P D vcl (fw n ad mem105) H := by rw [e_mem105, eJ104]; exact hP
            have hD : va_D (Az sz) (fw n ad mem105) := fw_D hD
            have hW106 : MW cy ad J104 A63 nm m0 mem105 := by rw [e_mem105]; exact hW64.upJ (by rw [eJ104]; exact va_up_ne _ _ (by decide))
            have kk107 : J104 1 = nI L := by rw [eJ104]; exact kk94
            have kk108 : J104 24 = nI G := by rw [eJ104]; exact kk95
            have kk109 : J104 17 = 0 := by rw [eJ104]; exact kk97
            have kk110 : J104 14 = nI u := by rw [eJ104]; exact kk98
            have kk111 : J104 4 = nI R := by rw [eJ104]; exact kk99
            have kk112 : J104 18 = nI (f + 1) := by rw [eJ104]; exact kk100
            have kk113 : J104 28 = 0 := by rw [eJ104]; exact kk101
            have kk114 : J104 7 = nI (Ec + 1) := by rw [eJ104]; exact kk102
            have kk115 : J104 16 = nI (a + 1) := by rw [eJ104, va_up_self]
            refine lv_aload_n Bx.1 Bx.2.1 d_Mo_single_183 rfl (lv_at hl 3 rfl) ?_
            refine f_callVi (na := 0) (As := []) (rest := []) Bx hml E hP hD hS (by omega) hW106.1 rfl (m_Mo_here l hn hW106 kk107 hL kk115 (by omega)) kw_778 kw_780 sel_Mo_here kw_8 kw_781 (by decide +kernel) ⟨rfl, rfl⟩ ⟨Nat.le_of_ble_eq_true rfl, Nat.le_of_ble_eq_true rfl⟩ rfl hl.1 (Nat.le_of_ble_eq_true rfl) d_Mo_single_184 ⟨Nat.le_of_ble_eq_true rfl, Nat.le_of_ble_eq_true rfl⟩ (fun r116 mem117 H locs hq hP hS => ?_)
            have hD : va_D (Az sz) (fw n ad mem117) := fw_D hD
            obtain ⟨hre, hq⟩ := hq
            rw [hq] at hP hD
            subst hre
            rw [show hereF L (A63 225) (a + 1) = hereF L T (a + 1) by rw [tT103]]
            refine f_callSi (na := 1) (As := [.int (hereF L T (a + 1))]) (rest := []) Bx hml E.2.1 (m_Mo_small l (hereF L T (a + 1))) kw_796 kw_797 kw_8 kw_798 (by decide +kernel) ⟨rfl, rfl⟩ ⟨Nat.le_of_ble_eq_true rfl, Nat.le_of_ble_eq_true rfl⟩ rfl hl.1 (Nat.le_of_ble_eq_true rfl) d_Mo_single_187 ⟨Nat.le_of_ble_eq_true rfl, Nat.le_of_ble_eq_true rfl⟩ (fun r119 hs118 => ?_)
            subst hs118
            refine lv_istore (lv' := [(4, .int (smF (hereF L T (a + 1)))), (3, .int (nI Ec)), (2, .int (hereF L T (a))), (1, .int (nI a)), (0, .ref (ad 224))]) Bx.1 Bx.2.1 d_Mo_single_190 hl (by decide) rfl (fun ls hl => ?_)
            refine lv_aload_n Bx.1 Bx.2.1 d_Mo_single_192 rfl (lv_at hl 4 rfl) ?_
            refine f_get Bx hP (by omega) hW106.1 rfl inMo 17 (by decide) kw_673 rfl rfl d_Mo_single_193 ?_
            rw [kk109]
            refine lv_if_ne Bx.1 Bx.2.1 d_Mo_single_196 rfl (fun hb120 => ?_) (fun hb120 => ?_)
            · exact absurd hb120 (by decide)
            · refine lv_iload Bx.1 Bx.2.1 d_Mo_single_199 (lv_at hl 0 rfl) ?_
              refine lv_bipush (v := 100) Bx.1 Bx.2.1 d_Mo_single_201 (by decide) ?_
              refine lv_icmp_eq Bx.1 Bx.2.1 d_Mo_single_203 rfl (fun hb121 => ?_) (fun hb121 => ?_)
              · have hlt122 := hereF_lt (smF_ne (Or.inl hb121))
                rw [hb121] at hl
                refine lv_aload_n Bx.1 Bx.2.1 d_Mo_single_229 rfl (lv_at hl 4 rfl) ?_
                refine f_get Bx hP (by omega) hW106.1 rfl inMo 17 (by decide) kw_673 rfl rfl d_Mo_single_230 ?_
                rw [kk109]
                refine lv_if_le Bx.1 Bx.2.1 d_Mo_single_233 rfl (fun hb123 => ?_) (fun hb123 => ?_)
                · refine lv_aload_n Bx.1 Bx.2.1 d_Mo_single_237 rfl (lv_at hl 4 rfl) ?_
                  refine lv_dup Bx.1 Bx.2.1 d_Mo_single_238 rfl ?_
                  refine f_get Bx hP (by omega) hW106.1 rfl inMo 16 (by decide) kw_672 rfl rfl d_Mo_single_239 ?_
                  rw [kk115]
                  refine lv_iconst (v := 1) Bx.1 Bx.2.1 d_Mo_single_242 (by decide) ?_
                  refine lv_iadd Bx.1 Bx.2.1 d_Mo_single_243 ?_
                  rw [show nI (a + 1) + 1 = nI (a + 1 + 1) from nI_add (a + 1) (1)]
                  refine f_put Bx hP hD hS (by omega) hW106.1 rfl inMo tyMo okMo nmMo 16 (by decide) kw_672 rfl rfl rfl rfl (Nat.le_of_ble_eq_true rfl) d_Mo_single_244 (fun H locs hP hS => ?_)
                  obtain ⟨J124, eJ124⟩ : ∃ z, z = va_up J104 16 (nI (a + 1 + 1)) := ⟨_, rfl⟩
                  obtain ⟨mem125, e_mem125⟩ : ∃ z, z = va_up mem105 224 (moC ad J124) := ⟨_, rfl⟩
                  have hP : va_P D vcl (fw n ad mem125) H := by rw [e_mem125, eJ124]; exact hP
                  have hD : va_D (Az sz) (fw n ad mem125) := fw_D hD
                  have hW126 : MW cy ad J124 A63 nm m0 mem125 := by rw [e_mem125]; exact hW106.upJ (by rw [eJ124]; exact va_up_ne _ _ (by decide))
                  have kk127 : J124 1 = nI L := by rw [eJ124]; exact kk107
                  have kk128 : J124 24 = nI G := by rw [eJ124]; exact kk108
                  have kk129 : J124 17 = 0 := by rw [eJ124]; exact kk109
                  have kk130 : J124 14 = nI u := by rw [eJ124]; exact kk110
                  have kk131 : J124 4 = nI R := by rw [eJ124]; exact kk111
                  have kk132 : J124 18 = nI (f + 1) := by rw [eJ124]; exact kk112
                  have kk133 : J124 28 = 0 := by rw [eJ124]; exact kk113
                  have kk134 : J124 7 = nI (Ec + 1) := by rw [eJ124]; exact kk114
                  have kk135 : J124 16 = nI (a + 1 + 1) := by rw [eJ124, va_up_self]
                  refine lv_aload_n Bx.1 Bx.2.1 d_Mo_single_247 rfl (lv_at hl 4 rfl) ?_
                  refine f_get Bx hP (by omega) hW126.1 rfl inMo 11 (by decide) kw_667 rfl rfl d_Mo_single_248 ?_
                  refine lv_iload_n Bx.1 Bx.2.1 d_Mo_single_251 rfl (lv_at hl 1 rfl) ?_
                  refine lv_iconst (v := 1) Bx.1 Bx.2.1 d_Mo_single_252 (by decide) ?_
                  refine f_zast (x := 1) (i := nI (Ec)) Bx hP hD hS (by omega) (show mem125 231 = .inl (cy 3, 100, .inl (A63 231)) from hW126.2.2.1 231 (by decide) (by decide) (by decide)) (vp_in_nI (n := Ec) (by omega) (by decide)) d_Mo_single_253 (fun H locs hP hS => ?_)
                  rw [nI_clamp (n := Ec) (by omega)] at hP
                  obtain ⟨A136, eA136⟩ : ∃ z, z = va_up A63 231 (upd (A63 231) (Ec) (vp_nar .boolean (1))) := ⟨_, rfl⟩
                  obtain ⟨mem137, e_mem137⟩ : ∃ z, z = va_up mem125 231 (.inl (cy 3, 100, .inl (upd (A63 231) (Ec) (vp_nar .boolean (1))))) := ⟨_, rfl⟩
                  have hP : va_P D vcl (fw n ad mem137) H := by rw [e_mem137]; exact hP
                  have hD : va_D (Az sz) (fw n ad mem137) := fw_D hD
                  have hW138 : MW cy ad J124 A136 nm m0 mem137 := by rw [e_mem137, eA136]; exact hW126.upA (j := 231) (by decide) (by decide) (by decide) (Or.inl (by decide))
                  have tT139 : A136 225 = T := by rw [eA136]; exact tT103
                  refine lv_iload Bx.1 Bx.2.1 d_Mo_single_254 (lv_at hl 0 rfl) ?_
                  refine lv_bipush (v := 115) Bx.1 Bx.2.1 d_Mo_single_256 (by decide) ?_
                  refine lv_icmp_ne Bx.1 Bx.2.1 d_Mo_single_258 rfl (fun hb140 => ?_) (fun hb140 => ?_)
                  · refine lv_iload Bx.1 Bx.2.1 d_Mo_single_282 (lv_at hl 0 rfl) ?_
                    refine lv_bipush (v := 115) Bx.1 Bx.2.1 d_Mo_single_284 (by decide) ?_
                    refine lv_icmp_ne Bx.1 Bx.2.1 d_Mo_single_286 rfl (fun hb141 => ?_) (fun hb141 => ?_)
                    · refine lv_aload_n Bx.1 Bx.2.1 d_Mo_single_297 rfl (lv_at hl 4 rfl) ?_
                      refine lv_iload_n Bx.1 Bx.2.1 d_Mo_single_298 rfl (lv_at hl 1 rfl) ?_
                      refine lv_iload_n Bx.1 Bx.2.1 d_Mo_single_299 rfl (lv_at hl 3 rfl) ?_
                      refine lv_iload Bx.1 Bx.2.1 d_Mo_single_300 (lv_at hl 0 rfl) ?_
                      refine lv_bipush (v := 100) Bx.1 Bx.2.1 d_Mo_single_302 (by decide) ?_
                      refine lv_icmp_ne Bx.1 Bx.2.1 d_Mo_single_304 rfl (fun hb142 => ?_) (fun hb142 => ?_)
                      · exact absurd hb142 (by decide)
                      · refine lv_bipush (v := 10) Bx.1 Bx.2.1 d_Mo_single_307 (by decide) ?_
                        refine lv_goto Bx.1 Bx.2.1 d_Mo_single_309 rfl ?_
                        have hkd145 : A136 228 (Ec) = 4 := by simp [eA63, eA136, elA, va_up, upd]
                        obtain ⟨hnx143, hcl144⟩ := hI.ext (A' := A136) ⟨fun j h1 h2 h3 k hk => by
                            have hj : j = 228 ∨ j = 229 ∨ j = 230 ∨ j = 232 ∨ j = 233 := by omega
                            rcases hj with rfl | rfl | rfl | rfl | rfl <;> simp [eA63, eA136, elA, va_up, upd, Nat.ne_of_lt hk], by simp [eA63, eA136, elA, va_up], fun j h1 h2 => by
                            have hj : j = 235 ∨ j = 236 ∨ j = 237 ∨ j = 238 ∨ j = 239 := by omega
                            rcases hj with rfl | rfl | rfl | rfl | rfl <;> simp [eA63, eA136, elA, va_up], by simp [eA63, eA136, elA, va_up, upd], by simp [eA63, eA136, elA, va_up, upd]⟩ (Nat.le_refl u) (fun z => absurd (hkd145.symm.trans z) (by decide)) (fun _ => ⟨0, 0, by rw [show A136 229 (Ec) = 0 by simp [eA63, eA136, elA, va_up, upd]]; rfl, by rw [show A136 230 (Ec) = 0 by simp [eA63, eA136, elA, va_up, upd]]; rfl, by omega⟩) (fun k z => z.elim)
                        have hnx146 := hnx143.wk (X' := fun _ => False) (fun k z => z.elim id (fun y => absurd (y.2) (by rw [hkd145]; decide)))
                        have hrr147 : A136 239 f = -1 ∨ ∃ r, A136 239 f = nI r ∧ fs f < r ∧ r < Ec := by rw [show A136 239 = A 239 by simp [eA63, eA136, elA, va_up]]; exact hrr0
                        refine f_callVv (na := 3) (As := [.int (nI Ec), .int (nI a), .int (10)]) (rest := []) Bx hml E hP hD hS (by omega) hW138.1 rfl (m_Mo_numbersX l hn hW138 (e9 := Ec) ⟨kk127, kk128, kk135, kk129, kk130, kk131, kk134, kk132⟩ ⟨hL, by omega, by omega, by omega, by omega⟩ (by omega) tT139 kk133 hnx146 hkd145 hcl144 (by omega) hrr147) kw_842 kw_844 sel_Mo_numbers kw_8 kw_845 (by decide +kernel) ⟨rfl, rfl⟩ ⟨Nat.le_of_ble_eq_true rfl, Nat.le_of_ble_eq_true rfl⟩ rfl hl.1 (Nat.le_of_ble_eq_true rfl) d_Mo_single_314 ⟨Nat.le_of_ble_eq_true rfl, Nat.le_of_ble_eq_true rfl⟩ (fun mem149 H locs hq hP hS => ?_)
                        have hD : va_D (Az sz) (fw n ad mem149) := fw_D hD
                        obtain ⟨J150, A151, nn152, hW153, hres154⟩ := hq
                        exact W.vret hx hb hr (fun t ht hW => ⟨⟨mem149, rfl, ⟨J150, A151, nn152, hW153, hres154.mono (by omega) (by rw [sing_d hb13 hb14 hb54 hb55 hEl61 hb121, eA136, eA63])⟩, by show va_P _ _ _ t.heap; rw [ht]; exact hP⟩, hS.F ht⟩) hS.2.2 d_Mo_single_317
                    · exact absurd hb141 (by decide)
                  · exact absurd hb140 (by decide)
                · exact absurd hb123 (by decide)
              · refine lv_iload Bx.1 Bx.2.1 d_Mo_single_206 (lv_at hl 0 rfl) ?_
                refine lv_bipush (v := 120) Bx.1 Bx.2.1 d_Mo_single_208 (by decide) ?_
                refine lv_icmp_eq Bx.1 Bx.2.1 d_Mo_single_210 rfl (fun hb155 => ?_) (fun hb155 => ?_)
                · have hlt156 := hereF_lt (smF_ne (Or.inr (Or.inl hb155)))
                  rw [hb155] at hl
                  refine lv_aload_n Bx.1 Bx.2.1 d_Mo_single_229 rfl (lv_at hl 4 rfl) ?_
                  refine f_get Bx hP (by omega) hW106.1 rfl inMo 17 (by decide) kw_673 rfl rfl d_Mo_single_230 ?_
                  rw [kk109]
                  refine lv_if_le Bx.1 Bx.2.1 d_Mo_single_233 rfl (fun hb157 => ?_) (fun hb157 => ?_)
                  · refine lv_aload_n Bx.1 Bx.2.1 d_Mo_single_237 rfl (lv_at hl 4 rfl) ?_
                    refine lv_dup Bx.1 Bx.2.1 d_Mo_single_238 rfl ?_
                    refine f_get Bx hP (by omega) hW106.1 rfl inMo 16 (by decide) kw_672 rfl rfl d_Mo_single_239 ?_
                    rw [kk115]
                    refine lv_iconst (v := 1) Bx.1 Bx.2.1 d_Mo_single_242 (by decide) ?_
                    refine lv_iadd Bx.1 Bx.2.1 d_Mo_single_243 ?_
                    rw [show nI (a + 1) + 1 = nI (a + 1 + 1) from nI_add (a + 1) (1)]
                    refine f_put Bx hP hD hS (by omega) hW106.1 rfl inMo tyMo okMo nmMo 16 (by decide) kw_672 rfl rfl rfl rfl (Nat.le_of_ble_eq_true rfl) d_Mo_single_244 (fun H locs hP hS => ?_)
                    obtain ⟨J158, eJ158⟩ : ∃ z, z = va_up J104 16 (nI (a + 1 + 1)) := ⟨_, rfl⟩
                    obtain ⟨mem159, e_mem159⟩ : ∃ z, z = va_up mem105 224 (moC ad J158) := ⟨_, rfl⟩
                    have hP : va_P D vcl (fw n ad mem159) H := by rw [e_mem159, eJ158]; exact hP
                    have hD : va_D (Az sz) (fw n ad mem159) := fw_D hD
                    have hW160 : MW cy ad J158 A63 nm m0 mem159 := by rw [e_mem159]; exact hW106.upJ (by rw [eJ158]; exact va_up_ne _ _ (by decide))
                    have kk161 : J158 1 = nI L := by rw [eJ158]; exact kk107
                    have kk162 : J158 24 = nI G := by rw [eJ158]; exact kk108
                    have kk163 : J158 17 = 0 := by rw [eJ158]; exact kk109
                    have kk164 : J158 14 = nI u := by rw [eJ158]; exact kk110
                    have kk165 : J158 4 = nI R := by rw [eJ158]; exact kk111
                    have kk166 : J158 18 = nI (f + 1) := by rw [eJ158]; exact kk112
                    have kk167 : J158 28 = 0 := by rw [eJ158]; exact kk113
                    have kk168 : J158 7 = nI (Ec + 1) := by rw [eJ158]; exact kk114
                    have kk169 : J158 16 = nI (a + 1 + 1) := by rw [eJ158, va_up_self]
                    refine lv_aload_n Bx.1 Bx.2.1 d_Mo_single_247 rfl (lv_at hl 4 rfl) ?_
                    refine f_get Bx hP (by omega) hW160.1 rfl inMo 11 (by decide) kw_667 rfl rfl d_Mo_single_248 ?_
                    refine lv_iload_n Bx.1 Bx.2.1 d_Mo_single_251 rfl (lv_at hl 1 rfl) ?_
                    refine lv_iconst (v := 1) Bx.1 Bx.2.1 d_Mo_single_252 (by decide) ?_
                    refine f_zast (x := 1) (i := nI (Ec)) Bx hP hD hS (by omega) (show mem159 231 = .inl (cy 3, 100, .inl (A63 231)) from hW160.2.2.1 231 (by decide) (by decide) (by decide)) (vp_in_nI (n := Ec) (by omega) (by decide)) d_Mo_single_253 (fun H locs hP hS => ?_)
                    rw [nI_clamp (n := Ec) (by omega)] at hP
                    obtain ⟨A170, eA170⟩ : ∃ z, z = va_up A63 231 (upd (A63 231) (Ec) (vp_nar .boolean (1))) := ⟨_, rfl⟩
                    obtain ⟨mem171, e_mem171⟩ : ∃ z, z = va_up mem159 231 (.inl (cy 3, 100, .inl (upd (A63 231) (Ec) (vp_nar .boolean (1))))) := ⟨_, rfl⟩
                    have hP : va_P D vcl (fw n ad mem171) H := by rw [e_mem171]; exact hP
                    have hD : va_D (Az sz) (fw n ad mem171) := fw_D hD
                    have hW172 : MW cy ad J158 A170 nm m0 mem171 := by rw [e_mem171, eA170]; exact hW160.upA (j := 231) (by decide) (by decide) (by decide) (Or.inl (by decide))
                    have tT173 : A170 225 = T := by rw [eA170]; exact tT103
                    refine lv_iload Bx.1 Bx.2.1 d_Mo_single_254 (lv_at hl 0 rfl) ?_
                    refine lv_bipush (v := 115) Bx.1 Bx.2.1 d_Mo_single_256 (by decide) ?_
                    refine lv_icmp_ne Bx.1 Bx.2.1 d_Mo_single_258 rfl (fun hb174 => ?_) (fun hb174 => ?_)
                    · refine lv_iload Bx.1 Bx.2.1 d_Mo_single_282 (lv_at hl 0 rfl) ?_
                      refine lv_bipush (v := 115) Bx.1 Bx.2.1 d_Mo_single_284 (by decide) ?_
                      refine lv_icmp_ne Bx.1 Bx.2.1 d_Mo_single_286 rfl (fun hb175 => ?_) (fun hb175 => ?_)
                      · refine lv_aload_n Bx.1 Bx.2.1 d_Mo_single_297 rfl (lv_at hl 4 rfl) ?_
                        refine lv_iload_n Bx.1 Bx.2.1 d_Mo_single_298 rfl (lv_at hl 1 rfl) ?_
                        refine lv_iload_n Bx.1 Bx.2.1 d_Mo_single_299 rfl (lv_at hl 3 rfl) ?_
                        refine lv_iload Bx.1 Bx.2.1 d_Mo_single_300 (lv_at hl 0 rfl) ?_
                        refine lv_bipush (v := 100) Bx.1 Bx.2.1 d_Mo_single_302 (by decide) ?_
                        refine lv_icmp_ne Bx.1 Bx.2.1 d_Mo_single_304 rfl (fun hb176 => ?_) (fun hb176 => ?_)
                        · refine lv_bipush (v := 16) Bx.1 Bx.2.1 d_Mo_single_312 (by decide) ?_
                          have hkd179 : A170 228 (Ec) = 4 := by simp [eA63, eA170, elA, va_up, upd]
                          obtain ⟨hnx177, hcl178⟩ := hI.ext (A' := A170) ⟨fun j h1 h2 h3 k hk => by
                              have hj : j = 228 ∨ j = 229 ∨ j = 230 ∨ j = 232 ∨ j = 233 := by omega
                              rcases hj with rfl | rfl | rfl | rfl | rfl <;> simp [eA63, eA170, elA, va_up, upd, Nat.ne_of_lt hk], by simp [eA63, eA170, elA, va_up], fun j h1 h2 => by
                              have hj : j = 235 ∨ j = 236 ∨ j = 237 ∨ j = 238 ∨ j = 239 := by omega
                              rcases hj with rfl | rfl | rfl | rfl | rfl <;> simp [eA63, eA170, elA, va_up], by simp [eA63, eA170, elA, va_up, upd], by simp [eA63, eA170, elA, va_up, upd]⟩ (Nat.le_refl u) (fun z => absurd (hkd179.symm.trans z) (by decide)) (fun _ => ⟨0, 0, by rw [show A170 229 (Ec) = 0 by simp [eA63, eA170, elA, va_up, upd]]; rfl, by rw [show A170 230 (Ec) = 0 by simp [eA63, eA170, elA, va_up, upd]]; rfl, by omega⟩) (fun k z => z.elim)
                          have hnx180 := hnx177.wk (X' := fun _ => False) (fun k z => z.elim id (fun y => absurd (y.2) (by rw [hkd179]; decide)))
                          have hrr181 : A170 239 f = -1 ∨ ∃ r, A170 239 f = nI r ∧ fs f < r ∧ r < Ec := by rw [show A170 239 = A 239 by simp [eA63, eA170, elA, va_up]]; exact hrr0
                          refine f_callVv (na := 3) (As := [.int (nI Ec), .int (nI a), .int (16)]) (rest := []) Bx hml E hP hD hS (by omega) hW172.1 rfl (m_Mo_numbersX l hn hW172 (e9 := Ec) ⟨kk161, kk162, kk169, kk163, kk164, kk165, kk168, kk166⟩ ⟨hL, by omega, by omega, by omega, by omega⟩ (by omega) tT173 kk167 hnx180 hkd179 hcl178 (by omega) hrr181) kw_842 kw_844 sel_Mo_numbers kw_8 kw_845 (by decide +kernel) ⟨rfl, rfl⟩ ⟨Nat.le_of_ble_eq_true rfl, Nat.le_of_ble_eq_true rfl⟩ rfl hl.1 (Nat.le_of_ble_eq_true rfl) d_Mo_single_314 ⟨Nat.le_of_ble_eq_true rfl, Nat.le_of_ble_eq_true rfl⟩ (fun mem183 H locs hq hP hS => ?_)
                          have hD : va_D (Az sz) (fw n ad mem183) := fw_D hD
                          obtain ⟨J184, A185, nn186, hW187, hres188⟩ := hq
                          exact W.vret hx hb hr (fun t ht hW => ⟨⟨mem183, rfl, ⟨J184, A185, nn186, hW187, hres188.mono (by omega) (by rw [sing_x hb13 hb14 hb54 hb55 hEl61 hb155, eA170, eA63])⟩, by show va_P _ _ _ t.heap; rw [ht]; exact hP⟩, hS.F ht⟩) hS.2.2 d_Mo_single_317
                        · exact absurd hb176 (by decide)
                      · exact absurd hb175 (by decide)
                    · exact absurd hb174 (by decide)
                  · exact absurd hb157 (by decide)
                · refine lv_iload Bx.1 Bx.2.1 d_Mo_single_213 (lv_at hl 0 rfl) ?_
                  refine lv_bipush (v := 115) Bx.1 Bx.2.1 d_Mo_single_215 (by decide) ?_
                  refine lv_icmp_eq Bx.1 Bx.2.1 d_Mo_single_217 rfl (fun hb189 => ?_) (fun hb189 => ?_)
                  · have hlt190 := hereF_lt (smF_ne (Or.inr (Or.inr hb189)))
                    rw [hb189] at hl
                    refine lv_aload_n Bx.1 Bx.2.1 d_Mo_single_229 rfl (lv_at hl 4 rfl) ?_
                    refine f_get Bx hP (by omega) hW106.1 rfl inMo 17 (by decide) kw_673 rfl rfl d_Mo_single_230 ?_
                    rw [kk109]
                    refine lv_if_le Bx.1 Bx.2.1 d_Mo_single_233 rfl (fun hb191 => ?_) (fun hb191 => ?_)
                    · refine lv_aload_n Bx.1 Bx.2.1 d_Mo_single_237 rfl (lv_at hl 4 rfl) ?_
                      refine lv_dup Bx.1 Bx.2.1 d_Mo_single_238 rfl ?_
                      refine f_get Bx hP (by omega) hW106.1 rfl inMo 16 (by decide) kw_672 rfl rfl d_Mo_single_239 ?_
                      rw [kk115]
                      refine lv_iconst (v := 1) Bx.1 Bx.2.1 d_Mo_single_242 (by decide) ?_
                      refine lv_iadd Bx.1 Bx.2.1 d_Mo_single_243 ?_
                      rw [show nI (a + 1) + 1 = nI (a + 1 + 1) from nI_add (a + 1) (1)]
                      refine f_put Bx hP hD hS (by omega) hW106.1 rfl inMo tyMo okMo nmMo 16 (by decide) kw_672 rfl rfl rfl rfl (Nat.le_of_ble_eq_true rfl) d_Mo_single_244 (fun H locs hP hS => ?_)
                      obtain ⟨J192, eJ192⟩ : ∃ z, z = va_up J104 16 (nI (a + 1 + 1)) := ⟨_, rfl⟩
                      obtain ⟨mem193, e_mem193⟩ : ∃ z, z = va_up mem105 224 (moC ad J192) := ⟨_, rfl⟩
                      have hP : va_P D vcl (fw n ad mem193) H := by rw [e_mem193, eJ192]; exact hP
                      have hD : va_D (Az sz) (fw n ad mem193) := fw_D hD
                      have hW194 : MW cy ad J192 A63 nm m0 mem193 := by rw [e_mem193]; exact hW106.upJ (by rw [eJ192]; exact va_up_ne _ _ (by decide))
                      have kk195 : J192 1 = nI L := by rw [eJ192]; exact kk107
                      have kk196 : J192 24 = nI G := by rw [eJ192]; exact kk108
                      have kk197 : J192 17 = 0 := by rw [eJ192]; exact kk109
                      have kk198 : J192 14 = nI u := by rw [eJ192]; exact kk110
                      have kk199 : J192 4 = nI R := by rw [eJ192]; exact kk111
                      have kk200 : J192 18 = nI (f + 1) := by rw [eJ192]; exact kk112
                      have kk201 : J192 28 = 0 := by rw [eJ192]; exact kk113
                      have kk202 : J192 7 = nI (Ec + 1) := by rw [eJ192]; exact kk114
                      have kk203 : J192 16 = nI (a + 1 + 1) := by rw [eJ192, va_up_self]
                      refine lv_aload_n Bx.1 Bx.2.1 d_Mo_single_247 rfl (lv_at hl 4 rfl) ?_
                      refine f_get Bx hP (by omega) hW194.1 rfl inMo 11 (by decide) kw_667 rfl rfl d_Mo_single_248 ?_
                      refine lv_iload_n Bx.1 Bx.2.1 d_Mo_single_251 rfl (lv_at hl 1 rfl) ?_
                      refine lv_iconst (v := 1) Bx.1 Bx.2.1 d_Mo_single_252 (by decide) ?_
                      refine f_zast (x := 1) (i := nI (Ec)) Bx hP hD hS (by omega) (show mem193 231 = .inl (cy 3, 100, .inl (A63 231)) from hW194.2.2.1 231 (by decide) (by decide) (by decide)) (vp_in_nI (n := Ec) (by omega) (by decide)) d_Mo_single_253 (fun H locs hP hS => ?_)
                      rw [nI_clamp (n := Ec) (by omega)] at hP
                      obtain ⟨A204, eA204⟩ : ∃ z, z = va_up A63 231 (upd (A63 231) (Ec) (vp_nar .boolean (1))) := ⟨_, rfl⟩
                      obtain ⟨mem205, e_mem205⟩ : ∃ z, z = va_up mem193 231 (.inl (cy 3, 100, .inl (upd (A63 231) (Ec) (vp_nar .boolean (1))))) := ⟨_, rfl⟩
                      have hP : va_P D vcl (fw n ad mem205) H := by rw [e_mem205]; exact hP
                      have hD : va_D (Az sz) (fw n ad mem205) := fw_D hD
                      have hW206 : MW cy ad J192 A204 nm m0 mem205 := by rw [e_mem205, eA204]; exact hW194.upA (j := 231) (by decide) (by decide) (by decide) (Or.inl (by decide))
                      have tT207 : A204 225 = T := by rw [eA204]; exact tT103
                      refine lv_iload Bx.1 Bx.2.1 d_Mo_single_254 (lv_at hl 0 rfl) ?_
                      refine lv_bipush (v := 115) Bx.1 Bx.2.1 d_Mo_single_256 (by decide) ?_
                      refine lv_icmp_ne Bx.1 Bx.2.1 d_Mo_single_258 rfl (fun hb208 => ?_) (fun hb208 => ?_)
                      · exact absurd hb208 (by decide)
                      · refine lv_aload_n Bx.1 Bx.2.1 d_Mo_single_261 rfl (lv_at hl 4 rfl) ?_
                        refine f_callVi (na := 0) (As := []) (rest := []) Bx hml E hP hD hS (by omega) hW206.1 rfl (m_Mo_here l hn hW206 kk195 hL kk203 (by omega)) kw_778 kw_780 sel_Mo_here kw_8 kw_781 (by decide +kernel) ⟨rfl, rfl⟩ ⟨Nat.le_of_ble_eq_true rfl, Nat.le_of_ble_eq_true rfl⟩ rfl hl.1 (Nat.le_of_ble_eq_true rfl) d_Mo_single_262 ⟨Nat.le_of_ble_eq_true rfl, Nat.le_of_ble_eq_true rfl⟩ (fun r209 mem210 H locs hq hP hS => ?_)
                        have hD : va_D (Az sz) (fw n ad mem210) := fw_D hD
                        obtain ⟨hre, hq⟩ := hq
                        rw [hq] at hP hD
                        subst hre
                        rw [show hereF L (A204 225) (a + 1 + 1) = hereF L T (a + 1 + 1) by rw [tT207]]
                        refine lv_bipush (v := 34) Bx.1 Bx.2.1 d_Mo_single_265 (by decide) ?_
                        refine lv_icmp_eq Bx.1 Bx.2.1 d_Mo_single_267 rfl (fun hb211 => ?_) (fun hb211 => ?_)
                        · have hlt212 := hereF_lt (by rw [hb211]; decide)
                          refine lv_iload Bx.1 Bx.2.1 d_Mo_single_282 (lv_at hl 0 rfl) ?_
                          refine lv_bipush (v := 115) Bx.1 Bx.2.1 d_Mo_single_284 (by decide) ?_
                          refine lv_icmp_ne Bx.1 Bx.2.1 d_Mo_single_286 rfl (fun hb213 => ?_) (fun hb213 => ?_)
                          · exact absurd hb213 (by decide)
                          · refine lv_aload_n Bx.1 Bx.2.1 d_Mo_single_289 rfl (lv_at hl 4 rfl) ?_
                            refine lv_iload_n Bx.1 Bx.2.1 d_Mo_single_290 rfl (lv_at hl 1 rfl) ?_
                            have hkd216 : A204 228 (Ec) = 4 := by simp [eA63, eA204, elA, va_up, upd]
                            obtain ⟨hnx214, hcl215⟩ := hI.ext (A' := A204) ⟨fun j h1 h2 h3 k hk => by
                                have hj : j = 228 ∨ j = 229 ∨ j = 230 ∨ j = 232 ∨ j = 233 := by omega
                                rcases hj with rfl | rfl | rfl | rfl | rfl <;> simp [eA63, eA204, elA, va_up, upd, Nat.ne_of_lt hk], by simp [eA63, eA204, elA, va_up], fun j h1 h2 => by
                                have hj : j = 235 ∨ j = 236 ∨ j = 237 ∨ j = 238 ∨ j = 239 := by omega
                                rcases hj with rfl | rfl | rfl | rfl | rfl <;> simp [eA63, eA204, elA, va_up], by simp [eA63, eA204, elA, va_up, upd], by simp [eA63, eA204, elA, va_up, upd]⟩ (Nat.le_refl u) (fun z => absurd (hkd216.symm.trans z) (by decide)) (fun _ => ⟨0, 0, by rw [show A204 229 (Ec) = 0 by simp [eA63, eA204, elA, va_up, upd]]; rfl, by rw [show A204 230 (Ec) = 0 by simp [eA63, eA204, elA, va_up, upd]]; rfl, by omega⟩) (fun k z => z.elim)
                            have hnx217 := hnx214.wk (X' := fun _ => False) (fun k z => z.elim id (fun y => absurd (y.2) (by rw [hkd216]; decide)))
                            have hrr218 : A204 239 f = -1 ∨ ∃ r, A204 239 f = nI r ∧ fs f < r ∧ r < Ec := by rw [show A204 239 = A 239 by simp [eA63, eA204, elA, va_up]]; exact hrr0
                            refine f_callVv (na := 1) (As := [.int (nI Ec)]) (rest := []) Bx hml E hP hD hS (by omega) hW206.1 rfl (m_Mo_stringX l hn hW206 (e9 := Ec) ⟨kk195, kk196, kk203, kk197, kk198, kk199, kk202, kk200⟩ ⟨hL, by omega, by omega, by omega, by omega⟩ (by omega) tT207 kk201 hnx217 hkd216 hcl215 (by omega) hrr218 (by omega)) kw_838 kw_840 sel_Mo_string kw_8 kw_841 (by decide +kernel) ⟨rfl, rfl⟩ ⟨Nat.le_of_ble_eq_true rfl, Nat.le_of_ble_eq_true rfl⟩ rfl hl.1 (Nat.le_of_ble_eq_true rfl) d_Mo_single_291 ⟨Nat.le_of_ble_eq_true rfl, Nat.le_of_ble_eq_true rfl⟩ (fun mem220 H locs hq hP hS => ?_)
                            have hD : va_D (Az sz) (fw n ad mem220) := fw_D hD
                            obtain ⟨J221, A222, nn223, hW224, hres225⟩ := hq
                            refine lv_goto Bx.1 Bx.2.1 d_Mo_single_294 rfl ?_
                            exact W.vret hx hb hr (fun t ht hW => ⟨⟨mem220, rfl, ⟨J221, A222, nn223, hW224, hres225.mono (by omega) (by rw [sing_qs hb13 hb14 hb54 hb55 hEl61 hb189 hb211, eA204, eA63])⟩, by show va_P _ _ _ t.heap; rw [ht]; exact hP⟩, hS.F ht⟩) hS.2.2 d_Mo_single_317
                        · refine lv_aload_n Bx.1 Bx.2.1 d_Mo_single_270 rfl (lv_at hl 4 rfl) ?_
                          refine lv_iconst (v := 1) Bx.1 Bx.2.1 d_Mo_single_271 (by decide) ?_
                          refine lv_aload_n Bx.1 Bx.2.1 d_Mo_single_272 rfl (lv_at hl 4 rfl) ?_
                          refine f_get Bx hP (by omega) hW206.1 rfl inMo 16 (by decide) kw_672 rfl rfl d_Mo_single_273 ?_
                          rw [kk203]
                          refine f_callVv (na := 2) (As := [.int (1), .int (nI (a + 1 + 1))]) (rest := []) Bx hml E hP hD hS (by omega) hW206.1 rfl (m_Mo_wrong l hn hW206 (Or.inl kk197) (by first | exact Or.inl rfl | exact Or.inr rfl)) kw_799 kw_801 sel_Mo_wrong kw_8 kw_802 (by decide +kernel) ⟨rfl, rfl⟩ ⟨Nat.le_of_ble_eq_true rfl, Nat.le_of_ble_eq_true rfl⟩ rfl hl.1 (Nat.le_of_ble_eq_true rfl) d_Mo_single_276 ⟨Nat.le_of_ble_eq_true rfl, Nat.le_of_ble_eq_true rfl⟩ (fun mem227 H locs hq hP hS => ?_)
                          have hD : va_D (Az sz) (fw n ad mem227) := fw_D hD
                          obtain ⟨J228, hW229, hwr230⟩ := hq
                          have kk231 : J228 1 = nI L := (show J228 1 = J192 1 from hwr230.2 1 (by decide) (by decide)).trans kk195
                          have kk232 : J228 24 = nI G := (show J228 24 = J192 24 from hwr230.2 24 (by decide) (by decide)).trans kk196
                          have kk233 : J228 14 = nI u := (show J228 14 = J192 14 from hwr230.2 14 (by decide) (by decide)).trans kk198
                          have kk234 : J228 4 = nI R := (show J228 4 = J192 4 from hwr230.2 4 (by decide) (by decide)).trans kk199
                          have kk235 : J228 18 = nI (f + 1) := (show J228 18 = J192 18 from hwr230.2 18 (by decide) (by decide)).trans kk200
                          have kk236 : J228 28 = 0 := (show J228 28 = J192 28 from hwr230.2 28 (by decide) (by decide)).trans kk201
                          have kk237 : J228 7 = nI (Ec + 1) := (show J228 7 = J192 7 from hwr230.2 7 (by decide) (by decide)).trans kk202
                          have kk238 : J228 16 = nI (a + 1 + 1) := (show J228 16 = J192 16 from hwr230.2 16 (by decide) (by decide)).trans kk203
                          refine lv_goto Bx.1 Bx.2.1 d_Mo_single_279 rfl ?_
                          exact W.vret hx hb hr (fun t ht hW => ⟨⟨mem227, rfl, ⟨J228, A204, nm, hW229, Or.inl ⟨⟨kk231, kk232, tT207, hwr230.1, _, by omega, kk238⟩, sing_q0 hb13 hb14 hb54 hb55 hEl61 hb189 hb211⟩⟩, by show va_P _ _ _ t.heap; rw [ht]; exact hP⟩, hS.F ht⟩) hS.2.2 d_Mo_single_317
                    · exact absurd hb191 (by decide)
                  · refine lv_aload_n Bx.1 Bx.2.1 d_Mo_single_220 rfl (lv_at hl 4 rfl) ?_
                    refine lv_iconst (v := 1) Bx.1 Bx.2.1 d_Mo_single_221 (by decide) ?_
                    refine lv_aload_n Bx.1 Bx.2.1 d_Mo_single_222 rfl (lv_at hl 4 rfl) ?_
                    refine f_get Bx hP (by omega) hW106.1 rfl inMo 16 (by decide) kw_672 rfl rfl d_Mo_single_223 ?_
                    rw [kk115]
                    refine f_callVv (na := 2) (As := [.int (1), .int (nI (a + 1))]) (rest := []) Bx hml E hP hD hS (by omega) hW106.1 rfl (m_Mo_wrong l hn hW106 (Or.inl kk109) (by first | exact Or.inl rfl | exact Or.inr rfl)) kw_799 kw_801 sel_Mo_wrong kw_8 kw_802 (by decide +kernel) ⟨rfl, rfl⟩ ⟨Nat.le_of_ble_eq_true rfl, Nat.le_of_ble_eq_true rfl⟩ rfl hl.1 (Nat.le_of_ble_eq_true rfl) d_Mo_single_226 ⟨Nat.le_of_ble_eq_true rfl, Nat.le_of_ble_eq_true rfl⟩ (fun mem240 H locs hq hP hS => ?_)
                    have hD : va_D (Az sz) (fw n ad mem240) := fw_D hD
                    obtain ⟨J241, hW242, hwr243⟩ := hq
                    have kk244 : J241 1 = nI L := (show J241 1 = J104 1 from hwr243.2 1 (by decide) (by decide)).trans kk107
                    have kk245 : J241 24 = nI G := (show J241 24 = J104 24 from hwr243.2 24 (by decide) (by decide)).trans kk108
                    have kk246 : J241 14 = nI u := (show J241 14 = J104 14 from hwr243.2 14 (by decide) (by decide)).trans kk110
                    have kk247 : J241 4 = nI R := (show J241 4 = J104 4 from hwr243.2 4 (by decide) (by decide)).trans kk111
                    have kk248 : J241 18 = nI (f + 1) := (show J241 18 = J104 18 from hwr243.2 18 (by decide) (by decide)).trans kk112
                    have kk249 : J241 28 = 0 := (show J241 28 = J104 28 from hwr243.2 28 (by decide) (by decide)).trans kk113
                    have kk250 : J241 7 = nI (Ec + 1) := (show J241 7 = J104 7 from hwr243.2 7 (by decide) (by decide)).trans kk114
                    have kk251 : J241 16 = nI (a + 1) := (show J241 16 = J104 16 from hwr243.2 16 (by decide) (by decide)).trans kk115
                    refine lv_aload_n Bx.1 Bx.2.1 d_Mo_single_229 rfl (lv_at hl 4 rfl) ?_
                    refine f_get Bx hP (by omega) hW242.1 rfl inMo 17 (by decide) kw_673 rfl rfl d_Mo_single_230 ?_
                    refine lv_if_le Bx.1 Bx.2.1 d_Mo_single_233 rfl (fun hb252 => ?_) (fun hb252 => ?_)
                    · exact absurd hb252 hwr243.1.nle
                    · exact W.vret hx hb hr (fun t ht hW => ⟨⟨mem240, rfl, ⟨J241, A63, nm, hW242, Or.inl ⟨⟨kk244, kk245, tT103, hwr243.1, _, by omega, kk251⟩, sing_bx hb13 hb14 hb54 hb55 hEl61 hb121 hb155 hb189⟩⟩, by show va_P _ _ _ t.heap; rw [ht]; exact hP⟩, hS.F ht⟩) hS.2.2 d_Mo_single_236
        · have hlt253 := hereF_lt (by rw [hb55]; decide)
          rw [hb55] at hl
          refine lv_aload_n Bx.1 Bx.2.1 d_Mo_single_144 rfl (lv_at hl 2 rfl) ?_
          refine lv_iconst (v := 4) Bx.1 Bx.2.1 d_Mo_single_145 (by decide) ?_
          refine lv_iload_n Bx.1 Bx.2.1 d_Mo_single_146 rfl (lv_at hl 1 rfl) ?_
          refine f_callVi (na := 2) (As := [.int (4), .int (nI a)]) (rest := []) Bx hml E hP hD hS (by omega) hM.1 rfl (m_Mo_elementX l hn hM (Or.inl g4) g7 (by omega)) kw_814 kw_816 sel_Mo_element kw_8 kw_817 (by decide +kernel) ⟨rfl, rfl⟩ ⟨Nat.le_of_ble_eq_true rfl, Nat.le_of_ble_eq_true rfl⟩ rfl hl.1 (Nat.le_of_ble_eq_true rfl) d_Mo_single_147 ⟨Nat.le_of_ble_eq_true rfl, Nat.le_of_ble_eq_true rfl⟩ (fun r254 mem255 H locs hq hP hS => ?_)
          have hD : va_D (Az sz) (fw n ad mem255) := fw_D hD
          rcases hq with ⟨hE263, hre264, J256, hW257, hwr258⟩ | ⟨hEl259, hre265, hW262⟩
          · subst hre264
            have kk266 : J256 1 = nI L := (show J256 1 = J 1 from hwr258.2 1 (by decide) (by decide)).trans g1
            have kk267 : J256 24 = nI G := (show J256 24 = J 24 from hwr258.2 24 (by decide) (by decide)).trans g2
            have kk268 : J256 16 = nI a := (show J256 16 = J 16 from hwr258.2 16 (by decide) (by decide)).trans g3
            have kk269 : J256 14 = nI u := (show J256 14 = J 14 from hwr258.2 14 (by decide) (by decide)).trans g5
            have kk270 : J256 4 = nI R := (show J256 4 = J 4 from hwr258.2 4 (by decide) (by decide)).trans g6
            have kk271 : J256 7 = nI Ec := (show J256 7 = J 7 from hwr258.2 7 (by decide) (by decide)).trans g7
            have kk272 : J256 18 = nI (f + 1) := (show J256 18 = J 18 from hwr258.2 18 (by decide) (by decide)).trans g8
            have kk273 : J256 28 = 0 := (show J256 28 = J 28 from hwr258.2 28 (by decide) (by decide)).trans hp
            refine lv_istore_n (lv' := [(3, .int (0)), (2, .int (34)), (1, .int (nI a)), (0, .ref (ad 224))]) Bx.1 Bx.2.1 d_Mo_single_150 rfl hl (by decide) rfl (fun ls hl => ?_)
            refine lv_aload_n Bx.1 Bx.2.1 d_Mo_single_151 rfl (lv_at hl 3 rfl) ?_
            refine f_get Bx hP (by omega) hW257.1 rfl inMo 17 (by decide) kw_673 rfl rfl d_Mo_single_152 ?_
            refine lv_if_ne Bx.1 Bx.2.1 d_Mo_single_155 rfl (fun hb274 => ?_) (fun hb274 => ?_)
            · refine lv_goto Bx.1 Bx.2.1 d_Mo_single_163 rfl ?_
              exact W.vret hx hb hr (fun t ht hW => ⟨⟨mem255, rfl, ⟨J256, A, nm, hW257, Or.inl ⟨⟨kk266, kk267, hT, hwr258.1, _, by omega, kk268⟩, sing_E hb13 hb14 hb54 hE263⟩⟩, by show va_P _ _ _ t.heap; rw [ht]; exact hP⟩, hS.F ht⟩) hS.2.2 d_Mo_single_317
            · exact absurd hb274 hwr258.1.ne
          · subst hre265
            obtain ⟨J260, eJ260⟩ : ∃ z, z = va_up J 7 (nI (Ec + 1)) := ⟨_, rfl⟩
            obtain ⟨A261, eA261⟩ : ∃ z, z = elA A (Ec) 4 := ⟨_, rfl⟩
            rw [← eJ260, ← eA261] at hW262
            have kk275 : J260 1 = nI L := (show J260 1 = J 1 from by rw [eJ260]; rfl).trans g1
            have kk276 : J260 24 = nI G := (show J260 24 = J 24 from by rw [eJ260]; rfl).trans g2
            have kk277 : J260 16 = nI a := (show J260 16 = J 16 from by rw [eJ260]; rfl).trans g3
            have kk278 : J260 17 = 0 := (show J260 17 = J 17 from by rw [eJ260]; rfl).trans g4
            have kk279 : J260 14 = nI u := (show J260 14 = J 14 from by rw [eJ260]; rfl).trans g5
            have kk280 : J260 4 = nI R := (show J260 4 = J 4 from by rw [eJ260]; rfl).trans g6
            have kk281 : J260 18 = nI (f + 1) := (show J260 18 = J 18 from by rw [eJ260]; rfl).trans g8
            have kk282 : J260 28 = 0 := (show J260 28 = J 28 from by rw [eJ260]; rfl).trans hp
            have kk283 : J260 7 = nI (Ec + 1) := by rw [eJ260, va_up_self]
            have tT284 : A261 225 = T := by rw [eA261]; exact hT
            refine lv_istore_n (lv' := [(3, .int (nI Ec)), (2, .int (34)), (1, .int (nI a)), (0, .ref (ad 224))]) Bx.1 Bx.2.1 d_Mo_single_150 rfl hl (by decide) rfl (fun ls hl => ?_)
            refine lv_aload_n Bx.1 Bx.2.1 d_Mo_single_151 rfl (lv_at hl 3 rfl) ?_
            refine f_get Bx hP (by omega) hW262.1 rfl inMo 17 (by decide) kw_673 rfl rfl d_Mo_single_152 ?_
            rw [kk278]
            refine lv_if_ne Bx.1 Bx.2.1 d_Mo_single_155 rfl (fun hb285 => ?_) (fun hb285 => ?_)
            · exact absurd hb285 (by decide)
            · refine lv_aload_n Bx.1 Bx.2.1 d_Mo_single_158 rfl (lv_at hl 3 rfl) ?_
              refine lv_iload_n Bx.1 Bx.2.1 d_Mo_single_159 rfl (lv_at hl 0 rfl) ?_
              have hkd288 : A261 228 (Ec) = 4 := by simp [eA261, elA, va_up, upd]
              obtain ⟨hnx286, hcl287⟩ := hI.ext (A' := A261) ⟨fun j h1 h2 h3 k hk => by
                  have hj : j = 228 ∨ j = 229 ∨ j = 230 ∨ j = 232 ∨ j = 233 := by omega
                  rcases hj with rfl | rfl | rfl | rfl | rfl <;> simp [eA261, elA, va_up, upd, Nat.ne_of_lt hk], by simp [eA261, elA, va_up], fun j h1 h2 => by
                  have hj : j = 235 ∨ j = 236 ∨ j = 237 ∨ j = 238 ∨ j = 239 := by omega
                  rcases hj with rfl | rfl | rfl | rfl | rfl <;> simp [eA261, elA, va_up], by simp [eA261, elA, va_up, upd], by simp [eA261, elA, va_up, upd]⟩ (Nat.le_refl u) (fun z => absurd (hkd288.symm.trans z) (by decide)) (fun _ => ⟨0, 0, by rw [show A261 229 (Ec) = 0 by simp [eA261, elA, va_up, upd]]; rfl, by rw [show A261 230 (Ec) = 0 by simp [eA261, elA, va_up, upd]]; rfl, by omega⟩) (fun k z => z.elim)
              have hnx289 := hnx286.wk (X' := fun _ => False) (fun k z => z.elim id (fun y => absurd (y.2) (by rw [hkd288]; decide)))
              have hrr290 : A261 239 f = -1 ∨ ∃ r, A261 239 f = nI r ∧ fs f < r ∧ r < Ec := by rw [show A261 239 = A 239 by simp [eA261, elA, va_up]]; exact hrr0
              refine f_callVv (na := 1) (As := [.int (nI Ec)]) (rest := []) Bx hml E hP hD hS (by omega) hW262.1 rfl (m_Mo_stringX l hn hW262 (e9 := Ec) ⟨kk275, kk276, kk277, kk278, kk279, kk280, kk283, kk281⟩ ⟨hL, by omega, by omega, by omega, by omega⟩ (by omega) tT284 kk282 hnx289 hkd288 hcl287 (by omega) hrr290 (by omega)) kw_838 kw_840 sel_Mo_string kw_8 kw_841 (by decide +kernel) ⟨rfl, rfl⟩ ⟨Nat.le_of_ble_eq_true rfl, Nat.le_of_ble_eq_true rfl⟩ rfl hl.1 (Nat.le_of_ble_eq_true rfl) d_Mo_single_160 ⟨Nat.le_of_ble_eq_true rfl, Nat.le_of_ble_eq_true rfl⟩ (fun mem292 H locs hq hP hS => ?_)
              have hD : va_D (Az sz) (fw n ad mem292) := fw_D hD
              obtain ⟨J293, A294, nn295, hW296, hres297⟩ := hq
              refine lv_goto Bx.1 Bx.2.1 d_Mo_single_163 rfl ?_
              exact W.vret hx hb hr (fun t ht hW => ⟨⟨mem292, rfl, ⟨J293, A294, nn295, hW296, hres297.mono (by omega) (by rw [sing_st hb13 hb14 hb54 hb55 hEl259, eA261])⟩, by show va_P _ _ _ t.heap; rw [ht]; exact hP⟩, hS.F ht⟩) hS.2.2 d_Mo_single_317
      · have hlt298 := hereF_lt (by rw [hb54]; decide)
        rw [hb54] at hl
        refine lv_aload_n Bx.1 Bx.2.1 d_Mo_single_68 rfl (lv_at hl 2 rfl) ?_
        refine f_get Bx hP (by omega) hM.1 rfl inMo 18 (by decide) kw_674 rfl rfl d_Mo_single_69 ?_
        rw [g8]
        refine lv_bipush (v := 6) Bx.1 Bx.2.1 d_Mo_single_72 (by decide) ?_
        refine lv_icmp_le Bx.1 Bx.2.1 d_Mo_single_74 rfl (fun hb299 => ?_) (fun hb299 => ?_)
        · have hN300 : f + 1 ≤ 6 := (nI_leI (by omega) (by omega)).mp (show nI (f + 1) ≤ nI (6) from hb299)
          refine lv_iload_n Bx.1 Bx.2.1 d_Mo_single_84 rfl (lv_at hl 0 rfl) ?_
          refine lv_bipush (v := 91) Bx.1 Bx.2.1 d_Mo_single_85 (by decide) ?_
          refine lv_icmp_ne Bx.1 Bx.2.1 d_Mo_single_87 rfl (fun hb301 => ?_) (fun hb301 => ?_)
          · exact absurd hb301 (by decide)
          · refine lv_aload_n Bx.1 Bx.2.1 d_Mo_single_90 rfl (lv_at hl 2 rfl) ?_
            refine lv_iconst (v := 3) Bx.1 Bx.2.1 d_Mo_single_91 (by decide) ?_
            refine lv_iload_n Bx.1 Bx.2.1 d_Mo_single_92 rfl (lv_at hl 1 rfl) ?_
            refine f_callVi (na := 2) (As := [.int (3), .int (nI a)]) (rest := []) Bx hml E hP hD hS (by omega) hM.1 rfl (m_Mo_elementX l hn hM (Or.inl g4) g7 (by omega)) kw_814 kw_816 sel_Mo_element kw_8 kw_817 (by decide +kernel) ⟨rfl, rfl⟩ ⟨Nat.le_of_ble_eq_true rfl, Nat.le_of_ble_eq_true rfl⟩ rfl hl.1 (Nat.le_of_ble_eq_true rfl) d_Mo_single_93 ⟨Nat.le_of_ble_eq_true rfl, Nat.le_of_ble_eq_true rfl⟩ (fun r302 mem303 H locs hq hP hS => ?_)
            have hD : va_D (Az sz) (fw n ad mem303) := fw_D hD
            rcases hq with ⟨hE311, hre312, J304, hW305, hwr306⟩ | ⟨hEl307, hre313, hW310⟩
            · subst hre312
              have kk314 : J304 1 = nI L := (show J304 1 = J 1 from hwr306.2 1 (by decide) (by decide)).trans g1
              have kk315 : J304 24 = nI G := (show J304 24 = J 24 from hwr306.2 24 (by decide) (by decide)).trans g2
              have kk316 : J304 16 = nI a := (show J304 16 = J 16 from hwr306.2 16 (by decide) (by decide)).trans g3
              have kk317 : J304 14 = nI u := (show J304 14 = J 14 from hwr306.2 14 (by decide) (by decide)).trans g5
              have kk318 : J304 4 = nI R := (show J304 4 = J 4 from hwr306.2 4 (by decide) (by decide)).trans g6
              have kk319 : J304 7 = nI Ec := (show J304 7 = J 7 from hwr306.2 7 (by decide) (by decide)).trans g7
              have kk320 : J304 18 = nI (f + 1) := (show J304 18 = J 18 from hwr306.2 18 (by decide) (by decide)).trans g8
              have kk321 : J304 28 = 0 := (show J304 28 = J 28 from hwr306.2 28 (by decide) (by decide)).trans hp
              refine lv_goto Bx.1 Bx.2.1 d_Mo_single_96 rfl ?_
              refine lv_istore_n (lv' := [(3, .int (0)), (2, .int (91)), (1, .int (nI a)), (0, .ref (ad 224))]) Bx.1 Bx.2.1 d_Mo_single_100 rfl hl (by decide) rfl (fun ls hl => ?_)
              refine lv_aload_n Bx.1 Bx.2.1 d_Mo_single_101 rfl (lv_at hl 3 rfl) ?_
              refine f_get Bx hP (by omega) hW305.1 rfl inMo 17 (by decide) kw_673 rfl rfl d_Mo_single_102 ?_
              refine lv_if_le Bx.1 Bx.2.1 d_Mo_single_105 rfl (fun hb322 => ?_) (fun hb322 => ?_)
              · exact absurd hb322 hwr306.1.nle
              · exact W.vret hx hb hr (fun t ht hW => ⟨⟨mem303, rfl, ⟨J304, A, nm, hW305, Or.inl ⟨⟨kk314, kk315, hT, hwr306.1, _, by omega, kk316⟩, sing_o0 hb13 hb54 (by omega)⟩⟩, by show va_P _ _ _ t.heap; rw [ht]; exact hP⟩, hS.F ht⟩) hS.2.2 d_Mo_single_108
            · subst hre313
              obtain ⟨J308, eJ308⟩ : ∃ z, z = va_up J 7 (nI (Ec + 1)) := ⟨_, rfl⟩
              obtain ⟨A309, eA309⟩ : ∃ z, z = elA A (Ec) 3 := ⟨_, rfl⟩
              rw [← eJ308, ← eA309] at hW310
              have kk323 : J308 1 = nI L := (show J308 1 = J 1 from by rw [eJ308]; rfl).trans g1
              have kk324 : J308 24 = nI G := (show J308 24 = J 24 from by rw [eJ308]; rfl).trans g2
              have kk325 : J308 16 = nI a := (show J308 16 = J 16 from by rw [eJ308]; rfl).trans g3
              have kk326 : J308 17 = 0 := (show J308 17 = J 17 from by rw [eJ308]; rfl).trans g4
              have kk327 : J308 14 = nI u := (show J308 14 = J 14 from by rw [eJ308]; rfl).trans g5
              have kk328 : J308 4 = nI R := (show J308 4 = J 4 from by rw [eJ308]; rfl).trans g6
              have kk329 : J308 18 = nI (f + 1) := (show J308 18 = J 18 from by rw [eJ308]; rfl).trans g8
              have kk330 : J308 28 = 0 := (show J308 28 = J 28 from by rw [eJ308]; rfl).trans hp
              have kk331 : J308 7 = nI (Ec + 1) := by rw [eJ308, va_up_self]
              have tT332 : A309 225 = T := by rw [eA309]; exact hT
              refine lv_goto Bx.1 Bx.2.1 d_Mo_single_96 rfl ?_
              refine lv_istore_n (lv' := [(3, .int (nI Ec)), (2, .int (91)), (1, .int (nI a)), (0, .ref (ad 224))]) Bx.1 Bx.2.1 d_Mo_single_100 rfl hl (by decide) rfl (fun ls hl => ?_)
              refine lv_aload_n Bx.1 Bx.2.1 d_Mo_single_101 rfl (lv_at hl 3 rfl) ?_
              refine f_get Bx hP (by omega) hW310.1 rfl inMo 17 (by decide) kw_673 rfl rfl d_Mo_single_102 ?_
              rw [kk326]
              refine lv_if_le Bx.1 Bx.2.1 d_Mo_single_105 rfl (fun hb333 => ?_) (fun hb333 => ?_)
              · refine lv_aload_n Bx.1 Bx.2.1 d_Mo_single_109 rfl (lv_at hl 3 rfl) ?_
                refine lv_dup Bx.1 Bx.2.1 d_Mo_single_110 rfl ?_
                refine f_get Bx hP (by omega) hW310.1 rfl inMo 16 (by decide) kw_672 rfl rfl d_Mo_single_111 ?_
                rw [kk325]
                refine lv_iconst (v := 1) Bx.1 Bx.2.1 d_Mo_single_114 (by decide) ?_
                refine lv_iadd Bx.1 Bx.2.1 d_Mo_single_115 ?_
                rw [show nI a + 1 = nI (a + 1) from nI_add (a) (1)]
                refine f_put Bx hP hD hS (by omega) hW310.1 rfl inMo tyMo okMo nmMo 16 (by decide) kw_672 rfl rfl rfl rfl (Nat.le_of_ble_eq_true rfl) d_Mo_single_116 (fun H locs hP hS => ?_)
                obtain ⟨J334, eJ334⟩ : ∃ z, z = va_up J308 16 (nI (a + 1)) := ⟨_, rfl⟩
                obtain ⟨mem335, e_mem335⟩ : ∃ z, z = va_up mem303 224 (moC ad J334) := ⟨_, rfl⟩
                have hP : va_P D vcl (fw n ad mem335) H := by rw [e_mem335, eJ334]; exact hP
                have hD : va_D (Az sz) (fw n ad mem335) := fw_D hD
                have hW336 : MW cy ad J334 A309 nm m0 mem335 := by rw [e_mem335]; exact hW310.upJ (by rw [eJ334]; exact va_up_ne _ _ (by decide))
                have kk337 : J334 1 = nI L := by rw [eJ334]; exact kk323
                have kk338 : J334 24 = nI G := by rw [eJ334]; exact kk324
                have kk339 : J334 17 = 0 := by rw [eJ334]; exact kk326
                have kk340 : J334 14 = nI u := by rw [eJ334]; exact kk327
                have kk341 : J334 4 = nI R := by rw [eJ334]; exact kk328
                have kk342 : J334 18 = nI (f + 1) := by rw [eJ334]; exact kk329
                have kk343 : J334 28 = 0 := by rw [eJ334]; exact kk330
                have kk344 : J334 7 = nI (Ec + 1) := by rw [eJ334]; exact kk331
                have kk345 : J334 16 = nI (a + 1) := by rw [eJ334, va_up_self]
                refine lv_aload_n Bx.1 Bx.2.1 d_Mo_single_119 rfl (lv_at hl 3 rfl) ?_
                refine lv_iload_n Bx.1 Bx.2.1 d_Mo_single_120 rfl (lv_at hl 1 rfl) ?_
                refine lv_bipush (v := 40) Bx.1 Bx.2.1 d_Mo_single_121 (by decide) ?_
                refine lv_icmp_ne Bx.1 Bx.2.1 d_Mo_single_123 rfl (fun hb346 => ?_) (fun hb346 => ?_)
                · refine lv_iconst (v := 2) Bx.1 Bx.2.1 d_Mo_single_130 (by decide) ?_
                  refine lv_iload_n Bx.1 Bx.2.1 d_Mo_single_131 rfl (lv_at hl 0 rfl) ?_
                  have hkd349 : A309 228 (Ec) = 3 := by simp [eA309, elA, va_up, upd]
                  obtain ⟨hnx347, hcl348⟩ := hI.ext (A' := A309) ⟨fun j h1 h2 h3 k hk => by
                      have hj : j = 228 ∨ j = 229 ∨ j = 230 ∨ j = 232 ∨ j = 233 := by omega
                      rcases hj with rfl | rfl | rfl | rfl | rfl <;> simp [eA309, elA, va_up, upd, Nat.ne_of_lt hk], by simp [eA309, elA, va_up], fun j h1 h2 => by
                      have hj : j = 235 ∨ j = 236 ∨ j = 237 ∨ j = 238 ∨ j = 239 := by omega
                      rcases hj with rfl | rfl | rfl | rfl | rfl <;> simp [eA309, elA, va_up], by simp [eA309, elA, va_up, upd], by simp [eA309, elA, va_up, upd]⟩ (Nat.le_refl u) (fun z => absurd (hkd349.symm.trans z) (by decide)) (fun z => absurd (hkd349.symm.trans z) (by decide)) (fun k z => z.elim)
                  have hrr350 : A309 239 f = -1 ∨ ∃ r, A309 239 f = nI r ∧ fs f < r ∧ r < Ec := by rw [show A309 239 = A 239 by simp [eA309, elA, va_up]]; exact hrr0
                  refine f_callVv (na := 2) (As := [.int (2), .int (nI Ec)]) (rest := []) Bx hml E hP hD hS (by omega) hW336.1 rfl (m_Mo_enterBX l hn hW336 (tt := Ec) ⟨kk337, kk338, kk345, kk339, kk340, kk341, kk344, kk342⟩ ⟨hL, by omega, by omega, by omega, by omega⟩ (by omega) (by omega) tT332 kk343 hnx347 (Or.inr ⟨rfl, rfl, rfl, by simp [eA309, elA, va_up, upd], by simp [eA309, elA, va_up, upd], fun k z => (z.resolve_left id).1⟩) (by omega) hrr350 hcl348) kw_807 kw_809 sel_Mo_enter kw_8 kw_810 (by decide +kernel) ⟨rfl, rfl⟩ ⟨Nat.le_of_ble_eq_true rfl, Nat.le_of_ble_eq_true rfl⟩ rfl hl.1 (Nat.le_of_ble_eq_true rfl) d_Mo_single_132 ⟨Nat.le_of_ble_eq_true rfl, Nat.le_of_ble_eq_true rfl⟩ (fun mem352 H locs hq hP hS => ?_)
                  have hD : va_D (Az sz) (fw n ad mem352) := fw_D hD
                  obtain ⟨J353, A354, nn355, hW356, hres357⟩ := hq
                  refine lv_goto Bx.1 Bx.2.1 d_Mo_single_135 rfl ?_
                  exact W.vret hx hb hr (fun t ht hW => ⟨⟨mem352, rfl, ⟨J353, A354, nn355, hW356, hres357.res (by omega) (by rw [sing_op hb13 hb54 (by omega) hEl307, eA309])⟩, by show va_P _ _ _ t.heap; rw [ht]; exact hP⟩, hS.F ht⟩) hS.2.2 d_Mo_single_317
                · exact absurd hb346 (by decide)
              · exact absurd hb333 (by decide)
        · have hN358 : ¬ f + 1 ≤ 6 := fun q9 => hb299 (show nI (f + 1) ≤ nI (6) from (nI_leI (by omega) (by omega)).mpr q9)
          refine lv_aload_n Bx.1 Bx.2.1 d_Mo_single_77 rfl (lv_at hl 2 rfl) ?_
          refine lv_iconst (v := 2) Bx.1 Bx.2.1 d_Mo_single_78 (by decide) ?_
          refine lv_iload_n Bx.1 Bx.2.1 d_Mo_single_79 rfl (lv_at hl 1 rfl) ?_
          refine f_callVv (na := 2) (As := [.int (2), .int (nI a)]) (rest := []) Bx hml E hP hD hS (by omega) hM.1 rfl (m_Mo_wrong l hn hM (Or.inl g4) (by first | exact Or.inl rfl | exact Or.inr rfl)) kw_799 kw_801 sel_Mo_wrong kw_8 kw_802 (by decide +kernel) ⟨rfl, rfl⟩ ⟨Nat.le_of_ble_eq_true rfl, Nat.le_of_ble_eq_true rfl⟩ rfl hl.1 (Nat.le_of_ble_eq_true rfl) d_Mo_single_80 ⟨Nat.le_of_ble_eq_true rfl, Nat.le_of_ble_eq_true rfl⟩ (fun mem360 H locs hq hP hS => ?_)
          have hD : va_D (Az sz) (fw n ad mem360) := fw_D hD
          obtain ⟨J361, hW362, hwr363⟩ := hq
          have kk364 : J361 1 = nI L := (show J361 1 = J 1 from hwr363.2 1 (by decide) (by decide)).trans g1
          have kk365 : J361 24 = nI G := (show J361 24 = J 24 from hwr363.2 24 (by decide) (by decide)).trans g2
          have kk366 : J361 16 = nI a := (show J361 16 = J 16 from hwr363.2 16 (by decide) (by decide)).trans g3
          have kk367 : J361 14 = nI u := (show J361 14 = J 14 from hwr363.2 14 (by decide) (by decide)).trans g5
          have kk368 : J361 4 = nI R := (show J361 4 = J 4 from hwr363.2 4 (by decide) (by decide)).trans g6
          have kk369 : J361 7 = nI Ec := (show J361 7 = J 7 from hwr363.2 7 (by decide) (by decide)).trans g7
          have kk370 : J361 18 = nI (f + 1) := (show J361 18 = J 18 from hwr363.2 18 (by decide) (by decide)).trans g8
          have kk371 : J361 28 = 0 := (show J361 28 = J 28 from hwr363.2 28 (by decide) (by decide)).trans hp
          exact W.vret hx hb hr (fun t ht hW => ⟨⟨mem360, rfl, ⟨J361, A, nm, hW362, Or.inl ⟨⟨kk364, kk365, hT, hwr363.1, _, by omega, kk366⟩, sing_o0 hb13 hb54 (by omega)⟩⟩, by show va_P _ _ _ t.heap; rw [ht]; exact hP⟩, hS.F ht⟩) hS.2.2 d_Mo_single_83
  · refine lv_aload_n Bx.1 Bx.2.1 d_Mo_single_17 rfl (lv_at hl 2 rfl) ?_
    refine f_callVi (na := 0) (As := []) (rest := []) Bx hml E hP hD hS (by omega) hM.1 rfl (m_Mo_nameX l hn hM g1 hL g3 (by omega) (Or.inl g4) g6 hRb (by rw [hT]; exact hb13)) kw_789 kw_791 sel_Mo_name kw_8 kw_792 (by decide +kernel) ⟨rfl, rfl⟩ ⟨Nat.le_of_ble_eq_true rfl, Nat.le_of_ble_eq_true rfl⟩ rfl hl.1 (Nat.le_of_ble_eq_true rfl) d_Mo_single_18 ⟨Nat.le_of_ble_eq_true rfl, Nat.le_of_ble_eq_true rfl⟩ (fun r372 mem373 H locs hq hP hS => ?_)
    have hD : va_D (Az sz) (fw n ad mem373) := fw_D hD
    unfold nmX at hq
    rw [hT] at hq
    obtain ⟨a378, ea395⟩ : ∃ z, z = (nmF T L 6 0 a 0).2 := ⟨_, rfl⟩
    rw [← ea395] at hq
    obtain ⟨J374, A375, nn376, hW377, hg379, hg380, kk381, hfm382, hcs383⟩ := hq
    rcases hcs383 with ⟨hsn384, hbad385, hAe386⟩ | ⟨kk387, r388, R389, hsn384, hre390, hr0_391, hR2_392, kk393, hcase394⟩
    · have hT9 : A375 225 = T := by rw [hAe386]; exact hT
      have kk396 : J374 1 = nI L := (show J374 1 = J 1 from hfm382 1 (by decide) (by decide) (by decide) (by decide)).trans g1
      have kk397 : J374 24 = nI G := (show J374 24 = J 24 from hfm382 24 (by decide) (by decide) (by decide) (by decide)).trans g2
      have kk398 : J374 14 = nI u := (show J374 14 = J 14 from hfm382 14 (by decide) (by decide) (by decide) (by decide)).trans g5
      have kk399 : J374 7 = nI Ec := (show J374 7 = J 7 from hfm382 7 (by decide) (by decide) (by decide) (by decide)).trans g7
      have kk400 : J374 18 = nI (f + 1) := (show J374 18 = J 18 from hfm382 18 (by decide) (by decide) (by decide) (by decide)).trans g8
      have kk401 : J374 28 = 0 := (show J374 28 = J 28 from hfm382 28 (by decide) (by decide) (by decide) (by decide)).trans hp
      refine lv_istore_n (lv' := [(3, .int (r372)), (2, .int (hereF L T (a))), (1, .int (nI a)), (0, .ref (ad 224))]) Bx.1 Bx.2.1 d_Mo_single_21 rfl hl (by decide) rfl (fun ls hl => ?_)
      refine lv_aload_n Bx.1 Bx.2.1 d_Mo_single_22 rfl (lv_at hl 3 rfl) ?_
      refine lv_bipush (v := 6) Bx.1 Bx.2.1 d_Mo_single_23 (by decide) ?_
      refine lv_iload_n Bx.1 Bx.2.1 d_Mo_single_25 rfl (lv_at hl 2 rfl) ?_
      refine f_callVi (na := 2) (As := [.int (6), .int (nI a)]) (rest := []) Bx hml E hP hD hS (by omega) hW377.1 rfl (m_Mo_elementX l hn hW377 (Or.inr hbad385) kk399 (by omega)) kw_814 kw_816 sel_Mo_element kw_8 kw_817 (by decide +kernel) ⟨rfl, rfl⟩ ⟨Nat.le_of_ble_eq_true rfl, Nat.le_of_ble_eq_true rfl⟩ rfl hl.1 (Nat.le_of_ble_eq_true rfl) d_Mo_single_26 ⟨Nat.le_of_ble_eq_true rfl, Nat.le_of_ble_eq_true rfl⟩ (fun r402 mem403 H locs hq hP hS => ?_)
      have hD : va_D (Az sz) (fw n ad mem403) := fw_D hD
      rcases hq with ⟨hE411, hre412, J404, hW405, hwr406⟩ | ⟨hEl407, hre413, hW410⟩
      · subst hre412
        have kk414 : J404 1 = nI L := (show J404 1 = J374 1 from hwr406.2 1 (by decide) (by decide)).trans kk396
        have kk415 : J404 24 = nI G := (show J404 24 = J374 24 from hwr406.2 24 (by decide) (by decide)).trans kk397
        have kk416 : J404 14 = nI u := (show J404 14 = J374 14 from hwr406.2 14 (by decide) (by decide)).trans kk398
        have kk417 : J404 7 = nI Ec := (show J404 7 = J374 7 from hwr406.2 7 (by decide) (by decide)).trans kk399
        have kk418 : J404 18 = nI (f + 1) := (show J404 18 = J374 18 from hwr406.2 18 (by decide) (by decide)).trans kk400
        have kk419 : J404 28 = 0 := (show J404 28 = J374 28 from hwr406.2 28 (by decide) (by decide)).trans kk401
        have kk420 : J404 16 = nI a378 := (show J404 16 = J374 16 from hwr406.2 16 (by decide) (by decide)).trans kk381
        refine lv_istore (lv' := [(4, .int (0)), (3, .int (r372)), (2, .int (hereF L T (a))), (1, .int (nI a)), (0, .ref (ad 224))]) Bx.1 Bx.2.1 d_Mo_single_29 hl (by decide) rfl (fun ls hl => ?_)
        refine lv_aload_n Bx.1 Bx.2.1 d_Mo_single_31 rfl (lv_at hl 4 rfl) ?_
        refine f_get Bx hP (by omega) hW405.1 rfl inMo 17 (by decide) kw_673 rfl rfl d_Mo_single_32 ?_
        refine lv_if_le Bx.1 Bx.2.1 d_Mo_single_35 rfl (fun hb421 => ?_) (fun hb421 => ?_)
        · exact absurd hb421 hwr406.1.nle
        · exact W.vret hx hb hr (fun t ht hW => ⟨⟨mem403, rfl, ⟨J404, A375, nn376, hW405, Or.inl ⟨⟨kk414, kk415, hT9, hwr406.1, _, by omega, kk420⟩, sing_n1 hb13 hsn384⟩⟩, by show va_P _ _ _ t.heap; rw [ht]; exact hP⟩, hS.F ht⟩) hS.2.2 d_Mo_single_38
      · subst hre413
        obtain ⟨J408, eJ408⟩ : ∃ z, z = va_up J374 7 (nI (Ec + 1)) := ⟨_, rfl⟩
        obtain ⟨A409, eA409⟩ : ∃ z, z = elA A375 (Ec) 6 := ⟨_, rfl⟩
        rw [← eJ408, ← eA409] at hW410
        have kk422 : J408 1 = nI L := (show J408 1 = J374 1 from by rw [eJ408]; rfl).trans kk396
        have kk423 : J408 24 = nI G := (show J408 24 = J374 24 from by rw [eJ408]; rfl).trans kk397
        have kk424 : J408 14 = nI u := (show J408 14 = J374 14 from by rw [eJ408]; rfl).trans kk398
        have kk425 : J408 18 = nI (f + 1) := (show J408 18 = J374 18 from by rw [eJ408]; rfl).trans kk400
        have kk426 : J408 28 = 0 := (show J408 28 = J374 28 from by rw [eJ408]; rfl).trans kk401
        have kk427 : J408 16 = nI a378 := (show J408 16 = J374 16 from by rw [eJ408]; rfl).trans kk381
        have kk428 : J408 7 = nI (Ec + 1) := by rw [eJ408, va_up_self]
        have bd429 : b12 (J408 17) := by rw [eJ408]; exact hbad385
        have tT430 : A409 225 = T := by rw [eA409]; exact hT9
        refine lv_istore (lv' := [(4, .int (nI Ec)), (3, .int (r372)), (2, .int (hereF L T (a))), (1, .int (nI a)), (0, .ref (ad 224))]) Bx.1 Bx.2.1 d_Mo_single_29 hl (by decide) rfl (fun ls hl => ?_)
        refine lv_aload_n Bx.1 Bx.2.1 d_Mo_single_31 rfl (lv_at hl 4 rfl) ?_
        refine f_get Bx hP (by omega) hW410.1 rfl inMo 17 (by decide) kw_673 rfl rfl d_Mo_single_32 ?_
        refine lv_if_le Bx.1 Bx.2.1 d_Mo_single_35 rfl (fun hb431 => ?_) (fun hb431 => ?_)
        · exact absurd hb431 bd429.nle
        · exact W.vret hx hb hr (fun t ht hW => ⟨⟨mem403, rfl, ⟨J408, A409, nn376, hW410, Or.inl ⟨⟨kk422, kk423, tT430, bd429, _, by omega, kk427⟩, sing_n1 hb13 hsn384⟩⟩, by show va_P _ _ _ t.heap; rw [ht]; exact hP⟩, hS.F ht⟩) hS.2.2 d_Mo_single_38
    · subst hre390
      have hI2 : Inv R389 Ec u f True fc fs ft A375 (fun _ => False) := by
        rcases hcase394 with ⟨q1, q2⟩ | ⟨q1, q2⟩
        · rw [q1, q2]; exact hI
        · rw [q1, q2]; exact hI.rule
      have hT9 : A375 225 = T := by
        rcases hcase394 with ⟨q1, q2⟩ | ⟨q1, q2⟩
        · rw [q2]; exact hT
        · rw [q2]; exact hT
      have hrr9 := (hI2.2.2.2.2 f (Nat.le_refl _)).rep
      have kk432 : J374 1 = nI L := (show J374 1 = J 1 from hfm382 1 (by decide) (by decide) (by decide) (by decide)).trans g1
      have kk433 : J374 24 = nI G := (show J374 24 = J 24 from hfm382 24 (by decide) (by decide) (by decide) (by decide)).trans g2
      have kk434 : J374 14 = nI u := (show J374 14 = J 14 from hfm382 14 (by decide) (by decide) (by decide) (by decide)).trans g5
      have kk435 : J374 7 = nI Ec := (show J374 7 = J 7 from hfm382 7 (by decide) (by decide) (by decide) (by decide)).trans g7
      have kk436 : J374 18 = nI (f + 1) := (show J374 18 = J 18 from hfm382 18 (by decide) (by decide) (by decide) (by decide)).trans g8
      have kk437 : J374 28 = 0 := (show J374 28 = J 28 from hfm382 28 (by decide) (by decide) (by decide) (by decide)).trans hp
      have kk438 : J374 17 = 0 := kk387.trans g4
      refine lv_istore_n (lv' := [(3, .int (nI r388)), (2, .int (hereF L T (a))), (1, .int (nI a)), (0, .ref (ad 224))]) Bx.1 Bx.2.1 d_Mo_single_21 rfl hl (by decide) rfl (fun ls hl => ?_)
      refine lv_aload_n Bx.1 Bx.2.1 d_Mo_single_22 rfl (lv_at hl 3 rfl) ?_
      refine lv_bipush (v := 6) Bx.1 Bx.2.1 d_Mo_single_23 (by decide) ?_
      refine lv_iload_n Bx.1 Bx.2.1 d_Mo_single_25 rfl (lv_at hl 2 rfl) ?_
      refine f_callVi (na := 2) (As := [.int (6), .int (nI a)]) (rest := []) Bx hml E hP hD hS (by omega) hW377.1 rfl (m_Mo_elementX l hn hW377 (Or.inl kk438) kk435 (by omega)) kw_814 kw_816 sel_Mo_element kw_8 kw_817 (by decide +kernel) ⟨rfl, rfl⟩ ⟨Nat.le_of_ble_eq_true rfl, Nat.le_of_ble_eq_true rfl⟩ rfl hl.1 (Nat.le_of_ble_eq_true rfl) d_Mo_single_26 ⟨Nat.le_of_ble_eq_true rfl, Nat.le_of_ble_eq_true rfl⟩ (fun r439 mem440 H locs hq hP hS => ?_)
      have hD : va_D (Az sz) (fw n ad mem440) := fw_D hD
      rcases hq with ⟨hE448, hre449, J441, hW442, hwr443⟩ | ⟨hEl444, hre450, hW447⟩
      · subst hre449
        have kk451 : J441 1 = nI L := (show J441 1 = J374 1 from hwr443.2 1 (by decide) (by decide)).trans kk432
        have kk452 : J441 24 = nI G := (show J441 24 = J374 24 from hwr443.2 24 (by decide) (by decide)).trans kk433
        have kk453 : J441 14 = nI u := (show J441 14 = J374 14 from hwr443.2 14 (by decide) (by decide)).trans kk434
        have kk454 : J441 7 = nI Ec := (show J441 7 = J374 7 from hwr443.2 7 (by decide) (by decide)).trans kk435
        have kk455 : J441 18 = nI (f + 1) := (show J441 18 = J374 18 from hwr443.2 18 (by decide) (by decide)).trans kk436
        have kk456 : J441 28 = 0 := (show J441 28 = J374 28 from hwr443.2 28 (by decide) (by decide)).trans kk437
        have kk457 : J441 16 = nI a378 := (show J441 16 = J374 16 from hwr443.2 16 (by decide) (by decide)).trans kk381
        have kk458 : J441 4 = nI R389 := (show J441 4 = J374 4 from hwr443.2 4 (by decide) (by decide)).trans kk393
        refine lv_istore (lv' := [(4, .int (0)), (3, .int (nI r388)), (2, .int (hereF L T (a))), (1, .int (nI a)), (0, .ref (ad 224))]) Bx.1 Bx.2.1 d_Mo_single_29 hl (by decide) rfl (fun ls hl => ?_)
        refine lv_aload_n Bx.1 Bx.2.1 d_Mo_single_31 rfl (lv_at hl 4 rfl) ?_
        refine f_get Bx hP (by omega) hW442.1 rfl inMo 17 (by decide) kw_673 rfl rfl d_Mo_single_32 ?_
        refine lv_if_le Bx.1 Bx.2.1 d_Mo_single_35 rfl (fun hb459 => ?_) (fun hb459 => ?_)
        · exact absurd hb459 hwr443.1.nle
        · exact W.vret hx hb hr (fun t ht hW => ⟨⟨mem440, rfl, ⟨J441, A375, nn376, hW442, Or.inl ⟨⟨kk451, kk452, hT9, hwr443.1, _, by omega, kk457⟩, sing_n2 hb13 hsn384 hE448⟩⟩, by show va_P _ _ _ t.heap; rw [ht]; exact hP⟩, hS.F ht⟩) hS.2.2 d_Mo_single_38
      · subst hre450
        obtain ⟨J445, eJ445⟩ : ∃ z, z = va_up J374 7 (nI (Ec + 1)) := ⟨_, rfl⟩
        obtain ⟨A446, eA446⟩ : ∃ z, z = elA A375 (Ec) 6 := ⟨_, rfl⟩
        rw [← eJ445, ← eA446] at hW447
        have kk460 : J445 1 = nI L := (show J445 1 = J374 1 from by rw [eJ445]; rfl).trans kk432
        have kk461 : J445 24 = nI G := (show J445 24 = J374 24 from by rw [eJ445]; rfl).trans kk433
        have kk462 : J445 14 = nI u := (show J445 14 = J374 14 from by rw [eJ445]; rfl).trans kk434
        have kk463 : J445 18 = nI (f + 1) := (show J445 18 = J374 18 from by rw [eJ445]; rfl).trans kk436
        have kk464 : J445 28 = 0 := (show J445 28 = J374 28 from by rw [eJ445]; rfl).trans kk437
        have kk465 : J445 17 = 0 := (show J445 17 = J374 17 from by rw [eJ445]; rfl).trans kk438
        have kk466 : J445 16 = nI a378 := (show J445 16 = J374 16 from by rw [eJ445]; rfl).trans kk381
        have kk467 : J445 4 = nI R389 := (show J445 4 = J374 4 from by rw [eJ445]; rfl).trans kk393
        have kk468 : J445 7 = nI (Ec + 1) := by rw [eJ445, va_up_self]
        have tT469 : A446 225 = T := by rw [eA446]; exact hT9
        refine lv_istore (lv' := [(4, .int (nI Ec)), (3, .int (nI r388)), (2, .int (hereF L T (a))), (1, .int (nI a)), (0, .ref (ad 224))]) Bx.1 Bx.2.1 d_Mo_single_29 hl (by decide) rfl (fun ls hl => ?_)
        refine lv_aload_n Bx.1 Bx.2.1 d_Mo_single_31 rfl (lv_at hl 4 rfl) ?_
        refine f_get Bx hP (by omega) hW447.1 rfl inMo 17 (by decide) kw_673 rfl rfl d_Mo_single_32 ?_
        rw [kk465]
        refine lv_if_le Bx.1 Bx.2.1 d_Mo_single_35 rfl (fun hb470 => ?_) (fun hb470 => ?_)
        · refine lv_aload_n Bx.1 Bx.2.1 d_Mo_single_39 rfl (lv_at hl 4 rfl) ?_
          refine f_get Bx hP (by omega) hW447.1 rfl inMo 9 (by decide) kw_665 rfl rfl d_Mo_single_40 ?_
          refine lv_iload Bx.1 Bx.2.1 d_Mo_single_43 (lv_at hl 0 rfl) ?_
          refine lv_iload_n Bx.1 Bx.2.1 d_Mo_single_45 rfl (lv_at hl 1 rfl) ?_
          refine f_iast (x := nI r388) (i := nI (Ec)) Bx hP hD hS (by omega) (show mem440 229 = .inl (cy 1, 100, .inl (A446 229)) from hW447.2.2.1 229 (by decide) (by decide) (by decide)) (vp_in_nI (n := Ec) (by omega) (by decide)) d_Mo_single_46 (fun H locs hP hS => ?_)
          rw [nI_clamp (n := Ec) (by omega)] at hP
          obtain ⟨A471, eA471⟩ : ∃ z, z = va_up A446 229 (upd (A446 229) (Ec) (nI r388)) := ⟨_, rfl⟩
          obtain ⟨mem472, e_mem472⟩ : ∃ z, z = va_up mem440 229 (.inl (cy 1, 100, .inl (upd (A446 229) (Ec) (nI r388)))) := ⟨_, rfl⟩
          have hP : va_P D vcl (fw n ad mem472) H := by rw [e_mem472]; exact hP
          have hD : va_D (Az sz) (fw n ad mem472) := fw_D hD
          have hW473 : MW cy ad J445 A471 nn376 m0 mem472 := by rw [e_mem472, eA471]; exact hW447.upA (j := 229) (by decide) (by decide) (by decide) (Or.inl (by decide))
          have tT474 : A471 225 = T := by rw [eA471]; exact tT469
          refine lv_aload_n Bx.1 Bx.2.1 d_Mo_single_47 rfl (lv_at hl 4 rfl) ?_
          refine lv_iload Bx.1 Bx.2.1 d_Mo_single_48 (lv_at hl 0 rfl) ?_
          have hkd477 : A471 228 (Ec) = 6 := by simp [eA446, eA471, elA, va_up, upd]
          obtain ⟨hnx475, hcl476⟩ := hI2.ext (A' := A471) ⟨fun j h1 h2 h3 k hk => by
              have hj : j = 228 ∨ j = 229 ∨ j = 230 ∨ j = 232 ∨ j = 233 := by omega
              rcases hj with rfl | rfl | rfl | rfl | rfl <;> simp [eA446, eA471, elA, va_up, upd, Nat.ne_of_lt hk], by simp [eA446, eA471, elA, va_up], fun j h1 h2 => by
              have hj : j = 235 ∨ j = 236 ∨ j = 237 ∨ j = 238 ∨ j = 239 := by omega
              rcases hj with rfl | rfl | rfl | rfl | rfl <;> simp [eA446, eA471, elA, va_up], by simp [eA446, eA471, elA, va_up, upd], by simp [eA446, eA471, elA, va_up, upd]⟩ (Nat.le_refl u) (fun _ => ⟨r388, hr0_391, by simp [eA446, eA471, elA, va_up, upd]⟩) (fun z => absurd (hkd477.symm.trans z) (by decide)) (fun k z => z.elim)
          have hnx478 := hnx475.wk (X' := fun _ => False) (fun k z => z.elim id (fun y => absurd (y.2) (by rw [hkd477]; decide)))
          have hrr479 : A471 239 f = -1 ∨ ∃ r, A471 239 f = nI r ∧ fs f < r ∧ r < Ec := by rw [show A471 239 = A375 239 by simp [eA446, eA471, elA, va_up]]; exact hrr9
          refine f_callVv (na := 1) (As := [.int (nI Ec)]) (rest := []) Bx hml E hP hD hS (by omega) hW473.1 rfl (m_Mo_placedX l hn hW473 (e9 := Ec) kk463 (by omega) (by omega) hnx478 (by omega) (by omega) hrr479 hcl476) kw_834 kw_836 sel_Mo_placed kw_8 kw_837 (by decide +kernel) ⟨rfl, rfl⟩ ⟨Nat.le_of_ble_eq_true rfl, Nat.le_of_ble_eq_true rfl⟩ rfl hl.1 (Nat.le_of_ble_eq_true rfl) d_Mo_single_50 ⟨Nat.le_of_ble_eq_true rfl, Nat.le_of_ble_eq_true rfl⟩ (fun mem481 H locs hq hP hS => ?_)
          have hD : va_D (Az sz) (fw n ad mem481) := fw_D hD
          obtain ⟨hW483, hinv484, h39485, hj486⟩ := hq
          obtain ⟨A482, eA482⟩ : ∃ z, z = plcS A471 (f) (Ec) := ⟨_, rfl⟩
          rw [← eA482] at hW483 hinv484 h39485 hj486
          have tT487 : A482 225 = T := (hj486 225 (by decide) (by decide) (by decide)).trans tT474
          refine lv_goto Bx.1 Bx.2.1 d_Mo_single_53 rfl ?_
          exact W.vret hx hb hr (fun t ht hW => ⟨⟨mem481, rfl, ⟨J445, A482, nn376, hW483, Or.inr ⟨a378, u, R389, Ec + 1, f, false, by omega, by rw [sing_n3 hb13 hsn384 hEl444, eA482, eA471, eA446], ⟨kk460, kk461, kk466, kk465, kk462, kk467, kk468, kk463⟩, ⟨by omega, by omega, by omega, by omega, by omega, by omega⟩, tT487, kk464, fc, fs, ft, hinv484.qT, h39485⟩⟩, by show va_P _ _ _ t.heap; rw [ht]; exact hP⟩, hS.F ht⟩) hS.2.2 d_Mo_single_317
        · exact absurd hb470 (by decide)
