theorem rule_n {T : Nat → Int32} {L a u R E : Nat} {A : Ro} {nm : Nat → Int64} (h : nameS T L a R A nm = none) : ruleS T L a u R E A nm = none := by unfold ruleS; rw [h]
theorem rule_e {T : Nat → Int32} {L a u R E : Nat} {A : Ro} {nm : Nat → Int64} {r a1 R1 : Nat} {A1 : Ro} {nm1 : Nat → Int64} (hn : nameS T L a R A nm = some (r, a1, R1, A1, nm1)) (h : ¬ hereF L T (gapF T L a1) = 61) : ruleS T L a u R E A nm = none := by
  unfold ruleS
  rw [hn]
  simp only []
  rw [if_neg h]
theorem rule_t {T : Nat → Int32} {L a u R E : Nat} {A : Ro} {nm : Nat → Int64} {r a1 R1 : Nat} {A1 : Ro} {nm1 : Nat → Int64} (hn : nameS T L a R A nm = some (r, a1, R1, A1, nm1)) (h : hereF L T (gapF T L a1) = 61) (h2 : ¬ (hereF L T (gapF T L a1 + 1) = 47 ↔ ¬ A1 227 r < 0)) : ruleS T L a u R E A nm = none := by
  unfold ruleS
  rw [hn]
  simp only []
  rw [if_pos h, if_neg h2]
theorem rule_s {T : Nat → Int32} {L a u R E : Nat} {A : Ro} {nm : Nat → Int64} {r a1 R1 : Nat} {A1 : Ro} {nm1 : Nat → Int64} (hn : nameS T L a R A nm = some (r, a1, R1, A1, nm1)) (h : hereF L T (gapF T L a1) = 61) (h2 : ¬ hereF L T (gapF T L a1 + 1) = 47) (h3 : A1 227 r < 0) : ruleS T L a u R E A nm = ent0S T L (gapF T L a1 + 1) u R1 E r A1 nm1 := by
  unfold ruleS
  rw [hn]
  simp only []
  rw [if_pos h, if_pos ⟨fun z => absurd z h2, fun z => absurd h3 z⟩, if_neg h2]
theorem rule_m {T : Nat → Int32} {L a u R E : Nat} {A : Ro} {nm : Nat → Int64} {r a1 R1 : Nat} {A1 : Ro} {nm1 : Nat → Int64} (hn : nameS T L a R A nm = some (r, a1, R1, A1, nm1)) (h : hereF L T (gapF T L a1) = 61) (h2 : hereF L T (gapF T L a1 + 1) = 47) (h3 : ¬ A1 227 r < 0) : ruleS T L a u R E A nm = ent0S T L (gapF T L a1 + 1 + 1) u R1 E r A1 nm1 := by
  unfold ruleS
  rw [hn]
  simp only []
  rw [if_pos h, if_pos ⟨fun _ => h3, fun _ => h2⟩, if_pos h2]
set_option maxHeartbeats 4000000 in
set_option maxRecDepth 100000 in
theorem m_Mo_readRuleX (l : Launch) {D : va_G} {cy : Nat → ClassId} {sz n : Nat} {ad : Nat → Nat} {mem : Nat → va_E} {J : Nat → Int32} {A : Nat → Nat → Int32} {nm : Nat → Int64} {m0 : Nat → va_E} {L G a u R Ec : Nat} {T : Nat → Int32} (hn : 242 ≤ n) (hM : MW cy ad J A nm m0 mem) (h1 : J 1 = nI L) (h24 : J 24 = nI G) (h16 : J 16 = nI a) (h17 : J 17 = 0) (h14 : J 14 = nI u) (h4 : J 4 = nI R) (h7 : J 7 = nI Ec) (hBd : L ≤ 240 ∧ a ≤ L ∧ u ≤ a ∧ R ≤ 12 ∧ Ec ≤ 100) (hT : A 225 = T) (hG : Gd R Ec u A) (hlet : ltF (hereF L T a) ≠ 0) : MV l D cy sz n ad y_Mo_readRule c_Mo_readRule 5 ({ frames := 9, cells := 0, slots := 0, locals := 260 } : Room) mem [.ref (ad 224)] (fun mem' => ∃ J' A' nm', MW cy ad J' A' nm' m0 mem' ∧ ((BAD L G T J' A' ∧ RuleR T L a u R Ec A nm none) ∨ ∃ a' u' R' E' f', a < a' ∧ RuleR T L a u R Ec A nm (some (a', u', R', E', f', A', nm', false)) ∧ FinN L G T a' u' R' E' J' A')) := by
  refine Met.ofW (cc := c_Mo_readRule) (maxL := 5) (ret := none) (by decide) rfl ?_
  intro p e s m args below meth c s₁ B hml hv
  obtain ⟨rfl, E, hP, hD⟩ := hv
  have hx := B.exec
  have hb := B.bytes
  have hr := B.returns
  have hlocks := B.notSynchronized
  have Bx : MB p s m [.ref (ad 224)].toArray c c_Mo_readRule "AbnfChartModel" D cy := ⟨hx, hb, tb_all (atoms_spec B.pre) E.2.1, findClass_of_methodNamed B.named, E.1⟩
  have hS : va_S (Az sz) s.heap s.heap [] := va_S.rf
  have hl := lv_entry ([.ref (ad 224)]) (n := 5) (Nat.le_of_ble_eq_true rfl)
  rw [lg_entry_eq]
  generalize (lg_sl ([.ref (ad 224)]) ++ List.replicate (5 - (lg_sl ([.ref (ad 224)])).length) Slot.unset).toArray = ls at hl ⊢
  have hl : lv_has ls 5 [(0, .ref (ad 224))] := hl
  obtain ⟨hL, haL, huA, hRb, hEb⟩ := hBd
  refine lv_aload_n Bx.1 Bx.2.1 d_Mo_readRule_0 rfl (lv_at hl 0 rfl) ?_
  refine f_get Bx hP (by omega) hM.1 rfl inMo 16 (by decide) kw_672 rfl rfl d_Mo_readRule_1 ?_
  rw [h16]
  refine lv_istore_n (lv' := [(1, .int (nI a)), (0, .ref (ad 224))]) Bx.1 Bx.2.1 d_Mo_readRule_4 rfl hl (by decide) rfl (fun ls hl => ?_)
  refine lv_aload_n Bx.1 Bx.2.1 d_Mo_readRule_5 rfl (lv_at hl 1 rfl) ?_
  refine f_callVi (na := 0) (As := []) (rest := []) Bx hml E hP hD hS (by omega) hM.1 rfl (m_Mo_nameX l hn hM h1 hL h16 (by omega) (Or.inl h17) h4 hRb (by rw [hT]; exact hlet)) kw_789 kw_791 sel_Mo_name kw_8 kw_792 (by decide +kernel) ⟨rfl, rfl⟩ ⟨Nat.le_of_ble_eq_true rfl, Nat.le_of_ble_eq_true rfl⟩ rfl hl.1 (Nat.le_of_ble_eq_true rfl) d_Mo_readRule_6 ⟨Nat.le_of_ble_eq_true rfl, Nat.le_of_ble_eq_true rfl⟩ (fun r1 mem2 H locs hq hP hS => ?_)
  have hD : va_D (Az sz) (fw n ad mem2) := fw_D hD
  unfold nmX at hq
  rw [hT] at hq
  obtain ⟨a7, ea24⟩ : ∃ z, z = (nmF T L 6 0 a 0).2 := ⟨_, rfl⟩
  rw [← ea24] at hq
  obtain ⟨J3, A4, nn5, hW6, hg8, hg9, kk10, hfm11, hcs12⟩ := hq
  rcases hcs12 with ⟨hsn13, hbad14, hAe15⟩ | ⟨kk16, r17, R18, hsn13, hre19, hr0_20, hR2_21, kk22, hcase23⟩
  · have hT9 : A4 225 = T := by rw [hAe15]; exact hT
    have kk25 : J3 1 = nI L := (show J3 1 = J 1 from hfm11 1 (by decide) (by decide) (by decide) (by decide)).trans h1
    have kk26 : J3 24 = nI G := (show J3 24 = J 24 from hfm11 24 (by decide) (by decide) (by decide) (by decide)).trans h24
    have kk27 : J3 14 = nI u := (show J3 14 = J 14 from hfm11 14 (by decide) (by decide) (by decide) (by decide)).trans h14
    have kk28 : J3 7 = nI Ec := (show J3 7 = J 7 from hfm11 7 (by decide) (by decide) (by decide) (by decide)).trans h7
    refine lv_istore_n (lv' := [(2, .int (r1)), (1, .int (nI a)), (0, .ref (ad 224))]) Bx.1 Bx.2.1 d_Mo_readRule_9 rfl hl (by decide) rfl (fun ls hl => ?_)
    refine lv_aload_n Bx.1 Bx.2.1 d_Mo_readRule_10 rfl (lv_at hl 2 rfl) ?_
    refine f_get Bx hP (by omega) hW6.1 rfl inMo 17 (by decide) kw_673 rfl rfl d_Mo_readRule_11 ?_
    refine lv_if_le Bx.1 Bx.2.1 d_Mo_readRule_14 rfl (fun hb29 => ?_) (fun hb29 => ?_)
    · exact absurd hb29 hbad14.nle
    · exact W.vret hx hb hr (fun t ht hW => ⟨⟨mem2, rfl, ⟨J3, A4, nn5, hW6, Or.inl ⟨⟨kk25, kk26, hT9, hbad14, _, by omega, kk10⟩, Or.inl ⟨rule_n hsn13, rfl⟩⟩⟩, by show va_P _ _ _ t.heap; rw [ht]; exact hP⟩, hS.F ht⟩) hS.2.2 d_Mo_readRule_17
  · subst hre19
    have hG2 : Gd R18 Ec u A4 := by
      rcases hcase23 with ⟨q1, q2⟩ | ⟨q1, q2⟩
      · rw [q1, q2]; exact hG
      · rw [q1, q2]; exact hG.rule
    have hT9 : A4 225 = T := by
      rcases hcase23 with ⟨q1, q2⟩ | ⟨q1, q2⟩
      · rw [q2]; exact hT
      · rw [q2]; exact hT
    have kk30 : J3 1 = nI L := (show J3 1 = J 1 from hfm11 1 (by decide) (by decide) (by decide) (by decide)).trans h1
    have kk31 : J3 24 = nI G := (show J3 24 = J 24 from hfm11 24 (by decide) (by decide) (by decide) (by decide)).trans h24
    have kk32 : J3 14 = nI u := (show J3 14 = J 14 from hfm11 14 (by decide) (by decide) (by decide) (by decide)).trans h14
    have kk33 : J3 7 = nI Ec := (show J3 7 = J 7 from hfm11 7 (by decide) (by decide) (by decide) (by decide)).trans h7
    have kk34 : J3 17 = 0 := kk16.trans h17
    refine lv_istore_n (lv' := [(2, .int (nI r17)), (1, .int (nI a)), (0, .ref (ad 224))]) Bx.1 Bx.2.1 d_Mo_readRule_9 rfl hl (by decide) rfl (fun ls hl => ?_)
    refine lv_aload_n Bx.1 Bx.2.1 d_Mo_readRule_10 rfl (lv_at hl 2 rfl) ?_
    refine f_get Bx hP (by omega) hW6.1 rfl inMo 17 (by decide) kw_673 rfl rfl d_Mo_readRule_11 ?_
    rw [kk34]
    refine lv_if_le Bx.1 Bx.2.1 d_Mo_readRule_14 rfl (fun hb35 => ?_) (fun hb35 => ?_)
    · refine lv_aload_n Bx.1 Bx.2.1 d_Mo_readRule_18 rfl (lv_at hl 2 rfl) ?_
      refine f_callVv (na := 0) (As := []) (rest := []) Bx hml E hP hD hS (by omega) hW6.1 rfl (m_Mo_gapX l hn hW6 kk30 hL kk10 (by omega)) kw_803 kw_805 sel_Mo_gap kw_8 kw_806 (by decide +kernel) ⟨rfl, rfl⟩ ⟨Nat.le_of_ble_eq_true rfl, Nat.le_of_ble_eq_true rfl⟩ rfl hl.1 (Nat.le_of_ble_eq_true rfl) d_Mo_readRule_19 ⟨Nat.le_of_ble_eq_true rfl, Nat.le_of_ble_eq_true rfl⟩ (fun mem37 H locs hq hP hS => ?_)
      have hD : va_D (Az sz) (fw n ad mem37) := fw_D hD
      rw [hT9] at hq
      obtain ⟨a38, ea43⟩ : ∃ z, z = gapF T L (a7) := ⟨_, rfl⟩
      have hg39 : a7 ≤ a38 := by rw [ea43]; exact gapF_ge T L _
      have hg40 : a38 ≤ L := by rw [ea43]; exact gapF_le T (by omega)
      rw [← ea43] at hq
      obtain ⟨J42, eJ42⟩ : ∃ z, z = va_up J3 16 (nI a38) := ⟨_, rfl⟩
      rw [← eJ42] at hq
      have hW41 := hq
      have kk44 : J42 1 = nI L := (show J42 1 = J3 1 from by rw [eJ42]; rfl).trans kk30
      have kk45 : J42 24 = nI G := (show J42 24 = J3 24 from by rw [eJ42]; rfl).trans kk31
      have kk46 : J42 14 = nI u := (show J42 14 = J3 14 from by rw [eJ42]; rfl).trans kk32
      have kk47 : J42 7 = nI Ec := (show J42 7 = J3 7 from by rw [eJ42]; rfl).trans kk33
      have kk48 : J42 17 = 0 := (show J42 17 = J3 17 from by rw [eJ42]; rfl).trans kk34
      have kk49 : J42 4 = nI R18 := (show J42 4 = J3 4 from by rw [eJ42]; rfl).trans kk22
      have kk50 : J42 16 = nI a38 := by rw [eJ42, va_up_self]
      refine lv_aload_n Bx.1 Bx.2.1 d_Mo_readRule_22 rfl (lv_at hl 2 rfl) ?_
      refine f_callVi (na := 0) (As := []) (rest := []) Bx hml E hP hD hS (by omega) hW41.1 rfl (m_Mo_here l hn hW41 kk44 hL kk50 (by omega)) kw_778 kw_780 sel_Mo_here kw_8 kw_781 (by decide +kernel) ⟨rfl, rfl⟩ ⟨Nat.le_of_ble_eq_true rfl, Nat.le_of_ble_eq_true rfl⟩ rfl hl.1 (Nat.le_of_ble_eq_true rfl) d_Mo_readRule_23 ⟨Nat.le_of_ble_eq_true rfl, Nat.le_of_ble_eq_true rfl⟩ (fun r51 mem52 H locs hq hP hS => ?_)
      have hD : va_D (Az sz) (fw n ad mem52) := fw_D hD
      obtain ⟨hre, hq⟩ := hq
      rw [hq] at hP hD
      subst hre
      rw [show hereF L (A4 225) (a38) = hereF L T (a38) by rw [hT9]]
      refine lv_bipush (v := 61) Bx.1 Bx.2.1 d_Mo_readRule_26 (by decide) ?_
      refine lv_icmp_eq Bx.1 Bx.2.1 d_Mo_readRule_28 rfl (fun hb53 => ?_) (fun hb53 => ?_)
      · have hlt54 := hereF_lt (by rw [hb53]; decide)
        refine lv_aload_n Bx.1 Bx.2.1 d_Mo_readRule_41 rfl (lv_at hl 2 rfl) ?_
        refine lv_dup Bx.1 Bx.2.1 d_Mo_readRule_42 rfl ?_
        refine f_get Bx hP (by omega) hW41.1 rfl inMo 16 (by decide) kw_672 rfl rfl d_Mo_readRule_43 ?_
        rw [kk50]
        refine lv_iconst (v := 1) Bx.1 Bx.2.1 d_Mo_readRule_46 (by decide) ?_
        refine lv_iadd Bx.1 Bx.2.1 d_Mo_readRule_47 ?_
        rw [show nI a38 + 1 = nI (a38 + 1) from nI_add (a38) (1)]
        refine f_put Bx hP hD hS (by omega) hW41.1 rfl inMo tyMo okMo nmMo 16 (by decide) kw_672 rfl rfl rfl rfl (Nat.le_of_ble_eq_true rfl) d_Mo_readRule_48 (fun H locs hP hS => ?_)
        obtain ⟨J55, eJ55⟩ : ∃ z, z = va_up J42 16 (nI (a38 + 1)) := ⟨_, rfl⟩
        obtain ⟨mem56, e_mem56⟩ : ∃ z, z = va_up mem37 224 (moC ad J55) := ⟨_, rfl⟩
        have hP : va_P D vcl (fw n ad mem56) H := by rw [e_mem56, eJ55]; exact hP
        have hD : va_D (Az sz) (fw n ad mem56) := fw_D hD
        have hW57 : MW cy ad J55 A4 nn5 m0 mem56 := by rw [e_mem56]; exact hW41.upJ (by rw [eJ55]; exact va_up_ne _ _ (by decide))
        have kk58 : J55 1 = nI L := by rw [eJ55]; exact kk44
        have kk59 : J55 24 = nI G := by rw [eJ55]; exact kk45
        have kk60 : J55 14 = nI u := by rw [eJ55]; exact kk46
        have kk61 : J55 7 = nI Ec := by rw [eJ55]; exact kk47
        have kk62 : J55 17 = 0 := by rw [eJ55]; exact kk48
        have kk63 : J55 4 = nI R18 := by rw [eJ55]; exact kk49
        have kk64 : J55 16 = nI (a38 + 1) := by rw [eJ55, va_up_self]
        refine lv_aload_n Bx.1 Bx.2.1 d_Mo_readRule_51 rfl (lv_at hl 2 rfl) ?_
        refine f_callVi (na := 0) (As := []) (rest := []) Bx hml E hP hD hS (by omega) hW57.1 rfl (m_Mo_here l hn hW57 kk58 hL kk64 (by omega)) kw_778 kw_780 sel_Mo_here kw_8 kw_781 (by decide +kernel) ⟨rfl, rfl⟩ ⟨Nat.le_of_ble_eq_true rfl, Nat.le_of_ble_eq_true rfl⟩ rfl hl.1 (Nat.le_of_ble_eq_true rfl) d_Mo_readRule_52 ⟨Nat.le_of_ble_eq_true rfl, Nat.le_of_ble_eq_true rfl⟩ (fun r65 mem66 H locs hq hP hS => ?_)
        have hD : va_D (Az sz) (fw n ad mem66) := fw_D hD
        obtain ⟨hre, hq⟩ := hq
        rw [hq] at hP hD
        subst hre
        rw [show hereF L (A4 225) (a38 + 1) = hereF L T (a38 + 1) by rw [hT9]]
        refine lv_bipush (v := 47) Bx.1 Bx.2.1 d_Mo_readRule_55 (by decide) ?_
        refine lv_icmp_ne Bx.1 Bx.2.1 d_Mo_readRule_57 rfl (fun hb67 => ?_) (fun hb67 => ?_)
        · refine lv_iconst (v := 0) Bx.1 Bx.2.1 d_Mo_readRule_64 (by decide) ?_
          refine lv_istore_n (lv' := [(3, .int (0)), (2, .int (nI r17)), (1, .int (nI a)), (0, .ref (ad 224))]) Bx.1 Bx.2.1 d_Mo_readRule_65 rfl hl (by decide) rfl (fun ls hl => ?_)
          refine lv_aload_n Bx.1 Bx.2.1 d_Mo_readRule_66 rfl (lv_at hl 3 rfl) ?_
          refine lv_dup Bx.1 Bx.2.1 d_Mo_readRule_67 rfl ?_
          refine f_get Bx hP (by omega) hW57.1 rfl inMo 16 (by decide) kw_672 rfl rfl d_Mo_readRule_68 ?_
          rw [kk64]
          refine lv_iload_n Bx.1 Bx.2.1 d_Mo_readRule_71 rfl (lv_at hl 0 rfl) ?_
          refine lv_if_eq Bx.1 Bx.2.1 d_Mo_readRule_72 rfl (fun hb68 => ?_) (fun hb68 => ?_)
          · refine lv_iconst (v := 0) Bx.1 Bx.2.1 d_Mo_readRule_79 (by decide) ?_
            refine lv_iadd Bx.1 Bx.2.1 d_Mo_readRule_80 ?_
            rw [show nI (a38 + 1) + 0 = nI (a38 + 1 + 0) from nI_add (a38 + 1) (0)]
            refine f_put Bx hP hD hS (by omega) hW57.1 rfl inMo tyMo okMo nmMo 16 (by decide) kw_672 rfl rfl rfl rfl (Nat.le_of_ble_eq_true rfl) d_Mo_readRule_81 (fun H locs hP hS => ?_)
            obtain ⟨J69, eJ69⟩ : ∃ z, z = va_up J55 16 (nI (a38 + 1 + 0)) := ⟨_, rfl⟩
            obtain ⟨mem70, e_mem70⟩ : ∃ z, z = va_up mem56 224 (moC ad J69) := ⟨_, rfl⟩
            have hP : va_P D vcl (fw n ad mem70) H := by rw [e_mem70, eJ69]; exact hP
            have hD : va_D (Az sz) (fw n ad mem70) := fw_D hD
            have hW71 : MW cy ad J69 A4 nn5 m0 mem70 := by rw [e_mem70]; exact hW57.upJ (by rw [eJ69]; exact va_up_ne _ _ (by decide))
            have kk72 : J69 1 = nI L := by rw [eJ69]; exact kk58
            have kk73 : J69 24 = nI G := by rw [eJ69]; exact kk59
            have kk74 : J69 14 = nI u := by rw [eJ69]; exact kk60
            have kk75 : J69 7 = nI Ec := by rw [eJ69]; exact kk61
            have kk76 : J69 17 = 0 := by rw [eJ69]; exact kk62
            have kk77 : J69 4 = nI R18 := by rw [eJ69]; exact kk63
            have kk78 : J69 16 = nI (a38 + 1 + 0) := by rw [eJ69, va_up_self]
            refine lv_iload_n Bx.1 Bx.2.1 d_Mo_readRule_84 rfl (lv_at hl 0 rfl) ?_
            refine lv_aload_n Bx.1 Bx.2.1 d_Mo_readRule_85 rfl (lv_at hl 3 rfl) ?_
            refine f_get Bx hP (by omega) hW71.1 rfl inMo 6 (by decide) kw_662 rfl rfl d_Mo_readRule_86 ?_
            refine lv_iload_n Bx.1 Bx.2.1 d_Mo_readRule_89 rfl (lv_at hl 1 rfl) ?_
            refine f_iald Bx hP (by omega) (show mem70 227 = .inl (cy 1, 12, .inl (A4 227)) from hW71.2.2.1 227 (by decide) (by decide) (by decide)) (vp_in_nI (n := r17) (by omega) (by decide)) d_Mo_readRule_90 ?_
            rw [nI_clamp (n := r17) (by omega)]
            refine lv_if_lt Bx.1 Bx.2.1 d_Mo_readRule_91 rfl (fun hb79 => ?_) (fun hb79 => ?_)
            · refine lv_iconst (v := 0) Bx.1 Bx.2.1 d_Mo_readRule_98 (by decide) ?_
              refine lv_icmp_eq Bx.1 Bx.2.1 d_Mo_readRule_99 rfl (fun hb80 => ?_) (fun hb80 => ?_)
              · refine lv_aload_n Bx.1 Bx.2.1 d_Mo_readRule_108 rfl (lv_at hl 3 rfl) ?_
                refine f_get Bx hP (by omega) hW71.1 rfl inMo 17 (by decide) kw_673 rfl rfl d_Mo_readRule_109 ?_
                rw [kk76]
                refine lv_if_le Bx.1 Bx.2.1 d_Mo_readRule_112 rfl (fun hb81 => ?_) (fun hb81 => ?_)
                · refine lv_aload_n Bx.1 Bx.2.1 d_Mo_readRule_116 rfl (lv_at hl 3 rfl) ?_
                  refine lv_iconst (v := 0) Bx.1 Bx.2.1 d_Mo_readRule_117 (by decide) ?_
                  refine f_put Bx hP hD hS (by omega) hW71.1 rfl inMo tyMo okMo nmMo 18 (by decide) kw_674 rfl rfl rfl rfl (Nat.le_of_ble_eq_true rfl) d_Mo_readRule_118 (fun H locs hP hS => ?_)
                  obtain ⟨J82, eJ82⟩ : ∃ z, z = va_up J69 18 (0) := ⟨_, rfl⟩
                  obtain ⟨mem83, e_mem83⟩ : ∃ z, z = va_up mem70 224 (moC ad J82) := ⟨_, rfl⟩
                  have hP : va_P D vcl (fw n ad mem83) H := by rw [e_mem83, eJ82]; exact hP
                  have hD : va_D (Az sz) (fw n ad mem83) := fw_D hD
                  have hW84 : MW cy ad J82 A4 nn5 m0 mem83 := by rw [e_mem83]; exact hW71.upJ (by rw [eJ82]; exact va_up_ne _ _ (by decide))
                  have kk85 : J82 1 = nI L := by rw [eJ82]; exact kk72
                  have kk86 : J82 24 = nI G := by rw [eJ82]; exact kk73
                  have kk87 : J82 14 = nI u := by rw [eJ82]; exact kk74
                  have kk88 : J82 7 = nI Ec := by rw [eJ82]; exact kk75
                  have kk89 : J82 17 = 0 := by rw [eJ82]; exact kk76
                  have kk90 : J82 4 = nI R18 := by rw [eJ82]; exact kk77
                  have kk91 : J82 16 = nI (a38 + 1 + 0) := by rw [eJ82]; exact kk78
                  have kk92 : J82 18 = 0 := by rw [eJ82, va_up_self]
                  refine lv_aload_n Bx.1 Bx.2.1 d_Mo_readRule_121 rfl (lv_at hl 3 rfl) ?_
                  refine lv_iconst (v := 0) Bx.1 Bx.2.1 d_Mo_readRule_122 (by decide) ?_
                  refine lv_iload_n Bx.1 Bx.2.1 d_Mo_readRule_123 rfl (lv_at hl 1 rfl) ?_
                  have hrs : ruleS T L a u R Ec A nm = ent0S T L (a38 + 1 + 0) u R18 Ec r17 A4 nn5 := by rw [rule_s hsn13 (by rw [← ea43]; exact hb53) (by rw [← ea43]; exact hb67) hb79, ← ea43]
                  refine f_callVv (na := 2) (As := [.int (0), .int (nI r17)]) (rest := []) Bx hml E hP hD hS (by omega) hW84.1 rfl (m_Mo_enter0X l hn hW84 kk85 kk86 kk91 kk89 kk87 kk90 kk88 kk92 ⟨hL, by omega, by omega, by omega, by omega⟩ hT9 hG2 hr0_20) kw_807 kw_809 sel_Mo_enter kw_8 kw_810 (by decide +kernel) ⟨rfl, rfl⟩ ⟨Nat.le_of_ble_eq_true rfl, Nat.le_of_ble_eq_true rfl⟩ rfl hl.1 (Nat.le_of_ble_eq_true rfl) d_Mo_readRule_124 ⟨Nat.le_of_ble_eq_true rfl, Nat.le_of_ble_eq_true rfl⟩ (fun mem94 H locs hq hP hS => ?_)
                  have hD : va_D (Az sz) (fw n ad mem94) := fw_D hD
                  obtain ⟨J95, A96, nn97, hW98, hres99⟩ := hq
                  rw [← hrs] at hres99
                  rcases hres99 with ⟨hb6, hs6⟩ | ⟨a6, u6, R6, E6, f6, pe6, h6, hs6, hst6⟩
                  · obtain ⟨g100, g101, g102, g103, g104, g105, g106⟩ := hb6
                    refine lv_iconst (v := 1) Bx.1 Bx.2.1 d_Mo_readRule_127 (by decide) ?_
                    refine lv_istore (lv' := [(4, .int (1)), (3, .int (0)), (2, .int (nI r17)), (1, .int (nI a)), (0, .ref (ad 224))]) Bx.1 Bx.2.1 d_Mo_readRule_128 hl (by decide) rfl (fun ls hl => ?_)
                    refine lv_aload_n Bx.1 Bx.2.1 d_Mo_readRule_130 rfl (lv_at hl 4 rfl) ?_
                    refine f_get Bx hP (by omega) hW98.1 rfl inMo 17 (by decide) kw_673 rfl rfl d_Mo_readRule_131 ?_
                    refine lv_if_ne Bx.1 Bx.2.1 d_Mo_readRule_134 rfl (fun hb107 => ?_) (fun hb107 => ?_)
                    · exact W.vret hx hb hr (fun t ht hW => ⟨⟨mem94, rfl, ⟨J95, A96, nn97, hW98, Or.inl ⟨⟨g100, g101, g102, g103, _, by omega, g106⟩, Or.inl ⟨hs6, rfl⟩⟩⟩, by show va_P _ _ _ t.heap; rw [ht]; exact hP⟩, hS.F ht⟩) hS.2.2 d_Mo_readRule_170
                    · exact absurd hb107 g103.ne
                  · refine lv_iconst (v := 1) Bx.1 Bx.2.1 d_Mo_readRule_127 (by decide) ?_
                    refine lv_istore (lv' := [(4, .int (1)), (3, .int (0)), (2, .int (nI r17)), (1, .int (nI a)), (0, .ref (ad 224))]) Bx.1 Bx.2.1 d_Mo_readRule_128 hl (by decide) rfl (fun ls hl => ?_)
                    have loop108 : ∀ (d109 : Nat) (mem9 : Nat → va_E) (J9 : Nat → Int32) (A9 : Nat → Nat → Int32) (n9 : Nat → Int64) (a1 : Nat) (u1 : Nat) (R1 : Nat) (E1 : Nat) (f1 : Nat) (pe : Bool) (ls : Array Slot) (H : Heap) (locs : List Loc), ((L + 1 - a1) < d109) → (MW cy ad J9 A9 n9 m0 mem9) → (St9 L G T a1 u1 R1 E1 f1 pe J9 A9) → (Goes9 T L (a6, u6, R6, E6, f6, A96, nn97, pe6) (a1, u1, R1, E1, f1, A9, n9, pe)) → (a < a1) → (va_P D vcl (fw n ad mem9) H) → (va_D (Az sz) (fw n ad mem9)) → (va_S (Az sz) s.heap H locs) → (lv_has ls 5 [(4, .int (1)), (2, .int (nI r17)), (1, .int (nI a)), (0, .ref (ad 224))]) → W p l e (headSpec (Cond.code y_Mo_readRule c_Mo_readRule 5 none :: tg) ({ frames := 9, cells := 0, slots := 0, locals := 260 } : Room)).room s m [.ref (ad 224)].toArray below meth c H locs 0 0 (MQ below (va_Qv (fun mem' => ∃ J' A' nm', MW cy ad J' A' nm' m0 mem' ∧ ((BAD L G T J' A' ∧ RuleR T L a u R Ec A nm none) ∨ ∃ a' u' R' E' f', a < a' ∧ RuleR T L a u R Ec A nm (some (a', u', R', E', f', A', nm', false)) ∧ FinN L G T a' u' R' E' J' A')) (PP D n ad) (Az sz)) [.ref (ad 224)].toArray s 0 0 (Az sz)) (F0 m 130 ls []) := by
                      intro d109
                      induction d109 with
                      | zero => intro mem9 J9 A9 n9 a1 u1 R1 E1 f1 pe ls H locs hmeas115; exact absurd hmeas115 (Nat.not_lt_zero _)
                      | succ d109 ih114 =>
                        intro mem9 J9 A9 n9 a1 u1 R1 E1 f1 pe ls H locs hmeas115 hz110 hz111 hz112 hz113 hP hD hS hl
                        obtain ⟨hN1, hB1, hT1, hpe, c1, s1, t1, hI1, h91⟩ := hz111
                        obtain ⟨-, b2, b3, b4, b5, b6⟩ := hB1
                        have hgo1 := hz112
                        obtain ⟨g116, g117, g118, g119, g120, g121, g122, g123⟩ := hN1
                        cases pe with
                        | false =>
                          have hpe : J9 28 = 0 := hpe
                          refine lv_aload_n Bx.1 Bx.2.1 d_Mo_readRule_130 rfl (lv_at hl 3 rfl) ?_
                          refine f_get Bx hP (by omega) hz110.1 rfl inMo 17 (by decide) kw_673 rfl rfl d_Mo_readRule_131 ?_
                          rw [g119]
                          refine lv_if_ne Bx.1 Bx.2.1 d_Mo_readRule_134 rfl (fun hb124 => ?_) (fun hb124 => ?_)
                          · exact absurd hb124 (by decide)
                          · refine lv_iload Bx.1 Bx.2.1 d_Mo_readRule_137 (lv_at hl 0 rfl) ?_
                            refine lv_if_eq Bx.1 Bx.2.1 d_Mo_readRule_139 rfl (fun hb125 => ?_) (fun hb125 => ?_)
                            · exact absurd hb125 (by decide)
                            · refine lv_aload_n Bx.1 Bx.2.1 d_Mo_readRule_142 rfl (lv_at hl 3 rfl) ?_
                              refine f_get Bx hP (by omega) hz110.1 rfl inMo 28 (by decide) kw_684 rfl rfl d_Mo_readRule_143 ?_
                              rw [hpe]
                              refine lv_if_eq Bx.1 Bx.2.1 d_Mo_readRule_146 rfl (fun hb126 => ?_) (fun hb126 => ?_)
                              · refine lv_aload_n Bx.1 Bx.2.1 d_Mo_readRule_161 rfl (lv_at hl 3 rfl) ?_
                                refine f_callVi (na := 0) (As := []) (rest := []) Bx hml E hP hD hS (by omega) hz110.1 rfl (m_Mo_goesOnX l hn hz110 ⟨g116, g117, g118, g119, g120, g121, g122, g123⟩ ⟨hL, by omega, by omega, by omega, by omega⟩ (by omega) hT1 hpe (hI1.toT hpe) h91) kw_853 kw_855 sel_Mo_goesOn kw_8 kw_856 (by decide +kernel) ⟨rfl, rfl⟩ ⟨Nat.le_of_ble_eq_true rfl, Nat.le_of_ble_eq_true rfl⟩ rfl hl.1 (Nat.le_of_ble_eq_true rfl) d_Mo_readRule_162 ⟨Nat.le_of_ble_eq_true rfl, Nat.le_of_ble_eq_true rfl⟩ (fun r127 mem128 H locs hq hP hS => ?_)
                                have hD : va_D (Az sz) (fw n ad mem128) := fw_D hD
                                obtain ⟨J129, A130, nn131, hW132, hgo⟩ := hq
                                rcases hgo with ⟨hre, o7, ht7, hres9⟩ | ⟨hre, a7, h7, ht7, hfin⟩
                                · subst hre
                                  refine lv_istore (lv' := [(4, .int (1)), (2, .int (nI r17)), (1, .int (nI a)), (0, .ref (ad 224))]) Bx.1 Bx.2.1 d_Mo_readRule_165 hl (by decide) rfl (fun ls hl => ?_)
                                  rcases hres9 with ⟨hb7, ho7⟩ | ⟨a7, u7, R7, E7, f7, pe7, h7, ho7, hst7⟩
                                  · obtain ⟨g133, g134, g135, g136, g137, g138, g139⟩ := hb7
                                    refine lv_goto Bx.1 Bx.2.1 d_Mo_readRule_167 rfl ?_
                                    refine lv_aload_n Bx.1 Bx.2.1 d_Mo_readRule_130 rfl (lv_at hl 3 rfl) ?_
                                    refine f_get Bx hP (by omega) hW132.1 rfl inMo 17 (by decide) kw_673 rfl rfl d_Mo_readRule_131 ?_
                                    refine lv_if_ne Bx.1 Bx.2.1 d_Mo_readRule_134 rfl (fun hb140 => ?_) (fun hb140 => ?_)
                                    · exact W.vret hx hb hr (fun t ht hW => ⟨⟨mem128, rfl, ⟨J129, A130, nn131, hW132, Or.inl ⟨⟨g133, g134, g135, g136, _, by omega, g139⟩, Or.inr ⟨_, hs6, Term.bad hgo1 (by rw [show turnS T L (a1, u1, R1, E1, f1, A9, n9, false) = o7.map (fun z => (true, z)) from ht7, ho7]; rfl)⟩⟩⟩, by show va_P _ _ _ t.heap; rw [ht]; exact hP⟩, hS.F ht⟩) hS.2.2 d_Mo_readRule_170
                                    · exact absurd hb140 g136.ne
                                  · refine lv_goto Bx.1 Bx.2.1 d_Mo_readRule_167 rfl ?_
                                    have hle : a7 ≤ L := hst7.2.1.2.1
                                    have hgo7 := hgo1.trans (Goes9.one (show turnS T L _ = some (true, (a7, u7, R7, E7, f7, A130, nn131, pe7)) by rw [show turnS T L (a1, u1, R1, E1, f1, A9, n9, false) = o7.map (fun z => (true, z)) from ht7, ho7]; rfl))
                                    exact ih114 mem128 (J129) (A130) (nn131) (a7) (u7) (R7) (E7) (f7) (pe7) _ _ _ (by have := hmeas115; omega) (hW132) (hst7) (hgo7) (by omega) hP hD hS (lv_sub hl [0, 1, 2, 3] rfl)
                                · subst hre
                                  obtain ⟨hN2, hB2, hT2, hG2⟩ := id hfin
                                  obtain ⟨g141, g142, g143, g144, g145, g146, g147⟩ := hN2
                                  refine lv_istore (lv' := [(4, .int (0)), (2, .int (nI r17)), (1, .int (nI a)), (0, .ref (ad 224))]) Bx.1 Bx.2.1 d_Mo_readRule_165 hl (by decide) rfl (fun ls hl => ?_)
                                  refine lv_goto Bx.1 Bx.2.1 d_Mo_readRule_167 rfl ?_
                                  refine lv_aload_n Bx.1 Bx.2.1 d_Mo_readRule_130 rfl (lv_at hl 3 rfl) ?_
                                  refine f_get Bx hP (by omega) hW132.1 rfl inMo 17 (by decide) kw_673 rfl rfl d_Mo_readRule_131 ?_
                                  rw [g144]
                                  refine lv_if_ne Bx.1 Bx.2.1 d_Mo_readRule_134 rfl (fun hb148 => ?_) (fun hb148 => ?_)
                                  · exact absurd hb148 (by decide)
                                  · refine lv_iload Bx.1 Bx.2.1 d_Mo_readRule_137 (lv_at hl 0 rfl) ?_
                                    refine lv_if_eq Bx.1 Bx.2.1 d_Mo_readRule_139 rfl (fun hb149 => ?_) (fun hb149 => ?_)
                                    · exact W.vret hx hb hr (fun t ht hW => ⟨⟨mem128, rfl, ⟨J129, A130, nn131, hW132, Or.inr ⟨a7, u1, R1, E1, f1, by omega, Or.inr ⟨_, hs6, Term.fin hgo1 ht7⟩, hfin⟩⟩, by show va_P _ _ _ t.heap; rw [ht]; exact hP⟩, hS.F ht⟩) hS.2.2 d_Mo_readRule_170
                                    · exact absurd hb149 (by decide)
                              · exact absurd hb126 (by decide)
                        | true =>
                          have hpe : J9 28 = 1 := hpe
                          refine lv_aload_n Bx.1 Bx.2.1 d_Mo_readRule_130 rfl (lv_at hl 3 rfl) ?_
                          refine f_get Bx hP (by omega) hz110.1 rfl inMo 17 (by decide) kw_673 rfl rfl d_Mo_readRule_131 ?_
                          rw [g119]
                          refine lv_if_ne Bx.1 Bx.2.1 d_Mo_readRule_134 rfl (fun hb150 => ?_) (fun hb150 => ?_)
                          · exact absurd hb150 (by decide)
                          · refine lv_iload Bx.1 Bx.2.1 d_Mo_readRule_137 (lv_at hl 0 rfl) ?_
                            refine lv_if_eq Bx.1 Bx.2.1 d_Mo_readRule_139 rfl (fun hb151 => ?_) (fun hb151 => ?_)
                            · exact absurd hb151 (by decide)
                            · refine lv_aload_n Bx.1 Bx.2.1 d_Mo_readRule_142 rfl (lv_at hl 3 rfl) ?_
                              refine f_get Bx hP (by omega) hz110.1 rfl inMo 28 (by decide) kw_684 rfl rfl d_Mo_readRule_143 ?_
                              rw [hpe]
                              refine lv_if_eq Bx.1 Bx.2.1 d_Mo_readRule_146 rfl (fun hb152 => ?_) (fun hb152 => ?_)
                              · exact absurd hb152 (by decide)
                              · refine lv_aload_n Bx.1 Bx.2.1 d_Mo_readRule_149 rfl (lv_at hl 3 rfl) ?_
                                refine lv_iconst (v := 0) Bx.1 Bx.2.1 d_Mo_readRule_150 (by decide) ?_
                                refine f_put Bx hP hD hS (by omega) hz110.1 rfl inMo tyMo okMo nmMo 28 (by decide) kw_684 rfl rfl rfl rfl (Nat.le_of_ble_eq_true rfl) d_Mo_readRule_151 (fun H locs hP hS => ?_)
                                obtain ⟨J153, eJ153⟩ : ∃ z, z = va_up J9 28 (0) := ⟨_, rfl⟩
                                obtain ⟨mem154, e_mem154⟩ : ∃ z, z = va_up mem9 224 (moC ad J153) := ⟨_, rfl⟩
                                have hP : va_P D vcl (fw n ad mem154) H := by rw [e_mem154, eJ153]; exact hP
                                have hD : va_D (Az sz) (fw n ad mem154) := fw_D hD
                                have hW155 : MW cy ad J153 A9 n9 m0 mem154 := by rw [e_mem154]; exact hz110.upJ (by rw [eJ153]; exact va_up_ne _ _ (by decide))
                                have kk156 : J153 1 = nI L := by rw [eJ153]; exact g116
                                have kk157 : J153 24 = nI G := by rw [eJ153]; exact g117
                                have kk158 : J153 16 = nI a1 := by rw [eJ153]; exact g118
                                have kk159 : J153 17 = 0 := by rw [eJ153]; exact g119
                                have kk160 : J153 14 = nI u1 := by rw [eJ153]; exact g120
                                have kk161 : J153 4 = nI R1 := by rw [eJ153]; exact g121
                                have kk162 : J153 7 = nI E1 := by rw [eJ153]; exact g122
                                have kk163 : J153 18 = nI (f1 + 1) := by rw [eJ153]; exact g123
                                have kk164 : J153 28 = 0 := by rw [eJ153, va_up_self]
                                refine lv_aload_n Bx.1 Bx.2.1 d_Mo_readRule_154 rfl (lv_at hl 3 rfl) ?_
                                refine f_callVv (na := 0) (As := []) (rest := []) Bx hml E hP hD hS (by omega) hW155.1 rfl (m_Mo_sequenceX l hn hW155 ⟨kk156, kk157, kk158, kk159, kk160, kk161, kk162, kk163⟩ ⟨hL, by omega, by omega, by omega, by omega⟩ (by omega) hT1 kk164 hI1.toF h91) kw_818 kw_820 sel_Mo_sequence kw_8 kw_821 (by decide +kernel) ⟨rfl, rfl⟩ ⟨Nat.le_of_ble_eq_true rfl, Nat.le_of_ble_eq_true rfl⟩ rfl hl.1 (Nat.le_of_ble_eq_true rfl) d_Mo_readRule_155 ⟨Nat.le_of_ble_eq_true rfl, Nat.le_of_ble_eq_true rfl⟩ (fun mem166 H locs hq hP hS => ?_)
                                have hD : va_D (Az sz) (fw n ad mem166) := fw_D hD
                                obtain ⟨J167, A168, nn169, hW170, hres171⟩ := hq
                                rcases hres171 with ⟨hb7, ho7⟩ | ⟨a7, u7, R7, E7, f7, pe7, h7, ho7, hst7⟩
                                · obtain ⟨g172, g173, g174, g175, g176, g177, g178⟩ := hb7
                                  refine lv_goto Bx.1 Bx.2.1 d_Mo_readRule_158 rfl ?_
                                  refine lv_aload_n Bx.1 Bx.2.1 d_Mo_readRule_130 rfl (lv_at hl 3 rfl) ?_
                                  refine f_get Bx hP (by omega) hW170.1 rfl inMo 17 (by decide) kw_673 rfl rfl d_Mo_readRule_131 ?_
                                  refine lv_if_ne Bx.1 Bx.2.1 d_Mo_readRule_134 rfl (fun hb179 => ?_) (fun hb179 => ?_)
                                  · exact W.vret hx hb hr (fun t ht hW => ⟨⟨mem166, rfl, ⟨J167, A168, nn169, hW170, Or.inl ⟨⟨g172, g173, g174, g175, _, by omega, g178⟩, Or.inr ⟨_, hs6, Term.bad hgo1 (by rw [show turnS T L (a1, u1, R1, E1, f1, A9, n9, true) = (seqS T L a1 u1 R1 E1 f1 A9 n9).map (fun z => (true, z)) from rfl, ho7]; rfl)⟩⟩⟩, by show va_P _ _ _ t.heap; rw [ht]; exact hP⟩, hS.F ht⟩) hS.2.2 d_Mo_readRule_170
                                  · exact absurd hb179 g175.ne
                                · refine lv_goto Bx.1 Bx.2.1 d_Mo_readRule_158 rfl ?_
                                  have hle : a7 ≤ L := hst7.2.1.2.1
                                  have hgo7 := hgo1.trans (Goes9.one (show turnS T L _ = some (true, (a7, u7, R7, E7, f7, A168, nn169, pe7)) by rw [show turnS T L (a1, u1, R1, E1, f1, A9, n9, true) = (seqS T L a1 u1 R1 E1 f1 A9 n9).map (fun z => (true, z)) from rfl, ho7]; rfl))
                                  exact ih114 mem166 (J167) (A168) (nn169) (a7) (u7) (R7) (E7) (f7) (pe7) _ _ _ (by have := hmeas115; omega) (hW170) (hst7) (hgo7) (by omega) hP hD hS (lv_sub hl [0, 1, 2, 3] rfl)
                    exact loop108 _ mem94 (J95) (A96) (nn97) (a6) (u6) (R6) (E6) (f6) (pe6) _ _ _ (Nat.lt_succ_self _) (hW98) (hst6) (Goes9.rf _) (by omega) hP hD hS (lv_sub hl [0, 2, 3, 4] rfl)
                · exact absurd hb81 (by decide)
              · exact absurd hb80 (by decide)
            · refine lv_iconst (v := 1) Bx.1 Bx.2.1 d_Mo_readRule_94 (by decide) ?_
              refine lv_goto Bx.1 Bx.2.1 d_Mo_readRule_95 rfl ?_
              refine lv_icmp_eq Bx.1 Bx.2.1 d_Mo_readRule_99 rfl (fun hb180 => ?_) (fun hb180 => ?_)
              · exact absurd hb180 (by decide)
              · refine lv_aload_n Bx.1 Bx.2.1 d_Mo_readRule_102 rfl (lv_at hl 3 rfl) ?_
                refine lv_iconst (v := 1) Bx.1 Bx.2.1 d_Mo_readRule_103 (by decide) ?_
                refine lv_iload_n Bx.1 Bx.2.1 d_Mo_readRule_104 rfl (lv_at hl 2 rfl) ?_
                refine f_callVv (na := 2) (As := [.int (1), .int (nI a)]) (rest := []) Bx hml E hP hD hS (by omega) hW71.1 rfl (m_Mo_wrong l hn hW71 (Or.inl kk76) (by first | exact Or.inl rfl | exact Or.inr rfl)) kw_799 kw_801 sel_Mo_wrong kw_8 kw_802 (by decide +kernel) ⟨rfl, rfl⟩ ⟨Nat.le_of_ble_eq_true rfl, Nat.le_of_ble_eq_true rfl⟩ rfl hl.1 (Nat.le_of_ble_eq_true rfl) d_Mo_readRule_105 ⟨Nat.le_of_ble_eq_true rfl, Nat.le_of_ble_eq_true rfl⟩ (fun mem182 H locs hq hP hS => ?_)
                have hD : va_D (Az sz) (fw n ad mem182) := fw_D hD
                obtain ⟨J183, hW184, hwr185⟩ := hq
                have kk186 : J183 1 = nI L := (show J183 1 = J69 1 from hwr185.2 1 (by decide) (by decide)).trans kk72
                have kk187 : J183 24 = nI G := (show J183 24 = J69 24 from hwr185.2 24 (by decide) (by decide)).trans kk73
                have kk188 : J183 14 = nI u := (show J183 14 = J69 14 from hwr185.2 14 (by decide) (by decide)).trans kk74
                have kk189 : J183 7 = nI Ec := (show J183 7 = J69 7 from hwr185.2 7 (by decide) (by decide)).trans kk75
                have kk190 : J183 4 = nI R18 := (show J183 4 = J69 4 from hwr185.2 4 (by decide) (by decide)).trans kk77
                have kk191 : J183 16 = nI (a38 + 1 + 0) := (show J183 16 = J69 16 from hwr185.2 16 (by decide) (by decide)).trans kk78
                refine lv_aload_n Bx.1 Bx.2.1 d_Mo_readRule_108 rfl (lv_at hl 3 rfl) ?_
                refine f_get Bx hP (by omega) hW184.1 rfl inMo 17 (by decide) kw_673 rfl rfl d_Mo_readRule_109 ?_
                refine lv_if_le Bx.1 Bx.2.1 d_Mo_readRule_112 rfl (fun hb192 => ?_) (fun hb192 => ?_)
                · exact absurd hb192 hwr185.1.nle
                · exact W.vret hx hb hr (fun t ht hW => ⟨⟨mem182, rfl, ⟨J183, A4, nn5, hW184, Or.inl ⟨⟨kk186, kk187, hT9, hwr185.1, _, by omega, kk191⟩, Or.inl ⟨rule_t hsn13 (by rw [← ea43]; exact hb53) (fun z => hb67 (by rw [ea43]; exact z.mpr hb79)), rfl⟩⟩⟩, by show va_P _ _ _ t.heap; rw [ht]; exact hP⟩, hS.F ht⟩) hS.2.2 d_Mo_readRule_115
          · exact absurd hb68 (by decide)
        · have hlt193 := hereF_lt (by rw [hb67]; decide)
          refine lv_iconst (v := 1) Bx.1 Bx.2.1 d_Mo_readRule_60 (by decide) ?_
          refine lv_goto Bx.1 Bx.2.1 d_Mo_readRule_61 rfl ?_
          refine lv_istore_n (lv' := [(3, .int (1)), (2, .int (nI r17)), (1, .int (nI a)), (0, .ref (ad 224))]) Bx.1 Bx.2.1 d_Mo_readRule_65 rfl hl (by decide) rfl (fun ls hl => ?_)
          refine lv_aload_n Bx.1 Bx.2.1 d_Mo_readRule_66 rfl (lv_at hl 3 rfl) ?_
          refine lv_dup Bx.1 Bx.2.1 d_Mo_readRule_67 rfl ?_
          refine f_get Bx hP (by omega) hW57.1 rfl inMo 16 (by decide) kw_672 rfl rfl d_Mo_readRule_68 ?_
          rw [kk64]
          refine lv_iload_n Bx.1 Bx.2.1 d_Mo_readRule_71 rfl (lv_at hl 0 rfl) ?_
          refine lv_if_eq Bx.1 Bx.2.1 d_Mo_readRule_72 rfl (fun hb194 => ?_) (fun hb194 => ?_)
          · exact absurd hb194 (by decide)
          · refine lv_iconst (v := 1) Bx.1 Bx.2.1 d_Mo_readRule_75 (by decide) ?_
            refine lv_goto Bx.1 Bx.2.1 d_Mo_readRule_76 rfl ?_
            refine lv_iadd Bx.1 Bx.2.1 d_Mo_readRule_80 ?_
            rw [show nI (a38 + 1) + 1 = nI (a38 + 1 + 1) from nI_add (a38 + 1) (1)]
            refine f_put Bx hP hD hS (by omega) hW57.1 rfl inMo tyMo okMo nmMo 16 (by decide) kw_672 rfl rfl rfl rfl (Nat.le_of_ble_eq_true rfl) d_Mo_readRule_81 (fun H locs hP hS => ?_)
            obtain ⟨J195, eJ195⟩ : ∃ z, z = va_up J55 16 (nI (a38 + 1 + 1)) := ⟨_, rfl⟩
            obtain ⟨mem196, e_mem196⟩ : ∃ z, z = va_up mem56 224 (moC ad J195) := ⟨_, rfl⟩
            have hP : va_P D vcl (fw n ad mem196) H := by rw [e_mem196, eJ195]; exact hP
            have hD : va_D (Az sz) (fw n ad mem196) := fw_D hD
            have hW197 : MW cy ad J195 A4 nn5 m0 mem196 := by rw [e_mem196]; exact hW57.upJ (by rw [eJ195]; exact va_up_ne _ _ (by decide))
            have kk198 : J195 1 = nI L := by rw [eJ195]; exact kk58
            have kk199 : J195 24 = nI G := by rw [eJ195]; exact kk59
            have kk200 : J195 14 = nI u := by rw [eJ195]; exact kk60
            have kk201 : J195 7 = nI Ec := by rw [eJ195]; exact kk61
            have kk202 : J195 17 = 0 := by rw [eJ195]; exact kk62
            have kk203 : J195 4 = nI R18 := by rw [eJ195]; exact kk63
            have kk204 : J195 16 = nI (a38 + 1 + 1) := by rw [eJ195, va_up_self]
            refine lv_iload_n Bx.1 Bx.2.1 d_Mo_readRule_84 rfl (lv_at hl 0 rfl) ?_
            refine lv_aload_n Bx.1 Bx.2.1 d_Mo_readRule_85 rfl (lv_at hl 3 rfl) ?_
            refine f_get Bx hP (by omega) hW197.1 rfl inMo 6 (by decide) kw_662 rfl rfl d_Mo_readRule_86 ?_
            refine lv_iload_n Bx.1 Bx.2.1 d_Mo_readRule_89 rfl (lv_at hl 1 rfl) ?_
            refine f_iald Bx hP (by omega) (show mem196 227 = .inl (cy 1, 12, .inl (A4 227)) from hW197.2.2.1 227 (by decide) (by decide) (by decide)) (vp_in_nI (n := r17) (by omega) (by decide)) d_Mo_readRule_90 ?_
            rw [nI_clamp (n := r17) (by omega)]
            refine lv_if_lt Bx.1 Bx.2.1 d_Mo_readRule_91 rfl (fun hb205 => ?_) (fun hb205 => ?_)
            · refine lv_iconst (v := 0) Bx.1 Bx.2.1 d_Mo_readRule_98 (by decide) ?_
              refine lv_icmp_eq Bx.1 Bx.2.1 d_Mo_readRule_99 rfl (fun hb206 => ?_) (fun hb206 => ?_)
              · exact absurd hb206 (by decide)
              · refine lv_aload_n Bx.1 Bx.2.1 d_Mo_readRule_102 rfl (lv_at hl 3 rfl) ?_
                refine lv_iconst (v := 1) Bx.1 Bx.2.1 d_Mo_readRule_103 (by decide) ?_
                refine lv_iload_n Bx.1 Bx.2.1 d_Mo_readRule_104 rfl (lv_at hl 2 rfl) ?_
                refine f_callVv (na := 2) (As := [.int (1), .int (nI a)]) (rest := []) Bx hml E hP hD hS (by omega) hW197.1 rfl (m_Mo_wrong l hn hW197 (Or.inl kk202) (by first | exact Or.inl rfl | exact Or.inr rfl)) kw_799 kw_801 sel_Mo_wrong kw_8 kw_802 (by decide +kernel) ⟨rfl, rfl⟩ ⟨Nat.le_of_ble_eq_true rfl, Nat.le_of_ble_eq_true rfl⟩ rfl hl.1 (Nat.le_of_ble_eq_true rfl) d_Mo_readRule_105 ⟨Nat.le_of_ble_eq_true rfl, Nat.le_of_ble_eq_true rfl⟩ (fun mem208 H locs hq hP hS => ?_)
                have hD : va_D (Az sz) (fw n ad mem208) := fw_D hD
                obtain ⟨J209, hW210, hwr211⟩ := hq
                have kk212 : J209 1 = nI L := (show J209 1 = J195 1 from hwr211.2 1 (by decide) (by decide)).trans kk198
                have kk213 : J209 24 = nI G := (show J209 24 = J195 24 from hwr211.2 24 (by decide) (by decide)).trans kk199
                have kk214 : J209 14 = nI u := (show J209 14 = J195 14 from hwr211.2 14 (by decide) (by decide)).trans kk200
                have kk215 : J209 7 = nI Ec := (show J209 7 = J195 7 from hwr211.2 7 (by decide) (by decide)).trans kk201
                have kk216 : J209 4 = nI R18 := (show J209 4 = J195 4 from hwr211.2 4 (by decide) (by decide)).trans kk203
                have kk217 : J209 16 = nI (a38 + 1 + 1) := (show J209 16 = J195 16 from hwr211.2 16 (by decide) (by decide)).trans kk204
                refine lv_aload_n Bx.1 Bx.2.1 d_Mo_readRule_108 rfl (lv_at hl 3 rfl) ?_
                refine f_get Bx hP (by omega) hW210.1 rfl inMo 17 (by decide) kw_673 rfl rfl d_Mo_readRule_109 ?_
                refine lv_if_le Bx.1 Bx.2.1 d_Mo_readRule_112 rfl (fun hb218 => ?_) (fun hb218 => ?_)
                · exact absurd hb218 hwr211.1.nle
                · exact W.vret hx hb hr (fun t ht hW => ⟨⟨mem208, rfl, ⟨J209, A4, nn5, hW210, Or.inl ⟨⟨kk212, kk213, hT9, hwr211.1, _, by omega, kk217⟩, Or.inl ⟨rule_t hsn13 (by rw [← ea43]; exact hb53) (fun z => z.mp (by rw [← ea43]; exact hb67) hb205), rfl⟩⟩⟩, by show va_P _ _ _ t.heap; rw [ht]; exact hP⟩, hS.F ht⟩) hS.2.2 d_Mo_readRule_115
            · refine lv_iconst (v := 1) Bx.1 Bx.2.1 d_Mo_readRule_94 (by decide) ?_
              refine lv_goto Bx.1 Bx.2.1 d_Mo_readRule_95 rfl ?_
              refine lv_icmp_eq Bx.1 Bx.2.1 d_Mo_readRule_99 rfl (fun hb219 => ?_) (fun hb219 => ?_)
              · refine lv_aload_n Bx.1 Bx.2.1 d_Mo_readRule_108 rfl (lv_at hl 3 rfl) ?_
                refine f_get Bx hP (by omega) hW197.1 rfl inMo 17 (by decide) kw_673 rfl rfl d_Mo_readRule_109 ?_
                rw [kk202]
                refine lv_if_le Bx.1 Bx.2.1 d_Mo_readRule_112 rfl (fun hb220 => ?_) (fun hb220 => ?_)
                · refine lv_aload_n Bx.1 Bx.2.1 d_Mo_readRule_116 rfl (lv_at hl 3 rfl) ?_
                  refine lv_iconst (v := 0) Bx.1 Bx.2.1 d_Mo_readRule_117 (by decide) ?_
                  refine f_put Bx hP hD hS (by omega) hW197.1 rfl inMo tyMo okMo nmMo 18 (by decide) kw_674 rfl rfl rfl rfl (Nat.le_of_ble_eq_true rfl) d_Mo_readRule_118 (fun H locs hP hS => ?_)
                  obtain ⟨J221, eJ221⟩ : ∃ z, z = va_up J195 18 (0) := ⟨_, rfl⟩
                  obtain ⟨mem222, e_mem222⟩ : ∃ z, z = va_up mem196 224 (moC ad J221) := ⟨_, rfl⟩
                  have hP : va_P D vcl (fw n ad mem222) H := by rw [e_mem222, eJ221]; exact hP
                  have hD : va_D (Az sz) (fw n ad mem222) := fw_D hD
                  have hW223 : MW cy ad J221 A4 nn5 m0 mem222 := by rw [e_mem222]; exact hW197.upJ (by rw [eJ221]; exact va_up_ne _ _ (by decide))
                  have kk224 : J221 1 = nI L := by rw [eJ221]; exact kk198
                  have kk225 : J221 24 = nI G := by rw [eJ221]; exact kk199
                  have kk226 : J221 14 = nI u := by rw [eJ221]; exact kk200
                  have kk227 : J221 7 = nI Ec := by rw [eJ221]; exact kk201
                  have kk228 : J221 17 = 0 := by rw [eJ221]; exact kk202
                  have kk229 : J221 4 = nI R18 := by rw [eJ221]; exact kk203
                  have kk230 : J221 16 = nI (a38 + 1 + 1) := by rw [eJ221]; exact kk204
                  have kk231 : J221 18 = 0 := by rw [eJ221, va_up_self]
                  refine lv_aload_n Bx.1 Bx.2.1 d_Mo_readRule_121 rfl (lv_at hl 3 rfl) ?_
                  refine lv_iconst (v := 0) Bx.1 Bx.2.1 d_Mo_readRule_122 (by decide) ?_
                  refine lv_iload_n Bx.1 Bx.2.1 d_Mo_readRule_123 rfl (lv_at hl 1 rfl) ?_
                  have hrs : ruleS T L a u R Ec A nm = ent0S T L (a38 + 1 + 1) u R18 Ec r17 A4 nn5 := by rw [rule_m hsn13 (by rw [← ea43]; exact hb53) (by rw [← ea43]; exact hb67) hb205, ← ea43]
                  refine f_callVv (na := 2) (As := [.int (0), .int (nI r17)]) (rest := []) Bx hml E hP hD hS (by omega) hW223.1 rfl (m_Mo_enter0X l hn hW223 kk224 kk225 kk230 kk228 kk226 kk229 kk227 kk231 ⟨hL, by omega, by omega, by omega, by omega⟩ hT9 hG2 hr0_20) kw_807 kw_809 sel_Mo_enter kw_8 kw_810 (by decide +kernel) ⟨rfl, rfl⟩ ⟨Nat.le_of_ble_eq_true rfl, Nat.le_of_ble_eq_true rfl⟩ rfl hl.1 (Nat.le_of_ble_eq_true rfl) d_Mo_readRule_124 ⟨Nat.le_of_ble_eq_true rfl, Nat.le_of_ble_eq_true rfl⟩ (fun mem233 H locs hq hP hS => ?_)
                  have hD : va_D (Az sz) (fw n ad mem233) := fw_D hD
                  obtain ⟨J234, A235, nn236, hW237, hres238⟩ := hq
                  rw [← hrs] at hres238
                  rcases hres238 with ⟨hb6, hs6⟩ | ⟨a6, u6, R6, E6, f6, pe6, h6, hs6, hst6⟩
                  · obtain ⟨g239, g240, g241, g242, g243, g244, g245⟩ := hb6
                    refine lv_iconst (v := 1) Bx.1 Bx.2.1 d_Mo_readRule_127 (by decide) ?_
                    refine lv_istore (lv' := [(4, .int (1)), (3, .int (1)), (2, .int (nI r17)), (1, .int (nI a)), (0, .ref (ad 224))]) Bx.1 Bx.2.1 d_Mo_readRule_128 hl (by decide) rfl (fun ls hl => ?_)
                    refine lv_aload_n Bx.1 Bx.2.1 d_Mo_readRule_130 rfl (lv_at hl 4 rfl) ?_
                    refine f_get Bx hP (by omega) hW237.1 rfl inMo 17 (by decide) kw_673 rfl rfl d_Mo_readRule_131 ?_
                    refine lv_if_ne Bx.1 Bx.2.1 d_Mo_readRule_134 rfl (fun hb246 => ?_) (fun hb246 => ?_)
                    · exact W.vret hx hb hr (fun t ht hW => ⟨⟨mem233, rfl, ⟨J234, A235, nn236, hW237, Or.inl ⟨⟨g239, g240, g241, g242, _, by omega, g245⟩, Or.inl ⟨hs6, rfl⟩⟩⟩, by show va_P _ _ _ t.heap; rw [ht]; exact hP⟩, hS.F ht⟩) hS.2.2 d_Mo_readRule_170
                    · exact absurd hb246 g242.ne
                  · refine lv_iconst (v := 1) Bx.1 Bx.2.1 d_Mo_readRule_127 (by decide) ?_
                    refine lv_istore (lv' := [(4, .int (1)), (3, .int (1)), (2, .int (nI r17)), (1, .int (nI a)), (0, .ref (ad 224))]) Bx.1 Bx.2.1 d_Mo_readRule_128 hl (by decide) rfl (fun ls hl => ?_)
                    have loop247 : ∀ (d248 : Nat) (mem9 : Nat → va_E) (J9 : Nat → Int32) (A9 : Nat → Nat → Int32) (n9 : Nat → Int64) (a1 : Nat) (u1 : Nat) (R1 : Nat) (E1 : Nat) (f1 : Nat) (pe : Bool) (ls : Array Slot) (H : Heap) (locs : List Loc), ((L + 1 - a1) < d248) → (MW cy ad J9 A9 n9 m0 mem9) → (St9 L G T a1 u1 R1 E1 f1 pe J9 A9) → (Goes9 T L (a6, u6, R6, E6, f6, A235, nn236, pe6) (a1, u1, R1, E1, f1, A9, n9, pe)) → (a < a1) → (va_P D vcl (fw n ad mem9) H) → (va_D (Az sz) (fw n ad mem9)) → (va_S (Az sz) s.heap H locs) → (lv_has ls 5 [(4, .int (1)), (2, .int (nI r17)), (1, .int (nI a)), (0, .ref (ad 224))]) → W p l e (headSpec (Cond.code y_Mo_readRule c_Mo_readRule 5 none :: tg) ({ frames := 9, cells := 0, slots := 0, locals := 260 } : Room)).room s m [.ref (ad 224)].toArray below meth c H locs 0 0 (MQ below (va_Qv (fun mem' => ∃ J' A' nm', MW cy ad J' A' nm' m0 mem' ∧ ((BAD L G T J' A' ∧ RuleR T L a u R Ec A nm none) ∨ ∃ a' u' R' E' f', a < a' ∧ RuleR T L a u R Ec A nm (some (a', u', R', E', f', A', nm', false)) ∧ FinN L G T a' u' R' E' J' A')) (PP D n ad) (Az sz)) [.ref (ad 224)].toArray s 0 0 (Az sz)) (F0 m 130 ls []) := by
                      intro d248
                      induction d248 with
                      | zero => intro mem9 J9 A9 n9 a1 u1 R1 E1 f1 pe ls H locs hmeas254; exact absurd hmeas254 (Nat.not_lt_zero _)
                      | succ d248 ih253 =>
                        intro mem9 J9 A9 n9 a1 u1 R1 E1 f1 pe ls H locs hmeas254 hz249 hz250 hz251 hz252 hP hD hS hl
                        obtain ⟨hN1, hB1, hT1, hpe, c1, s1, t1, hI1, h91⟩ := hz250
                        obtain ⟨-, b2, b3, b4, b5, b6⟩ := hB1
                        have hgo1 := hz251
                        obtain ⟨g255, g256, g257, g258, g259, g260, g261, g262⟩ := hN1
                        cases pe with
                        | false =>
                          have hpe : J9 28 = 0 := hpe
                          refine lv_aload_n Bx.1 Bx.2.1 d_Mo_readRule_130 rfl (lv_at hl 3 rfl) ?_
                          refine f_get Bx hP (by omega) hz249.1 rfl inMo 17 (by decide) kw_673 rfl rfl d_Mo_readRule_131 ?_
                          rw [g258]
                          refine lv_if_ne Bx.1 Bx.2.1 d_Mo_readRule_134 rfl (fun hb263 => ?_) (fun hb263 => ?_)
                          · exact absurd hb263 (by decide)
                          · refine lv_iload Bx.1 Bx.2.1 d_Mo_readRule_137 (lv_at hl 0 rfl) ?_
                            refine lv_if_eq Bx.1 Bx.2.1 d_Mo_readRule_139 rfl (fun hb264 => ?_) (fun hb264 => ?_)
                            · exact absurd hb264 (by decide)
                            · refine lv_aload_n Bx.1 Bx.2.1 d_Mo_readRule_142 rfl (lv_at hl 3 rfl) ?_
                              refine f_get Bx hP (by omega) hz249.1 rfl inMo 28 (by decide) kw_684 rfl rfl d_Mo_readRule_143 ?_
                              rw [hpe]
                              refine lv_if_eq Bx.1 Bx.2.1 d_Mo_readRule_146 rfl (fun hb265 => ?_) (fun hb265 => ?_)
                              · refine lv_aload_n Bx.1 Bx.2.1 d_Mo_readRule_161 rfl (lv_at hl 3 rfl) ?_
                                refine f_callVi (na := 0) (As := []) (rest := []) Bx hml E hP hD hS (by omega) hz249.1 rfl (m_Mo_goesOnX l hn hz249 ⟨g255, g256, g257, g258, g259, g260, g261, g262⟩ ⟨hL, by omega, by omega, by omega, by omega⟩ (by omega) hT1 hpe (hI1.toT hpe) h91) kw_853 kw_855 sel_Mo_goesOn kw_8 kw_856 (by decide +kernel) ⟨rfl, rfl⟩ ⟨Nat.le_of_ble_eq_true rfl, Nat.le_of_ble_eq_true rfl⟩ rfl hl.1 (Nat.le_of_ble_eq_true rfl) d_Mo_readRule_162 ⟨Nat.le_of_ble_eq_true rfl, Nat.le_of_ble_eq_true rfl⟩ (fun r266 mem267 H locs hq hP hS => ?_)
                                have hD : va_D (Az sz) (fw n ad mem267) := fw_D hD
                                obtain ⟨J268, A269, nn270, hW271, hgo⟩ := hq
                                rcases hgo with ⟨hre, o7, ht7, hres9⟩ | ⟨hre, a7, h7, ht7, hfin⟩
                                · subst hre
                                  refine lv_istore (lv' := [(4, .int (1)), (2, .int (nI r17)), (1, .int (nI a)), (0, .ref (ad 224))]) Bx.1 Bx.2.1 d_Mo_readRule_165 hl (by decide) rfl (fun ls hl => ?_)
                                  rcases hres9 with ⟨hb7, ho7⟩ | ⟨a7, u7, R7, E7, f7, pe7, h7, ho7, hst7⟩
                                  · obtain ⟨g272, g273, g274, g275, g276, g277, g278⟩ := hb7
                                    refine lv_goto Bx.1 Bx.2.1 d_Mo_readRule_167 rfl ?_
                                    refine lv_aload_n Bx.1 Bx.2.1 d_Mo_readRule_130 rfl (lv_at hl 3 rfl) ?_
                                    refine f_get Bx hP (by omega) hW271.1 rfl inMo 17 (by decide) kw_673 rfl rfl d_Mo_readRule_131 ?_
                                    refine lv_if_ne Bx.1 Bx.2.1 d_Mo_readRule_134 rfl (fun hb279 => ?_) (fun hb279 => ?_)
                                    · exact W.vret hx hb hr (fun t ht hW => ⟨⟨mem267, rfl, ⟨J268, A269, nn270, hW271, Or.inl ⟨⟨g272, g273, g274, g275, _, by omega, g278⟩, Or.inr ⟨_, hs6, Term.bad hgo1 (by rw [show turnS T L (a1, u1, R1, E1, f1, A9, n9, false) = o7.map (fun z => (true, z)) from ht7, ho7]; rfl)⟩⟩⟩, by show va_P _ _ _ t.heap; rw [ht]; exact hP⟩, hS.F ht⟩) hS.2.2 d_Mo_readRule_170
                                    · exact absurd hb279 g275.ne
                                  · refine lv_goto Bx.1 Bx.2.1 d_Mo_readRule_167 rfl ?_
                                    have hle : a7 ≤ L := hst7.2.1.2.1
                                    have hgo7 := hgo1.trans (Goes9.one (show turnS T L _ = some (true, (a7, u7, R7, E7, f7, A269, nn270, pe7)) by rw [show turnS T L (a1, u1, R1, E1, f1, A9, n9, false) = o7.map (fun z => (true, z)) from ht7, ho7]; rfl))
                                    exact ih253 mem267 (J268) (A269) (nn270) (a7) (u7) (R7) (E7) (f7) (pe7) _ _ _ (by have := hmeas254; omega) (hW271) (hst7) (hgo7) (by omega) hP hD hS (lv_sub hl [0, 1, 2, 3] rfl)
                                · subst hre
                                  obtain ⟨hN2, hB2, hT2, hG2⟩ := id hfin
                                  obtain ⟨g280, g281, g282, g283, g284, g285, g286⟩ := hN2
                                  refine lv_istore (lv' := [(4, .int (0)), (2, .int (nI r17)), (1, .int (nI a)), (0, .ref (ad 224))]) Bx.1 Bx.2.1 d_Mo_readRule_165 hl (by decide) rfl (fun ls hl => ?_)
                                  refine lv_goto Bx.1 Bx.2.1 d_Mo_readRule_167 rfl ?_
                                  refine lv_aload_n Bx.1 Bx.2.1 d_Mo_readRule_130 rfl (lv_at hl 3 rfl) ?_
                                  refine f_get Bx hP (by omega) hW271.1 rfl inMo 17 (by decide) kw_673 rfl rfl d_Mo_readRule_131 ?_
                                  rw [g283]
                                  refine lv_if_ne Bx.1 Bx.2.1 d_Mo_readRule_134 rfl (fun hb287 => ?_) (fun hb287 => ?_)
                                  · exact absurd hb287 (by decide)
                                  · refine lv_iload Bx.1 Bx.2.1 d_Mo_readRule_137 (lv_at hl 0 rfl) ?_
                                    refine lv_if_eq Bx.1 Bx.2.1 d_Mo_readRule_139 rfl (fun hb288 => ?_) (fun hb288 => ?_)
                                    · exact W.vret hx hb hr (fun t ht hW => ⟨⟨mem267, rfl, ⟨J268, A269, nn270, hW271, Or.inr ⟨a7, u1, R1, E1, f1, by omega, Or.inr ⟨_, hs6, Term.fin hgo1 ht7⟩, hfin⟩⟩, by show va_P _ _ _ t.heap; rw [ht]; exact hP⟩, hS.F ht⟩) hS.2.2 d_Mo_readRule_170
                                    · exact absurd hb288 (by decide)
                              · exact absurd hb265 (by decide)
                        | true =>
                          have hpe : J9 28 = 1 := hpe
                          refine lv_aload_n Bx.1 Bx.2.1 d_Mo_readRule_130 rfl (lv_at hl 3 rfl) ?_
                          refine f_get Bx hP (by omega) hz249.1 rfl inMo 17 (by decide) kw_673 rfl rfl d_Mo_readRule_131 ?_
                          rw [g258]
                          refine lv_if_ne Bx.1 Bx.2.1 d_Mo_readRule_134 rfl (fun hb289 => ?_) (fun hb289 => ?_)
                          · exact absurd hb289 (by decide)
                          · refine lv_iload Bx.1 Bx.2.1 d_Mo_readRule_137 (lv_at hl 0 rfl) ?_
                            refine lv_if_eq Bx.1 Bx.2.1 d_Mo_readRule_139 rfl (fun hb290 => ?_) (fun hb290 => ?_)
                            · exact absurd hb290 (by decide)
                            · refine lv_aload_n Bx.1 Bx.2.1 d_Mo_readRule_142 rfl (lv_at hl 3 rfl) ?_
                              refine f_get Bx hP (by omega) hz249.1 rfl inMo 28 (by decide) kw_684 rfl rfl d_Mo_readRule_143 ?_
                              rw [hpe]
                              refine lv_if_eq Bx.1 Bx.2.1 d_Mo_readRule_146 rfl (fun hb291 => ?_) (fun hb291 => ?_)
                              · exact absurd hb291 (by decide)
                              · refine lv_aload_n Bx.1 Bx.2.1 d_Mo_readRule_149 rfl (lv_at hl 3 rfl) ?_
                                refine lv_iconst (v := 0) Bx.1 Bx.2.1 d_Mo_readRule_150 (by decide) ?_
                                refine f_put Bx hP hD hS (by omega) hz249.1 rfl inMo tyMo okMo nmMo 28 (by decide) kw_684 rfl rfl rfl rfl (Nat.le_of_ble_eq_true rfl) d_Mo_readRule_151 (fun H locs hP hS => ?_)
                                obtain ⟨J292, eJ292⟩ : ∃ z, z = va_up J9 28 (0) := ⟨_, rfl⟩
                                obtain ⟨mem293, e_mem293⟩ : ∃ z, z = va_up mem9 224 (moC ad J292) := ⟨_, rfl⟩
                                have hP : va_P D vcl (fw n ad mem293) H := by rw [e_mem293, eJ292]; exact hP
                                have hD : va_D (Az sz) (fw n ad mem293) := fw_D hD
                                have hW294 : MW cy ad J292 A9 n9 m0 mem293 := by rw [e_mem293]; exact hz249.upJ (by rw [eJ292]; exact va_up_ne _ _ (by decide))
                                have kk295 : J292 1 = nI L := by rw [eJ292]; exact g255
                                have kk296 : J292 24 = nI G := by rw [eJ292]; exact g256
                                have kk297 : J292 16 = nI a1 := by rw [eJ292]; exact g257
                                have kk298 : J292 17 = 0 := by rw [eJ292]; exact g258
                                have kk299 : J292 14 = nI u1 := by rw [eJ292]; exact g259
                                have kk300 : J292 4 = nI R1 := by rw [eJ292]; exact g260
                                have kk301 : J292 7 = nI E1 := by rw [eJ292]; exact g261
                                have kk302 : J292 18 = nI (f1 + 1) := by rw [eJ292]; exact g262
                                have kk303 : J292 28 = 0 := by rw [eJ292, va_up_self]
                                refine lv_aload_n Bx.1 Bx.2.1 d_Mo_readRule_154 rfl (lv_at hl 3 rfl) ?_
                                refine f_callVv (na := 0) (As := []) (rest := []) Bx hml E hP hD hS (by omega) hW294.1 rfl (m_Mo_sequenceX l hn hW294 ⟨kk295, kk296, kk297, kk298, kk299, kk300, kk301, kk302⟩ ⟨hL, by omega, by omega, by omega, by omega⟩ (by omega) hT1 kk303 hI1.toF h91) kw_818 kw_820 sel_Mo_sequence kw_8 kw_821 (by decide +kernel) ⟨rfl, rfl⟩ ⟨Nat.le_of_ble_eq_true rfl, Nat.le_of_ble_eq_true rfl⟩ rfl hl.1 (Nat.le_of_ble_eq_true rfl) d_Mo_readRule_155 ⟨Nat.le_of_ble_eq_true rfl, Nat.le_of_ble_eq_true rfl⟩ (fun mem305 H locs hq hP hS => ?_)
                                have hD : va_D (Az sz) (fw n ad mem305) := fw_D hD
                                obtain ⟨J306, A307, nn308, hW309, hres310⟩ := hq
                                rcases hres310 with ⟨hb7, ho7⟩ | ⟨a7, u7, R7, E7, f7, pe7, h7, ho7, hst7⟩
                                · obtain ⟨g311, g312, g313, g314, g315, g316, g317⟩ := hb7
                                  refine lv_goto Bx.1 Bx.2.1 d_Mo_readRule_158 rfl ?_
                                  refine lv_aload_n Bx.1 Bx.2.1 d_Mo_readRule_130 rfl (lv_at hl 3 rfl) ?_
                                  refine f_get Bx hP (by omega) hW309.1 rfl inMo 17 (by decide) kw_673 rfl rfl d_Mo_readRule_131 ?_
                                  refine lv_if_ne Bx.1 Bx.2.1 d_Mo_readRule_134 rfl (fun hb318 => ?_) (fun hb318 => ?_)
                                  · exact W.vret hx hb hr (fun t ht hW => ⟨⟨mem305, rfl, ⟨J306, A307, nn308, hW309, Or.inl ⟨⟨g311, g312, g313, g314, _, by omega, g317⟩, Or.inr ⟨_, hs6, Term.bad hgo1 (by rw [show turnS T L (a1, u1, R1, E1, f1, A9, n9, true) = (seqS T L a1 u1 R1 E1 f1 A9 n9).map (fun z => (true, z)) from rfl, ho7]; rfl)⟩⟩⟩, by show va_P _ _ _ t.heap; rw [ht]; exact hP⟩, hS.F ht⟩) hS.2.2 d_Mo_readRule_170
                                  · exact absurd hb318 g314.ne
                                · refine lv_goto Bx.1 Bx.2.1 d_Mo_readRule_158 rfl ?_
                                  have hle : a7 ≤ L := hst7.2.1.2.1
                                  have hgo7 := hgo1.trans (Goes9.one (show turnS T L _ = some (true, (a7, u7, R7, E7, f7, A307, nn308, pe7)) by rw [show turnS T L (a1, u1, R1, E1, f1, A9, n9, true) = (seqS T L a1 u1 R1 E1 f1 A9 n9).map (fun z => (true, z)) from rfl, ho7]; rfl))
                                  exact ih253 mem305 (J306) (A307) (nn308) (a7) (u7) (R7) (E7) (f7) (pe7) _ _ _ (by have := hmeas254; omega) (hW309) (hst7) (hgo7) (by omega) hP hD hS (lv_sub hl [0, 1, 2, 3] rfl)
                    exact loop247 _ mem233 (J234) (A235) (nn236) (a6) (u6) (R6) (E6) (f6) (pe6) _ _ _ (Nat.lt_succ_self _) (hW237) (hst6) (Goes9.rf _) (by omega) hP hD hS (lv_sub hl [0, 2, 3, 4] rfl)
                · exact absurd hb220 (by decide)
              · exact absurd hb219 (by decide)
      · refine lv_aload_n Bx.1 Bx.2.1 d_Mo_readRule_31 rfl (lv_at hl 2 rfl) ?_
        refine lv_iconst (v := 1) Bx.1 Bx.2.1 d_Mo_readRule_32 (by decide) ?_
        refine lv_aload_n Bx.1 Bx.2.1 d_Mo_readRule_33 rfl (lv_at hl 2 rfl) ?_
        refine f_get Bx hP (by omega) hW41.1 rfl inMo 16 (by decide) kw_672 rfl rfl d_Mo_readRule_34 ?_
        rw [kk50]
        refine f_callVv (na := 2) (As := [.int (1), .int (nI a38)]) (rest := []) Bx hml E hP hD hS (by omega) hW41.1 rfl (m_Mo_wrong l hn hW41 (Or.inl kk48) (by first | exact Or.inl rfl | exact Or.inr rfl)) kw_799 kw_801 sel_Mo_wrong kw_8 kw_802 (by decide +kernel) ⟨rfl, rfl⟩ ⟨Nat.le_of_ble_eq_true rfl, Nat.le_of_ble_eq_true rfl⟩ rfl hl.1 (Nat.le_of_ble_eq_true rfl) d_Mo_readRule_37 ⟨Nat.le_of_ble_eq_true rfl, Nat.le_of_ble_eq_true rfl⟩ (fun mem320 H locs hq hP hS => ?_)
        have hD : va_D (Az sz) (fw n ad mem320) := fw_D hD
        obtain ⟨J321, hW322, hwr323⟩ := hq
        have kk324 : J321 1 = nI L := (show J321 1 = J42 1 from hwr323.2 1 (by decide) (by decide)).trans kk44
        have kk325 : J321 24 = nI G := (show J321 24 = J42 24 from hwr323.2 24 (by decide) (by decide)).trans kk45
        have kk326 : J321 14 = nI u := (show J321 14 = J42 14 from hwr323.2 14 (by decide) (by decide)).trans kk46
        have kk327 : J321 7 = nI Ec := (show J321 7 = J42 7 from hwr323.2 7 (by decide) (by decide)).trans kk47
        have kk328 : J321 4 = nI R18 := (show J321 4 = J42 4 from hwr323.2 4 (by decide) (by decide)).trans kk49
        have kk329 : J321 16 = nI a38 := (show J321 16 = J42 16 from hwr323.2 16 (by decide) (by decide)).trans kk50
        exact W.vret hx hb hr (fun t ht hW => ⟨⟨mem320, rfl, ⟨J321, A4, nn5, hW322, Or.inl ⟨⟨kk324, kk325, hT9, hwr323.1, _, by omega, kk329⟩, Or.inl ⟨rule_e hsn13 (by rw [← ea43]; exact hb53), rfl⟩⟩⟩, by show va_P _ _ _ t.heap; rw [ht]; exact hP⟩, hS.F ht⟩) hS.2.2 d_Mo_readRule_40
    · exact absurd hb35 (by decide)
set_option maxHeartbeats 4000000 in
set_option maxRecDepth 100000 in
theorem m_Mo_readX (l : Launch) {D : va_G} {cy : Nat → ClassId} {sz n : Nat} {ad : Nat → Nat} {mem : Nat → va_E} {J : Nat → Int32} {A : Nat → Nat → Int32} {nm : Nat → Int64} {m0 : Nat → va_E} {L G : Nat} {T : Nat → Int32} {m1 : Nat → va_E} (hn : 242 ≤ n) (hM : MW cy ad J A nm m0 mem) (h1 : J 1 = nI L) (hL : L ≤ 240) (h24 : J 24 = nI G) (hT : A 225 = T) (hm1 : m1 = m0) (hng : NoG m0) : MI l D cy sz n ad y_Mo_read c_Mo_read 2 (some .int) ({ frames := 10, cells := 0, slots := 0, locals := 290 } : Room) mem [.ref (ad 224)] (fun r mem' => ∃ J' A' nm', MW cy ad J' A' nm' m1 mem' ∧ OI L G J' A' ∧ A' 225 = T ∧ (J' 26 = 1 ∧ A' 240 = A 240) ∧ ((RdR T L (lineF T L 0) 0 0 0 A nm none ∧ J' 4 = 0 ∧ J' 7 = 0) ∨ ∃ a' u' R' E' f', RdR T L (lineF T L 0) 0 0 0 A nm (some (a', u', R', E', f', A', nm', false)) ∧ FinN L G T a' u' R' E' J' A' ∧ r = nI R')) := by
  refine Met.ofW (cc := c_Mo_read) (maxL := 2) (ret := (some .int)) (by decide) rfl ?_
  intro p e s m args below meth c s₁ B hml hv
  obtain ⟨rfl, E, hP, hD⟩ := hv
  have hx := B.exec
  have hb := B.bytes
  have hr := B.returns
  have hlocks := B.notSynchronized
  have Bx : MB p s m [.ref (ad 224)].toArray c c_Mo_read "AbnfChartModel" D cy := ⟨hx, hb, tb_all (atoms_spec B.pre) E.2.1, findClass_of_methodNamed B.named, E.1⟩
  have hS : va_S (Az sz) s.heap s.heap [] := va_S.rf
  have hl := lv_entry ([.ref (ad 224)]) (n := 2) (Nat.le_of_ble_eq_true rfl)
  rw [lg_entry_eq]
  generalize (lg_sl ([.ref (ad 224)]) ++ List.replicate (2 - (lg_sl ([.ref (ad 224)])).length) Slot.unset).toArray = ls at hl ⊢
  have hl : lv_has ls 2 [(0, .ref (ad 224))] := hl
  refine lv_aload_n Bx.1 Bx.2.1 d_Mo_read_0 rfl (lv_at hl 0 rfl) ?_
  refine lv_iconst (v := 0) Bx.1 Bx.2.1 d_Mo_read_1 (by decide) ?_
  refine f_put Bx hP hD hS (by omega) hM.1 rfl inMo tyMo okMo nmMo 0 (by decide) kw_656 rfl rfl rfl rfl (Nat.le_of_ble_eq_true rfl) d_Mo_read_2 (fun H locs hP hS => ?_)
  obtain ⟨J1, eJ1⟩ : ∃ z, z = va_up J 0 (0) := ⟨_, rfl⟩
  obtain ⟨mem2, e_mem2⟩ : ∃ z, z = va_up mem 224 (moC ad J1) := ⟨_, rfl⟩
  have hP : va_P D vcl (fw n ad mem2) H := by rw [e_mem2, eJ1]; exact hP
  have hD : va_D (Az sz) (fw n ad mem2) := fw_D hD
  have hW3 : MW cy ad J1 A nm m0 mem2 := by rw [e_mem2]; exact hM.upJ (by rw [eJ1]; exact va_up_ne _ _ (by decide))
  have kk4 : J1 1 = nI L := by rw [eJ1]; exact h1
  have kk5 : J1 24 = nI G := by rw [eJ1]; exact h24
  have kk6 : J1 0 = 0 := by rw [eJ1, va_up_self]
  refine lv_aload_n Bx.1 Bx.2.1 d_Mo_read_5 rfl (lv_at hl 0 rfl) ?_
  refine lv_iconst (v := 0) Bx.1 Bx.2.1 d_Mo_read_6 (by decide) ?_
  refine f_put Bx hP hD hS (by omega) hW3.1 rfl inMo tyMo okMo nmMo 17 (by decide) kw_673 rfl rfl rfl rfl (Nat.le_of_ble_eq_true rfl) d_Mo_read_7 (fun H locs hP hS => ?_)
  obtain ⟨J7, eJ7⟩ : ∃ z, z = va_up J1 17 (0) := ⟨_, rfl⟩
  obtain ⟨mem8, e_mem8⟩ : ∃ z, z = va_up mem2 224 (moC ad J7) := ⟨_, rfl⟩
  have hP : va_P D vcl (fw n ad mem8) H := by rw [e_mem8, eJ7]; exact hP
  have hD : va_D (Az sz) (fw n ad mem8) := fw_D hD
  have hW9 : MW cy ad J7 A nm m0 mem8 := by rw [e_mem8]; exact hW3.upJ (by rw [eJ7]; exact va_up_ne _ _ (by decide))
  have kk10 : J7 1 = nI L := by rw [eJ7]; exact kk4
  have kk11 : J7 24 = nI G := by rw [eJ7]; exact kk5
  have kk12 : J7 0 = 0 := by rw [eJ7]; exact kk6
  have kk13 : J7 17 = 0 := by rw [eJ7, va_up_self]
  refine lv_aload_n Bx.1 Bx.2.1 d_Mo_read_10 rfl (lv_at hl 0 rfl) ?_
  refine lv_iconst (v := -1) Bx.1 Bx.2.1 d_Mo_read_11 (by decide) ?_
  refine f_put Bx hP hD hS (by omega) hW9.1 rfl inMo tyMo okMo nmMo 3 (by decide) kw_659 rfl rfl rfl rfl (Nat.le_of_ble_eq_true rfl) d_Mo_read_12 (fun H locs hP hS => ?_)
  obtain ⟨J14, eJ14⟩ : ∃ z, z = va_up J7 3 ((-1)) := ⟨_, rfl⟩
  obtain ⟨mem15, e_mem15⟩ : ∃ z, z = va_up mem8 224 (moC ad J14) := ⟨_, rfl⟩
  have hP : va_P D vcl (fw n ad mem15) H := by rw [e_mem15, eJ14]; exact hP
  have hD : va_D (Az sz) (fw n ad mem15) := fw_D hD
  have hW16 : MW cy ad J14 A nm m0 mem15 := by rw [e_mem15]; exact hW9.upJ (by rw [eJ14]; exact va_up_ne _ _ (by decide))
  have kk17 : J14 1 = nI L := by rw [eJ14]; exact kk10
  have kk18 : J14 24 = nI G := by rw [eJ14]; exact kk11
  have kk19 : J14 0 = 0 := by rw [eJ14]; exact kk12
  have kk20 : J14 17 = 0 := by rw [eJ14]; exact kk13
  have kk21 : J14 3 = (-1) := by rw [eJ14, va_up_self]
  refine lv_aload_n Bx.1 Bx.2.1 d_Mo_read_15 rfl (lv_at hl 0 rfl) ?_
  refine lv_iconst (v := 0) Bx.1 Bx.2.1 d_Mo_read_16 (by decide) ?_
  refine f_put Bx hP hD hS (by omega) hW16.1 rfl inMo tyMo okMo nmMo 4 (by decide) kw_660 rfl rfl rfl rfl (Nat.le_of_ble_eq_true rfl) d_Mo_read_17 (fun H locs hP hS => ?_)
  obtain ⟨J22, eJ22⟩ : ∃ z, z = va_up J14 4 (0) := ⟨_, rfl⟩
  obtain ⟨mem23, e_mem23⟩ : ∃ z, z = va_up mem15 224 (moC ad J22) := ⟨_, rfl⟩
  have hP : va_P D vcl (fw n ad mem23) H := by rw [e_mem23, eJ22]; exact hP
  have hD : va_D (Az sz) (fw n ad mem23) := fw_D hD
  have hW24 : MW cy ad J22 A nm m0 mem23 := by rw [e_mem23]; exact hW16.upJ (by rw [eJ22]; exact va_up_ne _ _ (by decide))
  have kk25 : J22 1 = nI L := by rw [eJ22]; exact kk17
  have kk26 : J22 24 = nI G := by rw [eJ22]; exact kk18
  have kk27 : J22 0 = 0 := by rw [eJ22]; exact kk19
  have kk28 : J22 17 = 0 := by rw [eJ22]; exact kk20
  have kk29 : J22 3 = (-1) := by rw [eJ22]; exact kk21
  have kk30 : J22 4 = 0 := by rw [eJ22, va_up_self]
  refine lv_aload_n Bx.1 Bx.2.1 d_Mo_read_20 rfl (lv_at hl 0 rfl) ?_
  refine lv_iconst (v := 0) Bx.1 Bx.2.1 d_Mo_read_21 (by decide) ?_
  refine f_put Bx hP hD hS (by omega) hW24.1 rfl inMo tyMo okMo nmMo 7 (by decide) kw_663 rfl rfl rfl rfl (Nat.le_of_ble_eq_true rfl) d_Mo_read_22 (fun H locs hP hS => ?_)
  obtain ⟨J31, eJ31⟩ : ∃ z, z = va_up J22 7 (0) := ⟨_, rfl⟩
  obtain ⟨mem32, e_mem32⟩ : ∃ z, z = va_up mem23 224 (moC ad J31) := ⟨_, rfl⟩
  have hP : va_P D vcl (fw n ad mem32) H := by rw [e_mem32, eJ31]; exact hP
  have hD : va_D (Az sz) (fw n ad mem32) := fw_D hD
  have hW33 : MW cy ad J31 A nm m0 mem32 := by rw [e_mem32]; exact hW24.upJ (by rw [eJ31]; exact va_up_ne _ _ (by decide))
  have kk34 : J31 1 = nI L := by rw [eJ31]; exact kk25
  have kk35 : J31 24 = nI G := by rw [eJ31]; exact kk26
  have kk36 : J31 0 = 0 := by rw [eJ31]; exact kk27
  have kk37 : J31 17 = 0 := by rw [eJ31]; exact kk28
  have kk38 : J31 3 = (-1) := by rw [eJ31]; exact kk29
  have kk39 : J31 4 = 0 := by rw [eJ31]; exact kk30
  have kk40 : J31 7 = 0 := by rw [eJ31, va_up_self]
  refine lv_aload_n Bx.1 Bx.2.1 d_Mo_read_25 rfl (lv_at hl 0 rfl) ?_
  refine lv_iconst (v := 0) Bx.1 Bx.2.1 d_Mo_read_26 (by decide) ?_
  refine f_put Bx hP hD hS (by omega) hW33.1 rfl inMo tyMo okMo nmMo 14 (by decide) kw_670 rfl rfl rfl rfl (Nat.le_of_ble_eq_true rfl) d_Mo_read_27 (fun H locs hP hS => ?_)
  obtain ⟨J41, eJ41⟩ : ∃ z, z = va_up J31 14 (0) := ⟨_, rfl⟩
  obtain ⟨mem42, e_mem42⟩ : ∃ z, z = va_up mem32 224 (moC ad J41) := ⟨_, rfl⟩
  have hP : va_P D vcl (fw n ad mem42) H := by rw [e_mem42, eJ41]; exact hP
  have hD : va_D (Az sz) (fw n ad mem42) := fw_D hD
  have hW43 : MW cy ad J41 A nm m0 mem42 := by rw [e_mem42]; exact hW33.upJ (by rw [eJ41]; exact va_up_ne _ _ (by decide))
  have kk44 : J41 1 = nI L := by rw [eJ41]; exact kk34
  have kk45 : J41 24 = nI G := by rw [eJ41]; exact kk35
  have kk46 : J41 0 = 0 := by rw [eJ41]; exact kk36
  have kk47 : J41 17 = 0 := by rw [eJ41]; exact kk37
  have kk48 : J41 3 = (-1) := by rw [eJ41]; exact kk38
  have kk49 : J41 4 = 0 := by rw [eJ41]; exact kk39
  have kk50 : J41 7 = 0 := by rw [eJ41]; exact kk40
  have kk51 : J41 14 = 0 := by rw [eJ41, va_up_self]
  refine lv_aload_n Bx.1 Bx.2.1 d_Mo_read_30 rfl (lv_at hl 0 rfl) ?_
  refine lv_iconst (v := 1) Bx.1 Bx.2.1 d_Mo_read_31 (by decide) ?_
  refine f_put Bx hP hD hS (by omega) hW43.1 rfl inMo tyMo okMo nmMo 26 (by decide) kw_682 rfl rfl rfl rfl (Nat.le_of_ble_eq_true rfl) d_Mo_read_32 (fun H locs hP hS => ?_)
  obtain ⟨J52, eJ52⟩ : ∃ z, z = va_up J41 26 (1) := ⟨_, rfl⟩
  obtain ⟨mem53, e_mem53⟩ : ∃ z, z = va_up mem42 224 (moC ad J52) := ⟨_, rfl⟩
  have hP : va_P D vcl (fw n ad mem53) H := by rw [e_mem53, eJ52]; exact hP
  have hD : va_D (Az sz) (fw n ad mem53) := fw_D hD
  have hW54 : MW cy ad J52 A nm m0 mem53 := by rw [e_mem53]; exact hW43.upG hng
  have kk55 : J52 1 = nI L := by rw [eJ52]; exact kk44
  have kk56 : J52 24 = nI G := by rw [eJ52]; exact kk45
  have kk57 : J52 0 = 0 := by rw [eJ52]; exact kk46
  have kk58 : J52 17 = 0 := by rw [eJ52]; exact kk47
  have kk59 : J52 3 = (-1) := by rw [eJ52]; exact kk48
  have kk60 : J52 4 = 0 := by rw [eJ52]; exact kk49
  have kk61 : J52 7 = 0 := by rw [eJ52]; exact kk50
  have kk62 : J52 14 = 0 := by rw [eJ52]; exact kk51
  have kk63 : J52 26 = 1 := by rw [eJ52, va_up_self]
  refine lv_aload_n Bx.1 Bx.2.1 d_Mo_read_35 rfl (lv_at hl 0 rfl) ?_
  refine lv_iconst (v := 0) Bx.1 Bx.2.1 d_Mo_read_36 (by decide) ?_
  refine f_put Bx hP hD hS (by omega) hW54.1 rfl inMo tyMo okMo nmMo 28 (by decide) kw_684 rfl rfl rfl rfl (Nat.le_of_ble_eq_true rfl) d_Mo_read_37 (fun H locs hP hS => ?_)
  obtain ⟨J64, eJ64⟩ : ∃ z, z = va_up J52 28 (0) := ⟨_, rfl⟩
  obtain ⟨mem65, e_mem65⟩ : ∃ z, z = va_up mem53 224 (moC ad J64) := ⟨_, rfl⟩
  have hP : va_P D vcl (fw n ad mem65) H := by rw [e_mem65, eJ64]; exact hP
  have hD : va_D (Az sz) (fw n ad mem65) := fw_D hD
  have hW66 : MW cy ad J64 A nm m0 mem65 := by rw [e_mem65]; exact hW54.upJ (by rw [eJ64]; exact va_up_ne _ _ (by decide))
  have kk67 : J64 1 = nI L := by rw [eJ64]; exact kk55
  have kk68 : J64 24 = nI G := by rw [eJ64]; exact kk56
  have kk69 : J64 0 = 0 := by rw [eJ64]; exact kk57
  have kk70 : J64 17 = 0 := by rw [eJ64]; exact kk58
  have kk71 : J64 3 = (-1) := by rw [eJ64]; exact kk59
  have kk72 : J64 4 = 0 := by rw [eJ64]; exact kk60
  have kk73 : J64 7 = 0 := by rw [eJ64]; exact kk61
  have kk74 : J64 14 = 0 := by rw [eJ64]; exact kk62
  have kk75 : J64 26 = 1 := by rw [eJ64]; exact kk63
  have kk76 : J64 28 = 0 := by rw [eJ64, va_up_self]
  refine lv_aload_n Bx.1 Bx.2.1 d_Mo_read_40 rfl (lv_at hl 0 rfl) ?_
  refine lv_aload_n Bx.1 Bx.2.1 d_Mo_read_41 rfl (lv_at hl 0 rfl) ?_
  refine lv_iconst (v := 0) Bx.1 Bx.2.1 d_Mo_read_42 (by decide) ?_
  refine f_callVi (na := 1) (As := [.int (0)]) (rest := [.ref (ad 224)]) Bx hml E hP hD hS (by omega) hW66.1 rfl (m_Mo_lineX l hn hW66 kk67 hL (k0 := 0) (by omega)) kw_770 kw_772 sel_Mo_line kw_8 kw_773 (by decide +kernel) ⟨rfl, rfl⟩ ⟨Nat.le_of_ble_eq_true rfl, Nat.le_of_ble_eq_true rfl⟩ rfl hl.1 (Nat.le_of_ble_eq_true rfl) d_Mo_read_43 ⟨Nat.le_of_ble_eq_true rfl, Nat.le_of_ble_eq_true rfl⟩ (fun r77 mem78 H locs hq hP hS => ?_)
  have hD : va_D (Az sz) (fw n ad mem78) := fw_D hD
  obtain ⟨hre, hq⟩ := hq
  rw [hT] at hre
  rw [hq] at hP hD
  obtain ⟨kl79, ea82⟩ : ∃ z, z = lineF T L (0) := ⟨_, rfl⟩
  have hk80 : 0 ≤ kl79 := by rw [ea82]; exact lineF_ge T (by omega)
  have hk81 : kl79 ≤ L := by rw [ea82]; exact lineF_le T L _
  rw [← ea82] at hre
  subst hre
  refine f_put Bx hP hD hS (by omega) hW66.1 rfl inMo tyMo okMo nmMo 16 (by decide) kw_672 rfl rfl rfl rfl (Nat.le_of_ble_eq_true rfl) d_Mo_read_46 (fun H locs hP hS => ?_)
  obtain ⟨J83, eJ83⟩ : ∃ z, z = va_up J64 16 (nI kl79) := ⟨_, rfl⟩
  obtain ⟨mem84, e_mem84⟩ : ∃ z, z = va_up mem65 224 (moC ad J83) := ⟨_, rfl⟩
  have hP : va_P D vcl (fw n ad mem84) H := by rw [e_mem84, eJ83]; exact hP
  have hD : va_D (Az sz) (fw n ad mem84) := fw_D hD
  have hW85 : MW cy ad J83 A nm m0 mem84 := by rw [e_mem84]; exact hW66.upJ (by rw [eJ83]; exact va_up_ne _ _ (by decide))
  have kk86 : J83 1 = nI L := by rw [eJ83]; exact kk67
  have kk87 : J83 24 = nI G := by rw [eJ83]; exact kk68
  have kk88 : J83 0 = 0 := by rw [eJ83]; exact kk69
  have kk89 : J83 17 = 0 := by rw [eJ83]; exact kk70
  have kk90 : J83 3 = (-1) := by rw [eJ83]; exact kk71
  have kk91 : J83 4 = 0 := by rw [eJ83]; exact kk72
  have kk92 : J83 7 = 0 := by rw [eJ83]; exact kk73
  have kk93 : J83 14 = 0 := by rw [eJ83]; exact kk74
  have kk94 : J83 26 = 1 := by rw [eJ83]; exact kk75
  have kk95 : J83 28 = 0 := by rw [eJ83]; exact kk76
  have kk96 : J83 16 = nI kl79 := by rw [eJ83, va_up_self]
  refine lv_iconst (v := 1) Bx.1 Bx.2.1 d_Mo_read_49 (by decide) ?_
  refine lv_istore_n (lv' := [(1, .int (1)), (0, .ref (ad 224))]) Bx.1 Bx.2.1 d_Mo_read_50 rfl hl (by decide) rfl (fun ls hl => ?_)
  have hng1 : NoG m1 := by rw [hm1]; exact hng
  obtain ⟨mg, em0⟩ : ∃ z, z = va_up (va_up m1 224 (.inr (0, [.int 1]))) 240 (.inl (cy 1, 24, .inl (A 240))) := ⟨_, rfl⟩
  have hWg : MW cy ad J83 A nm mg mem84 := hW85.toG em0 hm1 kk94
  clear hng
  obtain ⟨m0, hm0⟩ : ∃ z, z = mg := ⟨_, rfl⟩
  rw [← hm0] at em0 hWg
  have hz14 : J83 14 = nI 0 := kk93
  have hz4 : J83 4 = nI 0 := kk91
  have hz7 : J83 7 = nI 0 := kk92
  have hfin : FinN L G T kl79 0 0 0 J83 A := ⟨⟨kk86, kk87, kk96, kk89, hz14, hz4, hz7⟩, ⟨by omega, by omega, by omega, by omega, by omega⟩, hT, Gd.zero⟩
  have hrd0 : ∀ o, RdR T L kl79 0 0 0 A nm o → RdR T L (lineF T L 0) 0 0 0 A nm o := fun o z => by rw [← ea82]; exact z
  have loop97 : ∀ (d98 : Nat) (mem9 : Nat → va_E) (J9 : Nat → Int32) (A9 : Nat → Nat → Int32) (n9 : Nat → Int64) (a1 : Nat) (u1 : Nat) (R1 : Nat) (E1 : Nat) (ls : Array Slot) (H : Heap) (locs : List Loc), ((L + 1 - a1) < d98) → (MW cy ad J9 A9 n9 m0 mem9) → (FinN L G T a1 u1 R1 E1 J9 A9) → (∀ o, RdR T L a1 u1 R1 E1 A9 n9 o → RdR T L (lineF T L 0) 0 0 0 A nm o) → (va_P D vcl (fw n ad mem9) H) → (va_D (Az sz) (fw n ad mem9)) → (va_S (Az sz) s.heap H locs) → (lv_has ls 2 [(1, .int (1)), (0, .ref (ad 224))]) → W p l e (headSpec (Cond.code y_Mo_read c_Mo_read 2 (some .int) :: tg) ({ frames := 10, cells := 0, slots := 0, locals := 290 } : Room)).room s m [.ref (ad 224)].toArray below meth c H locs 0 0 (MQ below (va_Qi (fun r mem' => ∃ J' A' nm', MW cy ad J' A' nm' m1 mem' ∧ OI L G J' A' ∧ A' 225 = T ∧ (J' 26 = 1 ∧ A' 240 = A 240) ∧ ((RdR T L (lineF T L 0) 0 0 0 A nm none ∧ J' 4 = 0 ∧ J' 7 = 0) ∨ ∃ a' u' R' E' f', RdR T L (lineF T L 0) 0 0 0 A nm (some (a', u', R', E', f', A', nm', false)) ∧ FinN L G T a' u' R' E' J' A' ∧ r = nI R')) (PP D n ad) (Az sz)) [.ref (ad 224)].toArray s 0 0 (Az sz)) (F0 m 51 ls []) := by
    intro d98
    induction d98 with
    | zero => intro mem9 J9 A9 n9 a1 u1 R1 E1 ls H locs hmeas103; exact absurd hmeas103 (Nat.not_lt_zero _)
    | succ d98 ih102 =>
      intro mem9 J9 A9 n9 a1 u1 R1 E1 ls H locs hmeas103 hz99 hz100 hz101 hP hD hS hl
      obtain ⟨hN1, hB1, hT1, hG1⟩ := hz100
      obtain ⟨-, b2, b3, b4, b5⟩ := hB1
      have hrd9 := hz101
      obtain ⟨g104, g105, g106, g107, g108, g109, g110⟩ := hN1
      refine lv_iload_n Bx.1 Bx.2.1 d_Mo_read_51 rfl (lv_at hl 0 rfl) ?_
      refine lv_if_eq Bx.1 Bx.2.1 d_Mo_read_52 rfl (fun hb111 => ?_) (fun hb111 => ?_)
      · exact absurd hb111 (by decide)
      · refine lv_aload_n Bx.1 Bx.2.1 d_Mo_read_55 rfl (lv_at hl 1 rfl) ?_
        refine f_get Bx hP (by omega) hz99.1 rfl inMo 17 (by decide) kw_673 rfl rfl d_Mo_read_56 ?_
        rw [g107]
        refine lv_if_ne Bx.1 Bx.2.1 d_Mo_read_59 rfl (fun hb112 => ?_) (fun hb112 => ?_)
        · exact absurd hb112 (by decide)
        · refine lv_aload_n Bx.1 Bx.2.1 d_Mo_read_62 rfl (lv_at hl 1 rfl) ?_
          refine f_callVi (na := 0) (As := []) (rest := []) Bx hml E hP hD hS (by omega) hz99.1 rfl (m_Mo_here l hn hz99 g104 hL g106 (by omega)) kw_778 kw_780 sel_Mo_here kw_8 kw_781 (by decide +kernel) ⟨rfl, rfl⟩ ⟨Nat.le_of_ble_eq_true rfl, Nat.le_of_ble_eq_true rfl⟩ rfl hl.1 (Nat.le_of_ble_eq_true rfl) d_Mo_read_63 ⟨Nat.le_of_ble_eq_true rfl, Nat.le_of_ble_eq_true rfl⟩ (fun r113 mem114 H locs hq hP hS => ?_)
          have hD : va_D (Az sz) (fw n ad mem114) := fw_D hD
          obtain ⟨hre, hq⟩ := hq
          rw [hq] at hP hD
          subst hre
          rw [show hereF L (A9 225) (a1) = hereF L T (a1) by rw [hT1]]
          refine f_callSi (na := 1) (As := [.int (hereF L T (a1))]) (rest := []) Bx hml E.2.1 (m_Mo_letter l (hereF L T (a1))) kw_782 kw_783 kw_8 kw_784 (by decide +kernel) ⟨rfl, rfl⟩ ⟨Nat.le_of_ble_eq_true rfl, Nat.le_of_ble_eq_true rfl⟩ rfl hl.1 (Nat.le_of_ble_eq_true rfl) d_Mo_read_66 ⟨Nat.le_of_ble_eq_true rfl, Nat.le_of_ble_eq_true rfl⟩ (fun r116 hs115 => ?_)
          subst hs115
          refine lv_if_eq Bx.1 Bx.2.1 d_Mo_read_69 rfl (fun hb117 => ?_) (fun hb117 => ?_)
          · refine lv_aload_n Bx.1 Bx.2.1 d_Mo_read_79 rfl (lv_at hl 1 rfl) ?_
            refine lv_iconst (v := 1) Bx.1 Bx.2.1 d_Mo_read_80 (by decide) ?_
            refine lv_aload_n Bx.1 Bx.2.1 d_Mo_read_81 rfl (lv_at hl 1 rfl) ?_
            refine f_get Bx hP (by omega) hz99.1 rfl inMo 16 (by decide) kw_672 rfl rfl d_Mo_read_82 ?_
            rw [g106]
            refine f_callVv (na := 2) (As := [.int (1), .int (nI a1)]) (rest := []) Bx hml E hP hD hS (by omega) hz99.1 rfl (m_Mo_wrong l hn hz99 (Or.inl g107) (by first | exact Or.inl rfl | exact Or.inr rfl)) kw_799 kw_801 sel_Mo_wrong kw_8 kw_802 (by decide +kernel) ⟨rfl, rfl⟩ ⟨Nat.le_of_ble_eq_true rfl, Nat.le_of_ble_eq_true rfl⟩ rfl hl.1 (Nat.le_of_ble_eq_true rfl) d_Mo_read_85 ⟨Nat.le_of_ble_eq_true rfl, Nat.le_of_ble_eq_true rfl⟩ (fun mem119 H locs hq hP hS => ?_)
            have hD : va_D (Az sz) (fw n ad mem119) := fw_D hD
            obtain ⟨J120, hW121, hwr122⟩ := hq
            have kk123 : J120 1 = nI L := (show J120 1 = J9 1 from hwr122.2 1 (by decide) (by decide)).trans g104
            have kk124 : J120 24 = nI G := (show J120 24 = J9 24 from hwr122.2 24 (by decide) (by decide)).trans g105
            have kk125 : J120 16 = nI a1 := (show J120 16 = J9 16 from hwr122.2 16 (by decide) (by decide)).trans g106
            have kk126 : J120 14 = nI u1 := (show J120 14 = J9 14 from hwr122.2 14 (by decide) (by decide)).trans g108
            have kk127 : J120 4 = nI R1 := (show J120 4 = J9 4 from hwr122.2 4 (by decide) (by decide)).trans g109
            have kk128 : J120 7 = nI E1 := (show J120 7 = J9 7 from hwr122.2 7 (by decide) (by decide)).trans g110
            refine lv_aload_n Bx.1 Bx.2.1 d_Mo_read_88 rfl (lv_at hl 1 rfl) ?_
            refine f_get Bx hP (by omega) hW121.1 rfl inMo 17 (by decide) kw_673 rfl rfl d_Mo_read_89 ?_
            refine lv_if_ne Bx.1 Bx.2.1 d_Mo_read_92 rfl (fun hb129 => ?_) (fun hb129 => ?_)
            · refine lv_iconst (v := 0) Bx.1 Bx.2.1 d_Mo_read_127 (by decide) ?_
              refine lv_istore_n (lv' := [(1, .int (0)), (0, .ref (ad 224))]) Bx.1 Bx.2.1 d_Mo_read_128 rfl hl (by decide) rfl (fun ls hl => ?_)
              refine lv_iload_n Bx.1 Bx.2.1 d_Mo_read_129 rfl (lv_at hl 0 rfl) ?_
              refine lv_if_eq Bx.1 Bx.2.1 d_Mo_read_130 rfl (fun hb130 => ?_) (fun hb130 => ?_)
              · refine lv_iload_n Bx.1 Bx.2.1 d_Mo_read_51 rfl (lv_at hl 0 rfl) ?_
                refine lv_if_eq Bx.1 Bx.2.1 d_Mo_read_52 rfl (fun hb131 => ?_) (fun hb131 => ?_)
                · refine lv_aload_n Bx.1 Bx.2.1 d_Mo_read_150 rfl (lv_at hl 1 rfl) ?_
                  refine f_get Bx hP (by omega) hW121.1 rfl inMo 17 (by decide) kw_673 rfl rfl d_Mo_read_151 ?_
                  refine lv_if_ne Bx.1 Bx.2.1 d_Mo_read_154 rfl (fun hb132 => ?_) (fun hb132 => ?_)
                  · refine lv_aload_n Bx.1 Bx.2.1 d_Mo_read_162 rfl (lv_at hl 1 rfl) ?_
                    refine lv_iconst (v := 0) Bx.1 Bx.2.1 d_Mo_read_163 (by decide) ?_
                    refine f_put Bx hP hD hS (by omega) hW121.1 rfl inMo tyMo okMo nmMo 4 (by decide) kw_660 rfl rfl rfl rfl (Nat.le_of_ble_eq_true rfl) d_Mo_read_164 (fun H locs hP hS => ?_)
                    obtain ⟨J133, eJ133⟩ : ∃ z, z = va_up J120 4 (0) := ⟨_, rfl⟩
                    obtain ⟨mem134, e_mem134⟩ : ∃ z, z = va_up mem119 224 (moC ad J133) := ⟨_, rfl⟩
                    have hP : va_P D vcl (fw n ad mem134) H := by rw [e_mem134, eJ133]; exact hP
                    have hD : va_D (Az sz) (fw n ad mem134) := fw_D hD
                    have hW135 : MW cy ad J133 A9 n9 m0 mem134 := by rw [e_mem134]; exact hW121.upJ (by rw [eJ133]; exact va_up_ne _ _ (by decide))
                    have kk136 : J133 1 = nI L := by rw [eJ133]; exact kk123
                    have kk137 : J133 24 = nI G := by rw [eJ133]; exact kk124
                    have kk138 : J133 16 = nI a1 := by rw [eJ133]; exact kk125
                    have kk139 : J133 14 = nI u1 := by rw [eJ133]; exact kk126
                    have kk140 : J133 7 = nI E1 := by rw [eJ133]; exact kk128
                    have kk141 : J133 4 = 0 := by rw [eJ133, va_up_self]
                    have bd142 : b12 (J133 17) := by rw [eJ133]; exact hwr122.1
                    refine lv_aload_n Bx.1 Bx.2.1 d_Mo_read_167 rfl (lv_at hl 1 rfl) ?_
                    refine lv_iconst (v := 0) Bx.1 Bx.2.1 d_Mo_read_168 (by decide) ?_
                    refine f_put Bx hP hD hS (by omega) hW135.1 rfl inMo tyMo okMo nmMo 7 (by decide) kw_663 rfl rfl rfl rfl (Nat.le_of_ble_eq_true rfl) d_Mo_read_169 (fun H locs hP hS => ?_)
                    obtain ⟨J143, eJ143⟩ : ∃ z, z = va_up J133 7 (0) := ⟨_, rfl⟩
                    obtain ⟨mem144, e_mem144⟩ : ∃ z, z = va_up mem134 224 (moC ad J143) := ⟨_, rfl⟩
                    have hP : va_P D vcl (fw n ad mem144) H := by rw [e_mem144, eJ143]; exact hP
                    have hD : va_D (Az sz) (fw n ad mem144) := fw_D hD
                    have hW145 : MW cy ad J143 A9 n9 m0 mem144 := by rw [e_mem144]; exact hW135.upJ (by rw [eJ143]; exact va_up_ne _ _ (by decide))
                    have kk146 : J143 1 = nI L := by rw [eJ143]; exact kk136
                    have kk147 : J143 24 = nI G := by rw [eJ143]; exact kk137
                    have kk148 : J143 16 = nI a1 := by rw [eJ143]; exact kk138
                    have kk149 : J143 14 = nI u1 := by rw [eJ143]; exact kk139
                    have kk150 : J143 4 = 0 := by rw [eJ143]; exact kk141
                    have kk151 : J143 7 = 0 := by rw [eJ143, va_up_self]
                    have bd152 : b12 (J143 17) := by rw [eJ143]; exact bd142
                    refine lv_aload_n Bx.1 Bx.2.1 d_Mo_read_172 rfl (lv_at hl 1 rfl) ?_
                    refine lv_aload_n Bx.1 Bx.2.1 d_Mo_read_173 rfl (lv_at hl 1 rfl) ?_
                    refine f_get Bx hP (by omega) hW145.1 rfl inMo 17 (by decide) kw_673 rfl rfl d_Mo_read_174 ?_
                    refine f_callVi (na := 1) (As := [.int (J143 17)]) (rest := []) Bx hml E hP hD hS (by omega) hW145.1 rfl (m_Mo_fail l hn (J := J143) hW145.1) kw_757 kw_759 sel_Mo_fail kw_8 kw_760 (by decide +kernel) ⟨rfl, rfl⟩ ⟨Nat.le_of_ble_eq_true rfl, Nat.le_of_ble_eq_true rfl⟩ rfl hl.1 (Nat.le_of_ble_eq_true rfl) d_Mo_read_177 ⟨Nat.le_of_ble_eq_true rfl, Nat.le_of_ble_eq_true rfl⟩ (fun r153 mem154 H locs hq hP hS => ?_)
                    have hD : va_D (Az sz) (fw n ad mem154) := fw_D hD
                    obtain ⟨hq0, hq⟩ := hq
                    have hWf : MW cy ad (va_up J143 0 (J143 17)) A9 n9 m0 mem154 := by rw [hq]; exact hW145.upJ (va_up_ne _ _ (by decide))
                    exact W.iret (v := r153) hx hb hr (fun t ht hW => ⟨⟨r153, mem154, rfl, ⟨_, _, _, (hWf.ofG em0 hng1).1, ⟨kk146, kk147, 0, 0, 0, kk150, kk151, by omega, by omega, by omega, Gd.zero⟩, hT1, (hWf.ofG em0 hng1).2, Or.inl ⟨hrd9 _ (RdR.bad0 hb117), kk150, kk151⟩⟩, by show va_P _ _ _ t.heap; rw [ht]; exact hP⟩, hS.F ht⟩) hS.2.2 d_Mo_read_180
                  · exact absurd hb132 hwr122.1.ne
                · exact absurd hb131 (by decide)
              · exact absurd hb130 (by decide)
            · exact absurd hb129 hwr122.1.ne
          · refine lv_aload_n Bx.1 Bx.2.1 d_Mo_read_72 rfl (lv_at hl 1 rfl) ?_
            refine f_callVv (na := 0) (As := []) (rest := []) Bx hml E hP hD hS (by omega) hz99.1 rfl (m_Mo_readRuleX l hn hz99 g104 g105 g106 g107 g108 g109 g110 ⟨hL, by omega, by omega, by omega, by omega⟩ hT1 hG1 hb117) kw_785 kw_787 sel_Mo_readRule kw_8 kw_788 (by decide +kernel) ⟨rfl, rfl⟩ ⟨Nat.le_of_ble_eq_true rfl, Nat.le_of_ble_eq_true rfl⟩ rfl hl.1 (Nat.le_of_ble_eq_true rfl) d_Mo_read_73 ⟨Nat.le_of_ble_eq_true rfl, Nat.le_of_ble_eq_true rfl⟩ (fun mem156 H locs hq hP hS => ?_)
            have hD : va_D (Az sz) (fw n ad mem156) := fw_D hD
            obtain ⟨J157, A158, nn159, hW160, hres161⟩ := hq
            rcases hres161 with ⟨hbad9, hrr2⟩ | ⟨a2, u2, R2, E2, f2, h2, hrr2, hfin2⟩
            · obtain ⟨g162, g163, g164, g165, g166, g167, g168⟩ := hbad9
              refine lv_goto Bx.1 Bx.2.1 d_Mo_read_76 rfl ?_
              refine lv_aload_n Bx.1 Bx.2.1 d_Mo_read_88 rfl (lv_at hl 1 rfl) ?_
              refine f_get Bx hP (by omega) hW160.1 rfl inMo 17 (by decide) kw_673 rfl rfl d_Mo_read_89 ?_
              refine lv_if_ne Bx.1 Bx.2.1 d_Mo_read_92 rfl (fun hb169 => ?_) (fun hb169 => ?_)
              · refine lv_iconst (v := 0) Bx.1 Bx.2.1 d_Mo_read_127 (by decide) ?_
                refine lv_istore_n (lv' := [(1, .int (0)), (0, .ref (ad 224))]) Bx.1 Bx.2.1 d_Mo_read_128 rfl hl (by decide) rfl (fun ls hl => ?_)
                refine lv_iload_n Bx.1 Bx.2.1 d_Mo_read_129 rfl (lv_at hl 0 rfl) ?_
                refine lv_if_eq Bx.1 Bx.2.1 d_Mo_read_130 rfl (fun hb170 => ?_) (fun hb170 => ?_)
                · refine lv_iload_n Bx.1 Bx.2.1 d_Mo_read_51 rfl (lv_at hl 0 rfl) ?_
                  refine lv_if_eq Bx.1 Bx.2.1 d_Mo_read_52 rfl (fun hb171 => ?_) (fun hb171 => ?_)
                  · refine lv_aload_n Bx.1 Bx.2.1 d_Mo_read_150 rfl (lv_at hl 1 rfl) ?_
                    refine f_get Bx hP (by omega) hW160.1 rfl inMo 17 (by decide) kw_673 rfl rfl d_Mo_read_151 ?_
                    refine lv_if_ne Bx.1 Bx.2.1 d_Mo_read_154 rfl (fun hb172 => ?_) (fun hb172 => ?_)
                    · refine lv_aload_n Bx.1 Bx.2.1 d_Mo_read_162 rfl (lv_at hl 1 rfl) ?_
                      refine lv_iconst (v := 0) Bx.1 Bx.2.1 d_Mo_read_163 (by decide) ?_
                      refine f_put Bx hP hD hS (by omega) hW160.1 rfl inMo tyMo okMo nmMo 4 (by decide) kw_660 rfl rfl rfl rfl (Nat.le_of_ble_eq_true rfl) d_Mo_read_164 (fun H locs hP hS => ?_)
                      obtain ⟨J173, eJ173⟩ : ∃ z, z = va_up J157 4 (0) := ⟨_, rfl⟩
                      obtain ⟨mem174, e_mem174⟩ : ∃ z, z = va_up mem156 224 (moC ad J173) := ⟨_, rfl⟩
                      have hP : va_P D vcl (fw n ad mem174) H := by rw [e_mem174, eJ173]; exact hP
                      have hD : va_D (Az sz) (fw n ad mem174) := fw_D hD
                      have hW175 : MW cy ad J173 A158 nn159 m0 mem174 := by rw [e_mem174]; exact hW160.upJ (by rw [eJ173]; exact va_up_ne _ _ (by decide))
                      have kk176 : J173 1 = nI L := by rw [eJ173]; exact g162
                      have kk177 : J173 24 = nI G := by rw [eJ173]; exact g163
                      have kk178 : J173 16 = nI g166 := by rw [eJ173]; exact g168
                      have kk179 : J173 4 = 0 := by rw [eJ173, va_up_self]
                      have bd180 : b12 (J173 17) := by rw [eJ173]; exact g165
                      refine lv_aload_n Bx.1 Bx.2.1 d_Mo_read_167 rfl (lv_at hl 1 rfl) ?_
                      refine lv_iconst (v := 0) Bx.1 Bx.2.1 d_Mo_read_168 (by decide) ?_
                      refine f_put Bx hP hD hS (by omega) hW175.1 rfl inMo tyMo okMo nmMo 7 (by decide) kw_663 rfl rfl rfl rfl (Nat.le_of_ble_eq_true rfl) d_Mo_read_169 (fun H locs hP hS => ?_)
                      obtain ⟨J181, eJ181⟩ : ∃ z, z = va_up J173 7 (0) := ⟨_, rfl⟩
                      obtain ⟨mem182, e_mem182⟩ : ∃ z, z = va_up mem174 224 (moC ad J181) := ⟨_, rfl⟩
                      have hP : va_P D vcl (fw n ad mem182) H := by rw [e_mem182, eJ181]; exact hP
                      have hD : va_D (Az sz) (fw n ad mem182) := fw_D hD
                      have hW183 : MW cy ad J181 A158 nn159 m0 mem182 := by rw [e_mem182]; exact hW175.upJ (by rw [eJ181]; exact va_up_ne _ _ (by decide))
                      have kk184 : J181 1 = nI L := by rw [eJ181]; exact kk176
                      have kk185 : J181 24 = nI G := by rw [eJ181]; exact kk177
                      have kk186 : J181 16 = nI g166 := by rw [eJ181]; exact kk178
                      have kk187 : J181 4 = 0 := by rw [eJ181]; exact kk179
                      have kk188 : J181 7 = 0 := by rw [eJ181, va_up_self]
                      have bd189 : b12 (J181 17) := by rw [eJ181]; exact bd180
                      refine lv_aload_n Bx.1 Bx.2.1 d_Mo_read_172 rfl (lv_at hl 1 rfl) ?_
                      refine lv_aload_n Bx.1 Bx.2.1 d_Mo_read_173 rfl (lv_at hl 1 rfl) ?_
                      refine f_get Bx hP (by omega) hW183.1 rfl inMo 17 (by decide) kw_673 rfl rfl d_Mo_read_174 ?_
                      refine f_callVi (na := 1) (As := [.int (J181 17)]) (rest := []) Bx hml E hP hD hS (by omega) hW183.1 rfl (m_Mo_fail l hn (J := J181) hW183.1) kw_757 kw_759 sel_Mo_fail kw_8 kw_760 (by decide +kernel) ⟨rfl, rfl⟩ ⟨Nat.le_of_ble_eq_true rfl, Nat.le_of_ble_eq_true rfl⟩ rfl hl.1 (Nat.le_of_ble_eq_true rfl) d_Mo_read_177 ⟨Nat.le_of_ble_eq_true rfl, Nat.le_of_ble_eq_true rfl⟩ (fun r190 mem191 H locs hq hP hS => ?_)
                      have hD : va_D (Az sz) (fw n ad mem191) := fw_D hD
                      obtain ⟨hq0, hq⟩ := hq
                      have hWf : MW cy ad (va_up J181 0 (J181 17)) A158 nn159 m0 mem191 := by rw [hq]; exact hW183.upJ (va_up_ne _ _ (by decide))
                      exact W.iret (v := r190) hx hb hr (fun t ht hW => ⟨⟨r190, mem191, rfl, ⟨_, _, _, (hWf.ofG em0 hng1).1, ⟨kk184, kk185, 0, 0, 0, kk187, kk188, by omega, by omega, by omega, Gd.zero⟩, g164, (hWf.ofG em0 hng1).2, Or.inl ⟨hrd9 _ (RdR.bad hb117 hrr2), kk187, kk188⟩⟩, by show va_P _ _ _ t.heap; rw [ht]; exact hP⟩, hS.F ht⟩) hS.2.2 d_Mo_read_180
                    · exact absurd hb172 g165.ne
                  · exact absurd hb171 (by decide)
                · exact absurd hb170 (by decide)
              · exact absurd hb169 g165.ne
            · obtain ⟨hN2, hB2, hT2, hG2⟩ := id hfin2
              obtain ⟨-, c2, c3, c4, c5⟩ := hB2
              obtain ⟨g192, g193, g194, g195, g196, g197, g198⟩ := hN2
              refine lv_goto Bx.1 Bx.2.1 d_Mo_read_76 rfl ?_
              refine lv_aload_n Bx.1 Bx.2.1 d_Mo_read_88 rfl (lv_at hl 1 rfl) ?_
              refine f_get Bx hP (by omega) hW160.1 rfl inMo 17 (by decide) kw_673 rfl rfl d_Mo_read_89 ?_
              rw [g195]
              refine lv_if_ne Bx.1 Bx.2.1 d_Mo_read_92 rfl (fun hb199 => ?_) (fun hb199 => ?_)
              · exact absurd hb199 (by decide)
              · refine lv_aload_n Bx.1 Bx.2.1 d_Mo_read_95 rfl (lv_at hl 1 rfl) ?_
                refine f_get Bx hP (by omega) hW160.1 rfl inMo 16 (by decide) kw_672 rfl rfl d_Mo_read_96 ?_
                rw [g194]
                refine lv_aload_n Bx.1 Bx.2.1 d_Mo_read_99 rfl (lv_at hl 1 rfl) ?_
                refine f_get Bx hP (by omega) hW160.1 rfl inMo 1 (by decide) kw_657 rfl rfl d_Mo_read_100 ?_
                rw [g192]
                refine lv_icmp_ge Bx.1 Bx.2.1 d_Mo_read_103 rfl (fun hb200 => ?_) (fun hb200 => ?_)
                · have hN201 : L ≤ a2 := (nI_leI (by omega) (by omega)).mp (show nI (L) ≤ nI (a2) from hb200)
                  refine lv_iconst (v := 0) Bx.1 Bx.2.1 d_Mo_read_127 (by decide) ?_
                  refine lv_istore_n (lv' := [(1, .int (0)), (0, .ref (ad 224))]) Bx.1 Bx.2.1 d_Mo_read_128 rfl hl (by decide) rfl (fun ls hl => ?_)
                  refine lv_iload_n Bx.1 Bx.2.1 d_Mo_read_129 rfl (lv_at hl 0 rfl) ?_
                  refine lv_if_eq Bx.1 Bx.2.1 d_Mo_read_130 rfl (fun hb202 => ?_) (fun hb202 => ?_)
                  · refine lv_iload_n Bx.1 Bx.2.1 d_Mo_read_51 rfl (lv_at hl 0 rfl) ?_
                    refine lv_if_eq Bx.1 Bx.2.1 d_Mo_read_52 rfl (fun hb203 => ?_) (fun hb203 => ?_)
                    · refine lv_aload_n Bx.1 Bx.2.1 d_Mo_read_150 rfl (lv_at hl 1 rfl) ?_
                      refine f_get Bx hP (by omega) hW160.1 rfl inMo 17 (by decide) kw_673 rfl rfl d_Mo_read_151 ?_
                      rw [g195]
                      refine lv_if_ne Bx.1 Bx.2.1 d_Mo_read_154 rfl (fun hb204 => ?_) (fun hb204 => ?_)
                      · exact absurd hb204 (by decide)
                      · refine lv_aload_n Bx.1 Bx.2.1 d_Mo_read_157 rfl (lv_at hl 1 rfl) ?_
                        refine f_get Bx hP (by omega) hW160.1 rfl inMo 4 (by decide) kw_660 rfl rfl d_Mo_read_158 ?_
                        rw [g197]
                        exact W.iret (v := nI R2) hx hb hr (fun t ht hW => ⟨⟨nI R2, mem156, rfl, ⟨J157, A158, nn159, (hW160.ofG em0 hng1).1, ⟨g192, g193, u2, R2, E2, g197, g198, by omega, by omega, by omega, hG2⟩, hT2, (hW160.ofG em0 hng1).2, Or.inr ⟨a2, u2, R2, E2, f2, hrd9 _ (RdR.last hb117 hrr2 (fun z => absurd z.1 (by omega))), hfin2, rfl⟩⟩, by show va_P _ _ _ t.heap; rw [ht]; exact hP⟩, hS.F ht⟩) hS.2.2 d_Mo_read_161
                    · exact absurd hb203 (by decide)
                  · exact absurd hb202 (by decide)
                · have hN205 : ¬ L ≤ a2 := fun q9 => hb200 (show nI (L) ≤ nI (a2) from (nI_leI (by omega) (by omega)).mpr q9)
                  refine lv_aload_n Bx.1 Bx.2.1 d_Mo_read_106 rfl (lv_at hl 1 rfl) ?_
                  refine lv_aload_n Bx.1 Bx.2.1 d_Mo_read_107 rfl (lv_at hl 1 rfl) ?_
                  refine f_get Bx hP (by omega) hW160.1 rfl inMo 16 (by decide) kw_672 rfl rfl d_Mo_read_108 ?_
                  rw [g194]
                  refine lv_iconst (v := 1) Bx.1 Bx.2.1 d_Mo_read_111 (by decide) ?_
                  refine lv_iadd Bx.1 Bx.2.1 d_Mo_read_112 ?_
                  rw [show nI a2 + 1 = nI (a2 + 1) from nI_add (a2) (1)]
                  refine f_callVi (na := 1) (As := [.int (nI (a2 + 1))]) (rest := []) Bx hml E hP hD hS (by omega) hW160.1 rfl (m_Mo_lineX l hn hW160 g192 hL (k0 := a2 + 1) (by omega)) kw_770 kw_772 sel_Mo_line kw_8 kw_773 (by decide +kernel) ⟨rfl, rfl⟩ ⟨Nat.le_of_ble_eq_true rfl, Nat.le_of_ble_eq_true rfl⟩ rfl hl.1 (Nat.le_of_ble_eq_true rfl) d_Mo_read_113 ⟨Nat.le_of_ble_eq_true rfl, Nat.le_of_ble_eq_true rfl⟩ (fun r206 mem207 H locs hq hP hS => ?_)
                  have hD : va_D (Az sz) (fw n ad mem207) := fw_D hD
                  obtain ⟨hre, hq⟩ := hq
                  rw [hT2] at hre
                  rw [hq] at hP hD
                  obtain ⟨kl208, ea211⟩ : ∃ z, z = lineF T L (a2 + 1) := ⟨_, rfl⟩
                  have hk209 : a2 + 1 ≤ kl208 := by rw [ea211]; exact lineF_ge T (by omega)
                  have hk210 : kl208 ≤ L := by rw [ea211]; exact lineF_le T L _
                  rw [← ea211] at hre
                  subst hre
                  refine lv_aload_n Bx.1 Bx.2.1 d_Mo_read_116 rfl (lv_at hl 1 rfl) ?_
                  refine f_get Bx hP (by omega) hW160.1 rfl inMo 1 (by decide) kw_657 rfl rfl d_Mo_read_117 ?_
                  rw [g192]
                  refine lv_icmp_ge Bx.1 Bx.2.1 d_Mo_read_120 rfl (fun hb212 => ?_) (fun hb212 => ?_)
                  · have hN213 : L ≤ kl208 := (nI_leI (by omega) (by omega)).mp (show nI (L) ≤ nI (kl208) from hb212)
                    refine lv_iconst (v := 0) Bx.1 Bx.2.1 d_Mo_read_127 (by decide) ?_
                    refine lv_istore_n (lv' := [(1, .int (0)), (0, .ref (ad 224))]) Bx.1 Bx.2.1 d_Mo_read_128 rfl hl (by decide) rfl (fun ls hl => ?_)
                    refine lv_iload_n Bx.1 Bx.2.1 d_Mo_read_129 rfl (lv_at hl 0 rfl) ?_
                    refine lv_if_eq Bx.1 Bx.2.1 d_Mo_read_130 rfl (fun hb214 => ?_) (fun hb214 => ?_)
                    · refine lv_iload_n Bx.1 Bx.2.1 d_Mo_read_51 rfl (lv_at hl 0 rfl) ?_
                      refine lv_if_eq Bx.1 Bx.2.1 d_Mo_read_52 rfl (fun hb215 => ?_) (fun hb215 => ?_)
                      · refine lv_aload_n Bx.1 Bx.2.1 d_Mo_read_150 rfl (lv_at hl 1 rfl) ?_
                        refine f_get Bx hP (by omega) hW160.1 rfl inMo 17 (by decide) kw_673 rfl rfl d_Mo_read_151 ?_
                        rw [g195]
                        refine lv_if_ne Bx.1 Bx.2.1 d_Mo_read_154 rfl (fun hb216 => ?_) (fun hb216 => ?_)
                        · exact absurd hb216 (by decide)
                        · refine lv_aload_n Bx.1 Bx.2.1 d_Mo_read_157 rfl (lv_at hl 1 rfl) ?_
                          refine f_get Bx hP (by omega) hW160.1 rfl inMo 4 (by decide) kw_660 rfl rfl d_Mo_read_158 ?_
                          rw [g197]
                          exact W.iret (v := nI R2) hx hb hr (fun t ht hW => ⟨⟨nI R2, mem156, rfl, ⟨J157, A158, nn159, (hW160.ofG em0 hng1).1, ⟨g192, g193, u2, R2, E2, g197, g198, by omega, by omega, by omega, hG2⟩, hT2, (hW160.ofG em0 hng1).2, Or.inr ⟨a2, u2, R2, E2, f2, hrd9 _ (RdR.last hb117 hrr2 (fun z => absurd z.2 (by rw [← ea211]; omega))), hfin2, rfl⟩⟩, by show va_P _ _ _ t.heap; rw [ht]; exact hP⟩, hS.F ht⟩) hS.2.2 d_Mo_read_161
                      · exact absurd hb215 (by decide)
                    · exact absurd hb214 (by decide)
                  · have hN217 : ¬ L ≤ kl208 := fun q9 => hb212 (show nI (L) ≤ nI (kl208) from (nI_leI (by omega) (by omega)).mpr q9)
                    refine lv_iconst (v := 1) Bx.1 Bx.2.1 d_Mo_read_123 (by decide) ?_
                    refine lv_goto Bx.1 Bx.2.1 d_Mo_read_124 rfl ?_
                    refine lv_istore_n (lv' := [(1, .int (1)), (0, .ref (ad 224))]) Bx.1 Bx.2.1 d_Mo_read_128 rfl hl (by decide) rfl (fun ls hl => ?_)
                    refine lv_iload_n Bx.1 Bx.2.1 d_Mo_read_129 rfl (lv_at hl 0 rfl) ?_
                    refine lv_if_eq Bx.1 Bx.2.1 d_Mo_read_130 rfl (fun hb218 => ?_) (fun hb218 => ?_)
                    · exact absurd hb218 (by decide)
                    · refine lv_aload_n Bx.1 Bx.2.1 d_Mo_read_133 rfl (lv_at hl 1 rfl) ?_
                      refine lv_aload_n Bx.1 Bx.2.1 d_Mo_read_134 rfl (lv_at hl 1 rfl) ?_
                      refine lv_aload_n Bx.1 Bx.2.1 d_Mo_read_135 rfl (lv_at hl 1 rfl) ?_
                      refine f_get Bx hP (by omega) hW160.1 rfl inMo 16 (by decide) kw_672 rfl rfl d_Mo_read_136 ?_
                      rw [g194]
                      refine lv_iconst (v := 1) Bx.1 Bx.2.1 d_Mo_read_139 (by decide) ?_
                      refine lv_iadd Bx.1 Bx.2.1 d_Mo_read_140 ?_
                      rw [show nI a2 + 1 = nI (a2 + 1) from nI_add (a2) (1)]
                      refine f_callVi (na := 1) (As := [.int (nI (a2 + 1))]) (rest := [.ref (ad 224)]) Bx hml E hP hD hS (by omega) hW160.1 rfl (m_Mo_lineX l hn hW160 g192 hL (k0 := a2 + 1) (by omega)) kw_770 kw_772 sel_Mo_line kw_8 kw_773 (by decide +kernel) ⟨rfl, rfl⟩ ⟨Nat.le_of_ble_eq_true rfl, Nat.le_of_ble_eq_true rfl⟩ rfl hl.1 (Nat.le_of_ble_eq_true rfl) d_Mo_read_141 ⟨Nat.le_of_ble_eq_true rfl, Nat.le_of_ble_eq_true rfl⟩ (fun r219 mem220 H locs hq hP hS => ?_)
                      have hD : va_D (Az sz) (fw n ad mem220) := fw_D hD
                      obtain ⟨hre, hq⟩ := hq
                      rw [hT2] at hre
                      rw [hq] at hP hD
                      obtain ⟨kl221, ea224⟩ : ∃ z, z = lineF T L (a2 + 1) := ⟨_, rfl⟩
                      have hk222 : a2 + 1 ≤ kl221 := by rw [ea224]; exact lineF_ge T (by omega)
                      have hk223 : kl221 ≤ L := by rw [ea224]; exact lineF_le T L _
                      rw [← ea224] at hre
                      subst hre
                      refine f_put Bx hP hD hS (by omega) hW160.1 rfl inMo tyMo okMo nmMo 16 (by decide) kw_672 rfl rfl rfl rfl (Nat.le_of_ble_eq_true rfl) d_Mo_read_144 (fun H locs hP hS => ?_)
                      obtain ⟨J225, eJ225⟩ : ∃ z, z = va_up J157 16 (nI kl221) := ⟨_, rfl⟩
                      obtain ⟨mem226, e_mem226⟩ : ∃ z, z = va_up mem156 224 (moC ad J225) := ⟨_, rfl⟩
                      have hP : va_P D vcl (fw n ad mem226) H := by rw [e_mem226, eJ225]; exact hP
                      have hD : va_D (Az sz) (fw n ad mem226) := fw_D hD
                      have hW227 : MW cy ad J225 A158 nn159 m0 mem226 := by rw [e_mem226]; exact hW160.upJ (by rw [eJ225]; exact va_up_ne _ _ (by decide))
                      have kk228 : J225 1 = nI L := by rw [eJ225]; exact g192
                      have kk229 : J225 24 = nI G := by rw [eJ225]; exact g193
                      have kk230 : J225 17 = 0 := by rw [eJ225]; exact g195
                      have kk231 : J225 14 = nI u2 := by rw [eJ225]; exact g196
                      have kk232 : J225 4 = nI R2 := by rw [eJ225]; exact g197
                      have kk233 : J225 7 = nI E2 := by rw [eJ225]; exact g198
                      have kk234 : J225 16 = nI kl221 := by rw [eJ225, va_up_self]
                      refine lv_goto Bx.1 Bx.2.1 d_Mo_read_147 rfl ?_
                      have hfin3 : FinN L G T kl221 u2 R2 E2 J225 A158 := ⟨⟨kk228, kk229, kk234, kk230, kk231, kk232, kk233⟩, ⟨by omega, by omega, by omega, by omega, by omega⟩, hT2, hG2⟩
                      have hrd3 : ∀ o, RdR T L kl221 u2 R2 E2 A158 nn159 o → RdR T L (lineF T L 0) 0 0 0 A nm o := fun o z => hrd9 o (RdR.more hb117 hrr2 ⟨by omega, by rw [← ea211]; omega⟩ (by rw [← ea224]; exact z))
                      exact ih102 mem226 (J225) (A158) (nn159) (kl221) (u2) (R2) (E2) _ _ _ (by have := hmeas103; omega) (hW227) (hfin3) (hrd3) hP hD hS (lv_sub hl [0, 1] rfl)
  exact loop97 _ mem84 (J83) (A) (nm) (kl79) (0) (0) (0) _ _ _ (Nat.lt_succ_self _) (hWg) (hfin) (hrd0) hP hD hS (lv_sub hl [0, 1] rfl)
