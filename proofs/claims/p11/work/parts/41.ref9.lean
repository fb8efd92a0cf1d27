set_option maxHeartbeats 4000000 in
set_option maxRecDepth 100000 in
theorem m_Mo_readRule (l : Launch) {D : va_G} {cy : Nat → ClassId} {sz n : Nat} {ad : Nat → Nat} {mem : Nat → va_E} {J : Nat → Int32} {A : Nat → Nat → Int32} {nm : Nat → Int64} {m0 : Nat → va_E} {L G a u R Ec : Nat} {T : Nat → Int32} (hn : 242 ≤ n) (hM : MW cy ad J A nm m0 mem) (h1 : J 1 = nI L) (h24 : J 24 = nI G) (h16 : J 16 = nI a) (h17 : J 17 = 0) (h14 : J 14 = nI u) (h4 : J 4 = nI R) (h7 : J 7 = nI Ec) (hBd : L ≤ 240 ∧ a ≤ L ∧ u ≤ a ∧ R ≤ 12 ∧ Ec ≤ 100) (hT : A 225 = T) (hG : Gd R Ec u A) (hlet : ltF (hereF L T a) ≠ 0) : MV l D cy sz n ad y_Mo_readRule c_Mo_readRule 5 ({ frames := 9, cells := 0, slots := 0, locals := 260 } : Room) mem [.ref (ad 224)] (fun mem' => ∃ J' A' nm', MW cy ad J' A' nm' m0 mem' ∧ (BAD L G T J' A' ∨ ∃ a', a < a' ∧ FinS L G T a' J' A')) := by
  refine Met.ofW (cc := c_Mo_readRule) (maxL := 5) (ret := none) (by decide) rfl ?_
  intro p e s m args below meth c s₁ B hml hv
  obtain ⟨rfl, E, hP, hD⟩ := hv
  have hx := B.exec
  have hb := B.bytes
  have hr := B.returns
  have hlocks := B.notSynchronized
  have Bx : MB p s m [.ref (ad 224)].toArray c c_Mo_readRule "AbnfChartModel" D cy := ⟨hx, hb, tb_all (atoms_spec B.pre) E.2.1, findClass_of_methodNamed B.named, E.1⟩
  have hS : va_S (Az sz) s.heap s.heap [] := va_S.rf
  have hl := lv_entry ([.ref (ad 224)]) (n := 5) (Nat.le_of_ble_eq_true rfl)
  rw [lg_entry_eq]
  generalize (lg_sl ([.ref (ad 224)]) ++ List.replicate (5 - (lg_sl ([.ref (ad 224)])).length) Slot.unset).toArray = ls at hl ⊢
  have hl : lv_has ls 5 [(0, .ref (ad 224))] := hl
  obtain ⟨hL, haL, huA, hRb, hEb⟩ := hBd
  refine lv_aload_n Bx.1 Bx.2.1 d_Mo_readRule_0 rfl (lv_at hl 0 rfl) ?_
  refine f_get Bx hP (by omega) hM.1 rfl inMo 16 (by decide) kw_672 rfl rfl d_Mo_readRule_1 ?_
  rw [h16]
  refine lv_istore_n (lv' := [(1, .int (nI a)), (0, .ref (ad 224))]) Bx.1 Bx.2.1 d_Mo_readRule_4 rfl hl (by decide) rfl (fun ls hl => ?_)
  refine lv_aload_n Bx.1 Bx.2.1 d_Mo_readRule_5 rfl (lv_at hl 1 rfl) ?_
  refine f_callVi (na := 0) (As := []) (rest := []) Bx hml E hP hD hS (by omega) hM.1 rfl (m_Mo_name l hn hM h1 hL h16 (by omega) (Or.inl h17) h4 hRb (by rw [hT]; exact hlet)) kw_789 kw_791 sel_Mo_name kw_8 kw_792 (by decide +kernel) ⟨rfl, rfl⟩ ⟨Nat.le_of_ble_eq_true rfl, Nat.le_of_ble_eq_true rfl⟩ rfl hl.1 (Nat.le_of_ble_eq_true rfl) d_Mo_readRule_6 ⟨Nat.le_of_ble_eq_true rfl, Nat.le_of_ble_eq_true rfl⟩ (fun r1 mem2 H locs hq hP hS => ?_)
  have hD : va_D (Az sz) (fw n ad mem2) := fw_D hD
  obtain ⟨J3, A4, nn5, hW6, a7, hg8, hg9, kk10, hfm11, hcs12⟩ := hq
  rcases hcs12 with ⟨hbad13, hAe14⟩ | ⟨kk15, r16, R17, hre18, hr0_19, hR2_20, kk21, hcase22⟩
  · have hT9 : A4 225 = T := by rw [hAe14]; exact hT
    have kk23 : J3 1 = nI L := (show J3 1 = J 1 from hfm11 1 (by decide) (by decide) (by decide) (by decide)).trans h1
    have kk24 : J3 24 = nI G := (show J3 24 = J 24 from hfm11 24 (by decide) (by decide) (by decide) (by decide)).trans h24
    have kk25 : J3 14 = nI u := (show J3 14 = J 14 from hfm11 14 (by decide) (by decide) (by decide) (by decide)).trans h14
    have kk26 : J3 7 = nI Ec := (show J3 7 = J 7 from hfm11 7 (by decide) (by decide) (by decide) (by decide)).trans h7
    refine lv_istore_n (lv' := [(2, .int (r1)), (1, .int (nI a)), (0, .ref (ad 224))]) Bx.1 Bx.2.1 d_Mo_readRule_9 rfl hl (by decide) rfl (fun ls hl => ?_)
    refine lv_aload_n Bx.1 Bx.2.1 d_Mo_readRule_10 rfl (lv_at hl 2 rfl) ?_
    refine f_get Bx hP (by omega) hW6.1 rfl inMo 17 (by decide) kw_673 rfl rfl d_Mo_readRule_11 ?_
    refine lv_if_le Bx.1 Bx.2.1 d_Mo_readRule_14 rfl (fun hb27 => ?_) (fun hb27 => ?_)
    · exact absurd hb27 hbad13.nle
    · exact W.vret hx hb hr (fun t ht hW => ⟨⟨mem2, rfl, ⟨J3, A4, nn5, hW6, Or.inl ⟨kk23, kk24, hT9, hbad13, _, by omega, kk10⟩⟩, by show va_P _ _ _ t.heap; rw [ht]; exact hP⟩, hS.F ht⟩) hS.2.2 d_Mo_readRule_17
  · subst hre18
    have hG2 : Gd R17 Ec u A4 := by
      rcases hcase22 with ⟨q1, q2⟩ | ⟨q1, q2⟩
      · rw [q1, q2]; exact hG
      · rw [q1, q2]; exact hG.rule
    have hT9 : A4 225 = T := by
      rcases hcase22 with ⟨q1, q2⟩ | ⟨q1, q2⟩
      · rw [q2]; exact hT
      · rw [q2]; exact hT
    have kk28 : J3 1 = nI L := (show J3 1 = J 1 from hfm11 1 (by decide) (by decide) (by decide) (by decide)).trans h1
    have kk29 : J3 24 = nI G := (show J3 24 = J 24 from hfm11 24 (by decide) (by decide) (by decide) (by decide)).trans h24
    have kk30 : J3 14 = nI u := (show J3 14 = J 14 from hfm11 14 (by decide) (by decide) (by decide) (by decide)).trans h14
    have kk31 : J3 7 = nI Ec := (show J3 7 = J 7 from hfm11 7 (by decide) (by decide) (by decide) (by decide)).trans h7
    have kk32 : J3 17 = 0 := kk15.trans h17
    refine lv_istore_n (lv' := [(2, .int (nI r16)), (1, .int (nI a)), (0, .ref (ad 224))]) Bx.1 Bx.2.1 d_Mo_readRule_9 rfl hl (by decide) rfl (fun ls hl => ?_)
    refine lv_aload_n Bx.1 Bx.2.1 d_Mo_readRule_10 rfl (lv_at hl 2 rfl) ?_
    refine f_get Bx hP (by omega) hW6.1 rfl inMo 17 (by decide) kw_673 rfl rfl d_Mo_readRule_11 ?_
    rw [kk32]
    refine lv_if_le Bx.1 Bx.2.1 d_Mo_readRule_14 rfl (fun hb33 => ?_) (fun hb33 => ?_)
    · refine lv_aload_n Bx.1 Bx.2.1 d_Mo_readRule_18 rfl (lv_at hl 2 rfl) ?_
      refine f_callVv (na := 0) (As := []) (rest := []) Bx hml E hP hD hS (by omega) hW6.1 rfl (m_Mo_gap l hn hW6 kk28 hL kk10 (by omega)) kw_803 kw_805 sel_Mo_gap kw_8 kw_806 (by decide +kernel) ⟨rfl, rfl⟩ ⟨Nat.le_of_ble_eq_true rfl, Nat.le_of_ble_eq_true rfl⟩ rfl hl.1 (Nat.le_of_ble_eq_true rfl) d_Mo_readRule_19 ⟨Nat.le_of_ble_eq_true rfl, Nat.le_of_ble_eq_true rfl⟩ (fun mem35 H locs hq hP hS => ?_)
      have hD : va_D (Az sz) (fw n ad mem35) := fw_D hD
      obtain ⟨a36, hg37, hg38, hW39⟩ := hq
      obtain ⟨J40, eJ40⟩ : ∃ z, z = va_up J3 16 (nI a36) := ⟨_, rfl⟩
      rw [← eJ40] at hW39
      have kk41 : J40 1 = nI L := (show J40 1 = J3 1 from by rw [eJ40]; rfl).trans kk28
      have kk42 : J40 24 = nI G := (show J40 24 = J3 24 from by rw [eJ40]; rfl).trans kk29
      have kk43 : J40 14 = nI u := (show J40 14 = J3 14 from by rw [eJ40]; rfl).trans kk30
      have kk44 : J40 7 = nI Ec := (show J40 7 = J3 7 from by rw [eJ40]; rfl).trans kk31
      have kk45 : J40 17 = 0 := (show J40 17 = J3 17 from by rw [eJ40]; rfl).trans kk32
      have kk46 : J40 4 = nI R17 := (show J40 4 = J3 4 from by rw [eJ40]; rfl).trans kk21
      have kk47 : J40 16 = nI a36 := by rw [eJ40, va_up_self]
      refine lv_aload_n Bx.1 Bx.2.1 d_Mo_readRule_22 rfl (lv_at hl 2 rfl) ?_
      refine f_callVi (na := 0) (As := []) (rest := []) Bx hml E hP hD hS (by omega) hW39.1 rfl (m_Mo_here l hn hW39 kk41 hL kk47 (by omega)) kw_778 kw_780 sel_Mo_here kw_8 kw_781 (by decide +kernel) ⟨rfl, rfl⟩ ⟨Nat.le_of_ble_eq_true rfl, Nat.le_of_ble_eq_true rfl⟩ rfl hl.1 (Nat.le_of_ble_eq_true rfl) d_Mo_readRule_23 ⟨Nat.le_of_ble_eq_true rfl, Nat.le_of_ble_eq_true rfl⟩ (fun r48 mem49 H locs hq hP hS => ?_)
      have hD : va_D (Az sz) (fw n ad mem49) := fw_D hD
      obtain ⟨hre, hq⟩ := hq
      rw [hq] at hP hD
      subst hre
      rw [show hereF L (A4 225) (a36) = hereF L T (a36) by rw [hT9]]
      refine lv_bipush (v := 61) Bx.1 Bx.2.1 d_Mo_readRule_26 (by decide) ?_
      refine lv_icmp_eq Bx.1 Bx.2.1 d_Mo_readRule_28 rfl (fun hb50 => ?_) (fun hb50 => ?_)
      · have hlt51 := hereF_lt (by rw [hb50]; decide)
        refine lv_aload_n Bx.1 Bx.2.1 d_Mo_readRule_41 rfl (lv_at hl 2 rfl) ?_
        refine lv_dup Bx.1 Bx.2.1 d_Mo_readRule_42 rfl ?_
        refine f_get Bx hP (by omega) hW39.1 rfl inMo 16 (by decide) kw_672 rfl rfl d_Mo_readRule_43 ?_
        rw [kk47]
        refine lv_iconst (v := 1) Bx.1 Bx.2.1 d_Mo_readRule_46 (by decide) ?_
        refine lv_iadd Bx.1 Bx.2.1 d_Mo_readRule_47 ?_
        rw [show nI a36 + 1 = nI (a36 + 1) from nI_add (a36) (1)]
        refine f_put Bx hP hD hS (by omega) hW39.1 rfl inMo tyMo okMo nmMo 16 (by decide) kw_672 rfl rfl rfl rfl (Nat.le_of_ble_eq_true rfl) d_Mo_readRule_48 (fun H locs hP hS => ?_)
        obtain ⟨J52, eJ52⟩ : ∃ z, z = va_up J40 16 (nI (a36 + 1)) := ⟨_, rfl⟩
        obtain ⟨mem53, e_mem53⟩ : ∃ z, z = va_up mem35 224 (moC ad J52) := ⟨_, rfl⟩
        have hP : va_P D vcl (fw n ad mem53) H := by rw [e_mem53, eJ52]; exact hP
        have hD : va_D (Az sz) (fw n ad mem53) := fw_D hD
        have hW54 : MW cy ad J52 A4 nn5 m0 mem53 := by rw [e_mem53]; exact hW39.upJ (by rw [eJ52]; exact va_up_ne _ _ (by decide))
        have kk55 : J52 1 = nI L := by rw [eJ52]; exact kk41
        have kk56 : J52 24 = nI G := by rw [eJ52]; exact kk42
        have kk57 : J52 14 = nI u := by rw [eJ52]; exact kk43
        have kk58 : J52 7 = nI Ec := by rw [eJ52]; exact kk44
        have kk59 : J52 17 = 0 := by rw [eJ52]; exact kk45
        have kk60 : J52 4 = nI R17 := by rw [eJ52]; exact kk46
        have kk61 : J52 16 = nI (a36 + 1) := by rw [eJ52, va_up_self]
        refine lv_aload_n Bx.1 Bx.2.1 d_Mo_readRule_51 rfl (lv_at hl 2 rfl) ?_
        refine f_callVi (na := 0) (As := []) (rest := []) Bx hml E hP hD hS (by omega) hW54.1 rfl (m_Mo_here l hn hW54 kk55 hL kk61 (by omega)) kw_778 kw_780 sel_Mo_here kw_8 kw_781 (by decide +kernel) ⟨rfl, rfl⟩ ⟨Nat.le_of_ble_eq_true rfl, Nat.le_of_ble_eq_true rfl⟩ rfl hl.1 (Nat.le_of_ble_eq_true rfl) d_Mo_readRule_52 ⟨Nat.le_of_ble_eq_true rfl, Nat.le_of_ble_eq_true rfl⟩ (fun r62 mem63 H locs hq hP hS => ?_)
        have hD : va_D (Az sz) (fw n ad mem63) := fw_D hD
        obtain ⟨hre, hq⟩ := hq
        rw [hq] at hP hD
        subst hre
        rw [show hereF L (A4 225) (a36 + 1) = hereF L T (a36 + 1) by rw [hT9]]
        refine lv_bipush (v := 47) Bx.1 Bx.2.1 d_Mo_readRule_55 (by decide) ?_
        refine lv_icmp_ne Bx.1 Bx.2.1 d_Mo_readRule_57 rfl (fun hb64 => ?_) (fun hb64 => ?_)
        · refine lv_iconst (v := 0) Bx.1 Bx.2.1 d_Mo_readRule_64 (by decide) ?_
          refine lv_istore_n (lv' := [(3, .int (0)), (2, .int (nI r16)), (1, .int (nI a)), (0, .ref (ad 224))]) Bx.1 Bx.2.1 d_Mo_readRule_65 rfl hl (by decide) rfl (fun ls hl => ?_)
          refine lv_aload_n Bx.1 Bx.2.1 d_Mo_readRule_66 rfl (lv_at hl 3 rfl) ?_
          refine lv_dup Bx.1 Bx.2.1 d_Mo_readRule_67 rfl ?_
          refine f_get Bx hP (by omega) hW54.1 rfl inMo 16 (by decide) kw_672 rfl rfl d_Mo_readRule_68 ?_
          rw [kk61]
          refine lv_iload_n Bx.1 Bx.2.1 d_Mo_readRule_71 rfl (lv_at hl 0 rfl) ?_
          refine lv_if_eq Bx.1 Bx.2.1 d_Mo_readRule_72 rfl (fun hb65 => ?_) (fun hb65 => ?_)
          · refine lv_iconst (v := 0) Bx.1 Bx.2.1 d_Mo_readRule_79 (by decide) ?_
            refine lv_iadd Bx.1 Bx.2.1 d_Mo_readRule_80 ?_
            rw [show nI (a36 + 1) + 0 = nI (a36 + 1 + 0) from nI_add (a36 + 1) (0)]
            refine f_put Bx hP hD hS (by omega) hW54.1 rfl inMo tyMo okMo nmMo 16 (by decide) kw_672 rfl rfl rfl rfl (Nat.le_of_ble_eq_true rfl) d_Mo_readRule_81 (fun H locs hP hS => ?_)
            obtain ⟨J66, eJ66⟩ : ∃ z, z = va_up J52 16 (nI (a36 + 1 + 0)) := ⟨_, rfl⟩
            obtain ⟨mem67, e_mem67⟩ : ∃ z, z = va_up mem53 224 (moC ad J66) := ⟨_, rfl⟩
            have hP : va_P D vcl (fw n ad mem67) H := by rw [e_mem67, eJ66]; exact hP
            have hD : va_D (Az sz) (fw n ad mem67) := fw_D hD
            have hW68 : MW cy ad J66 A4 nn5 m0 mem67 := by rw [e_mem67]; exact hW54.upJ (by rw [eJ66]; exact va_up_ne _ _ (by decide))
            have kk69 : J66 1 = nI L := by rw [eJ66]; exact kk55
            have kk70 : J66 24 = nI G := by rw [eJ66]; exact kk56
            have kk71 : J66 14 = nI u := by rw [eJ66]; exact kk57
            have kk72 : J66 7 = nI Ec := by rw [eJ66]; exact kk58
            have kk73 : J66 17 = 0 := by rw [eJ66]; exact kk59
            have kk74 : J66 4 = nI R17 := by rw [eJ66]; exact kk60
            have kk75 : J66 16 = nI (a36 + 1 + 0) := by rw [eJ66, va_up_self]
            refine lv_iload_n Bx.1 Bx.2.1 d_Mo_readRule_84 rfl (lv_at hl 0 rfl) ?_
            refine lv_aload_n Bx.1 Bx.2.1 d_Mo_readRule_85 rfl (lv_at hl 3 rfl) ?_
            refine f_get Bx hP (by omega) hW68.1 rfl inMo 6 (by decide) kw_662 rfl rfl d_Mo_readRule_86 ?_
            refine lv_iload_n Bx.1 Bx.2.1 d_Mo_readRule_89 rfl (lv_at hl 1 rfl) ?_
            refine f_iald Bx hP (by omega) (show mem67 227 = .inl (cy 1, 12, .inl (A4 227)) from hW68.2.2.1 227 (by decide) (by decide) (by decide)) (vp_in_nI (n := r16) (by omega) (by decide)) d_Mo_readRule_90 ?_
            rw [nI_clamp (n := r16) (by omega)]
            refine lv_if_lt Bx.1 Bx.2.1 d_Mo_readRule_91 rfl (fun hb76 => ?_) (fun hb76 => ?_)
            · refine lv_iconst (v := 0) Bx.1 Bx.2.1 d_Mo_readRule_98 (by decide) ?_
              refine lv_icmp_eq Bx.1 Bx.2.1 d_Mo_readRule_99 rfl (fun hb77 => ?_) (fun hb77 => ?_)
              · refine lv_aload_n Bx.1 Bx.2.1 d_Mo_readRule_108 rfl (lv_at hl 3 rfl) ?_
                refine f_get Bx hP (by omega) hW68.1 rfl inMo 17 (by decide) kw_673 rfl rfl d_Mo_readRule_109 ?_
                rw [kk73]
                refine lv_if_le Bx.1 Bx.2.1 d_Mo_readRule_112 rfl (fun hb78 => ?_) (fun hb78 => ?_)
                · refine lv_aload_n Bx.1 Bx.2.1 d_Mo_readRule_116 rfl (lv_at hl 3 rfl) ?_
                  refine lv_iconst (v := 0) Bx.1 Bx.2.1 d_Mo_readRule_117 (by decide) ?_
                  refine f_put Bx hP hD hS (by omega) hW68.1 rfl inMo tyMo okMo nmMo 18 (by decide) kw_674 rfl rfl rfl rfl (Nat.le_of_ble_eq_true rfl) d_Mo_readRule_118 (fun H locs hP hS => ?_)
                  obtain ⟨J79, eJ79⟩ : ∃ z, z = va_up J66 18 (0) := ⟨_, rfl⟩
                  obtain ⟨mem80, e_mem80⟩ : ∃ z, z = va_up mem67 224 (moC ad J79) := ⟨_, rfl⟩
                  have hP : va_P D vcl (fw n ad mem80) H := by rw [e_mem80, eJ79]; exact hP
                  have hD : va_D (Az sz) (fw n ad mem80) := fw_D hD
                  have hW81 : MW cy ad J79 A4 nn5 m0 mem80 := by rw [e_mem80]; exact hW68.upJ (by rw [eJ79]; exact va_up_ne _ _ (by decide))
                  have kk82 : J79 1 = nI L := by rw [eJ79]; exact kk69
                  have kk83 : J79 24 = nI G := by rw [eJ79]; exact kk70
                  have kk84 : J79 14 = nI u := by rw [eJ79]; exact kk71
                  have kk85 : J79 7 = nI Ec := by rw [eJ79]; exact kk72
                  have kk86 : J79 17 = 0 := by rw [eJ79]; exact kk73
                  have kk87 : J79 4 = nI R17 := by rw [eJ79]; exact kk74
                  have kk88 : J79 16 = nI (a36 + 1 + 0) := by rw [eJ79]; exact kk75
                  have kk89 : J79 18 = 0 := by rw [eJ79, va_up_self]
                  refine lv_aload_n Bx.1 Bx.2.1 d_Mo_readRule_121 rfl (lv_at hl 3 rfl) ?_
                  refine lv_iconst (v := 0) Bx.1 Bx.2.1 d_Mo_readRule_122 (by decide) ?_
                  refine lv_iload_n Bx.1 Bx.2.1 d_Mo_readRule_123 rfl (lv_at hl 1 rfl) ?_
                  refine f_callVv (na := 2) (As := [.int (0), .int (nI r16)]) (rest := []) Bx hml E hP hD hS (by omega) hW81.1 rfl (m_Mo_enter0 l hn hW81 kk82 kk83 kk88 kk86 kk84 kk87 kk85 kk89 ⟨hL, by omega, by omega, by omega, by omega⟩ hT9 hG2 hr0_19) kw_807 kw_809 sel_Mo_enter kw_8 kw_810 (by decide +kernel) ⟨rfl, rfl⟩ ⟨Nat.le_of_ble_eq_true rfl, Nat.le_of_ble_eq_true rfl⟩ rfl hl.1 (Nat.le_of_ble_eq_true rfl) d_Mo_readRule_124 ⟨Nat.le_of_ble_eq_true rfl, Nat.le_of_ble_eq_true rfl⟩ (fun mem91 H locs hq hP hS => ?_)
                  have hD : va_D (Az sz) (fw n ad mem91) := fw_D hD
                  obtain ⟨J92, A93, nn94, hW95, hres96⟩ := hq
                  rcases hres96 with hbad97 | ⟨a98, hg99, hst100⟩
                  · obtain ⟨g101, g102, g103, g104, g105, g106, g107⟩ := hbad97
                    refine lv_iconst (v := 1) Bx.1 Bx.2.1 d_Mo_readRule_127 (by decide) ?_
                    refine lv_istore (lv' := [(4, .int (1)), (3, .int (0)), (2, .int (nI r16)), (1, .int (nI a)), (0, .ref (ad 224))]) Bx.1 Bx.2.1 d_Mo_readRule_128 hl (by decide) rfl (fun ls hl => ?_)
                    refine lv_aload_n Bx.1 Bx.2.1 d_Mo_readRule_130 rfl (lv_at hl 4 rfl) ?_
                    refine f_get Bx hP (by omega) hW95.1 rfl inMo 17 (by decide) kw_673 rfl rfl d_Mo_readRule_131 ?_
                    refine lv_if_ne Bx.1 Bx.2.1 d_Mo_readRule_134 rfl (fun hb108 => ?_) (fun hb108 => ?_)
                    · exact W.vret hx hb hr (fun t ht hW => ⟨⟨mem91, rfl, ⟨J92, A93, nn94, hW95, Or.inl ⟨g101, g102, g103, g104, _, by omega, g107⟩⟩, by show va_P _ _ _ t.heap; rw [ht]; exact hP⟩, hS.F ht⟩) hS.2.2 d_Mo_readRule_170
                    · exact absurd hb108 g104.ne
                  · refine lv_iconst (v := 1) Bx.1 Bx.2.1 d_Mo_readRule_127 (by decide) ?_
                    refine lv_istore (lv' := [(4, .int (1)), (3, .int (0)), (2, .int (nI r16)), (1, .int (nI a)), (0, .ref (ad 224))]) Bx.1 Bx.2.1 d_Mo_readRule_128 hl (by decide) rfl (fun ls hl => ?_)
                    have loop109 : ∀ (d110 : Nat) (mem9 : Nat → va_E) (J9 : Nat → Int32) (A9 : Nat → Nat → Int32) (n9 : Nat → Int64) (a1 : Nat) (ls : Array Slot) (H : Heap) (locs : List Loc), ((L + 1 - a1) < d110) → (MW cy ad J9 A9 n9 m0 mem9) → (St L G T a1 J9 A9) → (a < a1) → (va_P D vcl (fw n ad mem9) H) → (va_D (Az sz) (fw n ad mem9)) → (va_S (Az sz) s.heap H locs) → (lv_has ls 5 [(4, .int (1)), (2, .int (nI r16)), (1, .int (nI a)), (0, .ref (ad 224))]) → W p l e (headSpec (Cond.code y_Mo_readRule c_Mo_readRule 5 none :: tg) ({ frames := 9, cells := 0, slots := 0, locals := 260 } : Room)).room s m [.ref (ad 224)].toArray below meth c H locs 0 0 (MQ below (va_Qv (fun mem' => ∃ J' A' nm', MW cy ad J' A' nm' m0 mem' ∧ (BAD L G T J' A' ∨ ∃ a', a < a' ∧ FinS L G T a' J' A')) (PP D n ad) (Az sz)) [.ref (ad 224)].toArray s 0 0 (Az sz)) (F0 m 130 ls []) := by
                      intro d110
                      induction d110 with
                      | zero => intro mem9 J9 A9 n9 a1 ls H locs hmeas115; exact absurd hmeas115 (Nat.not_lt_zero _)
                      | succ d110 ih114 =>
                        intro mem9 J9 A9 n9 a1 ls H locs hmeas115 hz111 hz112 hz113 hP hD hS hl
                        obtain ⟨u1, R1, E1, f1, c1, s1, t1, hN1, hB1, hT1, hpe, hI1, h91⟩ := hz112
                        obtain ⟨-, b2, b3, b4, b5, b6⟩ := hB1
                        obtain ⟨g116, g117, g118, g119, g120, g121, g122, g123⟩ := hN1
                        rcases hpe with hpe | hpe
                        · refine lv_aload_n Bx.1 Bx.2.1 d_Mo_readRule_130 rfl (lv_at hl 3 rfl) ?_
                          refine f_get Bx hP (by omega) hz111.1 rfl inMo 17 (by decide) kw_673 rfl rfl d_Mo_readRule_131 ?_
                          rw [g119]
                          refine lv_if_ne Bx.1 Bx.2.1 d_Mo_readRule_134 rfl (fun hb124 => ?_) (fun hb124 => ?_)
                          · exact absurd hb124 (by decide)
                          · refine lv_iload Bx.1 Bx.2.1 d_Mo_readRule_137 (lv_at hl 0 rfl) ?_
                            refine lv_if_eq Bx.1 Bx.2.1 d_Mo_readRule_139 rfl (fun hb125 => ?_) (fun hb125 => ?_)
                            · exact absurd hb125 (by decide)
                            · refine lv_aload_n Bx.1 Bx.2.1 d_Mo_readRule_142 rfl (lv_at hl 3 rfl) ?_
                              refine f_get Bx hP (by omega) hz111.1 rfl inMo 28 (by decide) kw_684 rfl rfl d_Mo_readRule_143 ?_
                              rw [hpe]
                              refine lv_if_eq Bx.1 Bx.2.1 d_Mo_readRule_146 rfl (fun hb126 => ?_) (fun hb126 => ?_)
                              · refine lv_aload_n Bx.1 Bx.2.1 d_Mo_readRule_161 rfl (lv_at hl 3 rfl) ?_
                                refine f_callVi (na := 0) (As := []) (rest := []) Bx hml E hP hD hS (by omega) hz111.1 rfl (m_Mo_goesOn l hn hz111 ⟨g116, g117, g118, g119, g120, g121, g122, g123⟩ ⟨hL, by omega, by omega, by omega, by omega⟩ (by omega) hT1 hpe (hI1.toT hpe) h91) kw_853 kw_855 sel_Mo_goesOn kw_8 kw_856 (by decide +kernel) ⟨rfl, rfl⟩ ⟨Nat.le_of_ble_eq_true rfl, Nat.le_of_ble_eq_true rfl⟩ rfl hl.1 (Nat.le_of_ble_eq_true rfl) d_Mo_readRule_162 ⟨Nat.le_of_ble_eq_true rfl, Nat.le_of_ble_eq_true rfl⟩ (fun r127 mem128 H locs hq hP hS => ?_)
                                have hD : va_D (Az sz) (fw n ad mem128) := fw_D hD
                                obtain ⟨J129, A130, nn131, hW132, hgo⟩ := hq
                                rcases hgo with ⟨hre, hres9⟩ | ⟨hre, a7, h7, hfin⟩
                                · subst hre
                                  refine lv_istore (lv' := [(4, .int (1)), (2, .int (nI r16)), (1, .int (nI a)), (0, .ref (ad 224))]) Bx.1 Bx.2.1 d_Mo_readRule_165 hl (by decide) rfl (fun ls hl => ?_)
                                  rcases hres9 with hbad133 | ⟨a134, hg135, hst136⟩
                                  · obtain ⟨g137, g138, g139, g140, g141, g142, g143⟩ := hbad133
                                    refine lv_goto Bx.1 Bx.2.1 d_Mo_readRule_167 rfl ?_
                                    refine lv_aload_n Bx.1 Bx.2.1 d_Mo_readRule_130 rfl (lv_at hl 3 rfl) ?_
                                    refine f_get Bx hP (by omega) hW132.1 rfl inMo 17 (by decide) kw_673 rfl rfl d_Mo_readRule_131 ?_
                                    refine lv_if_ne Bx.1 Bx.2.1 d_Mo_readRule_134 rfl (fun hb144 => ?_) (fun hb144 => ?_)
                                    · exact W.vret hx hb hr (fun t ht hW => ⟨⟨mem128, rfl, ⟨J129, A130, nn131, hW132, Or.inl ⟨g137, g138, g139, g140, _, by omega, g143⟩⟩, by show va_P _ _ _ t.heap; rw [ht]; exact hP⟩, hS.F ht⟩) hS.2.2 d_Mo_readRule_170
                                    · exact absurd hb144 g140.ne
                                  · refine lv_goto Bx.1 Bx.2.1 d_Mo_readRule_167 rfl ?_
                                    have hle : a134 ≤ L := by obtain ⟨_, _, _, _, _, _, _, _, hb, _⟩ := hst136; exact hb.2.1
                                    exact ih114 mem128 (J129) (A130) (nn131) (a134) _ _ _ (by have := hmeas115; omega) (hW132) (hst136) (by omega) hP hD hS (lv_sub hl [0, 1, 2, 3] rfl)
                                · subst hre
                                  obtain ⟨u2, R2, E2, hN2, hB2, hT2, hG2⟩ := id hfin
                                  obtain ⟨g145, g146, g147, g148, g149, g150, g151⟩ := hN2
                                  refine lv_istore (lv' := [(4, .int (0)), (2, .int (nI r16)), (1, .int (nI a)), (0, .ref (ad 224))]) Bx.1 Bx.2.1 d_Mo_readRule_165 hl (by decide) rfl (fun ls hl => ?_)
                                  refine lv_goto Bx.1 Bx.2.1 d_Mo_readRule_167 rfl ?_
                                  refine lv_aload_n Bx.1 Bx.2.1 d_Mo_readRule_130 rfl (lv_at hl 3 rfl) ?_
                                  refine f_get Bx hP (by omega) hW132.1 rfl inMo 17 (by decide) kw_673 rfl rfl d_Mo_readRule_131 ?_
                                  rw [g148]
                                  refine lv_if_ne Bx.1 Bx.2.1 d_Mo_readRule_134 rfl (fun hb152 => ?_) (fun hb152 => ?_)
                                  · exact absurd hb152 (by decide)
                                  · refine lv_iload Bx.1 Bx.2.1 d_Mo_readRule_137 (lv_at hl 0 rfl) ?_
                                    refine lv_if_eq Bx.1 Bx.2.1 d_Mo_readRule_139 rfl (fun hb153 => ?_) (fun hb153 => ?_)
                                    · exact W.vret hx hb hr (fun t ht hW => ⟨⟨mem128, rfl, ⟨J129, A130, nn131, hW132, Or.inr ⟨a7, by omega, hfin⟩⟩, by show va_P _ _ _ t.heap; rw [ht]; exact hP⟩, hS.F ht⟩) hS.2.2 d_Mo_readRule_170
                                    · exact absurd hb153 (by decide)
                              · exact absurd hb126 (by decide)
                        · refine lv_aload_n Bx.1 Bx.2.1 d_Mo_readRule_130 rfl (lv_at hl 3 rfl) ?_
                          refine f_get Bx hP (by omega) hz111.1 rfl inMo 17 (by decide) kw_673 rfl rfl d_Mo_readRule_131 ?_
                          rw [g119]
                          refine lv_if_ne Bx.1 Bx.2.1 d_Mo_readRule_134 rfl (fun hb154 => ?_) (fun hb154 => ?_)
                          · exact absurd hb154 (by decide)
                          · refine lv_iload Bx.1 Bx.2.1 d_Mo_readRule_137 (lv_at hl 0 rfl) ?_
                            refine lv_if_eq Bx.1 Bx.2.1 d_Mo_readRule_139 rfl (fun hb155 => ?_) (fun hb155 => ?_)
                            · exact absurd hb155 (by decide)
                            · refine lv_aload_n Bx.1 Bx.2.1 d_Mo_readRule_142 rfl (lv_at hl 3 rfl) ?_
                              refine f_get Bx hP (by omega) hz111.1 rfl inMo 28 (by decide) kw_684 rfl rfl d_Mo_readRule_143 ?_
                              rw [hpe]
                              refine lv_if_eq Bx.1 Bx.2.1 d_Mo_readRule_146 rfl (fun hb156 => ?_) (fun hb156 => ?_)
                              · exact absurd hb156 (by decide)
                              · refine lv_aload_n Bx.1 Bx.2.1 d_Mo_readRule_149 rfl (lv_at hl 3 rfl) ?_
                                refine lv_iconst (v := 0) Bx.1 Bx.2.1 d_Mo_readRule_150 (by decide) ?_
                                refine f_put Bx hP hD hS (by omega) hz111.1 rfl inMo tyMo okMo nmMo 28 (by decide) kw_684 rfl rfl rfl rfl (Nat.le_of_ble_eq_true rfl) d_Mo_readRule_151 (fun H locs hP hS => ?_)
                                obtain ⟨J157, eJ157⟩ : ∃ z, z = va_up J9 28 (0) := ⟨_, rfl⟩
                                obtain ⟨mem158, e_mem158⟩ : ∃ z, z = va_up mem9 224 (moC ad J157) := ⟨_, rfl⟩
                                have hP : va_P D vcl (fw n ad mem158) H := by rw [e_mem158, eJ157]; exact hP
                                have hD : va_D (Az sz) (fw n ad mem158) := fw_D hD
                                have hW159 : MW cy ad J157 A9 n9 m0 mem158 := by rw [e_mem158]; exact hz111.upJ (by rw [eJ157]; exact va_up_ne _ _ (by decide))
                                have kk160 : J157 1 = nI L := by rw [eJ157]; exact g116
                                have kk161 : J157 24 = nI G := by rw [eJ157]; exact g117
                                have kk162 : J157 16 = nI a1 := by rw [eJ157]; exact g118
                                have kk163 : J157 17 = 0 := by rw [eJ157]; exact g119
                                have kk164 : J157 14 = nI u1 := by rw [eJ157]; exact g120
                                have kk165 : J157 4 = nI R1 := by rw [eJ157]; exact g121
                                have kk166 : J157 7 = nI E1 := by rw [eJ157]; exact g122
                                have kk167 : J157 18 = nI (f1 + 1) := by rw [eJ157]; exact g123
                                have kk168 : J157 28 = 0 := by rw [eJ157, va_up_self]
                                refine lv_aload_n Bx.1 Bx.2.1 d_Mo_readRule_154 rfl (lv_at hl 3 rfl) ?_
                                refine f_callVv (na := 0) (As := []) (rest := []) Bx hml E hP hD hS (by omega) hW159.1 rfl (m_Mo_sequence l hn hW159 ⟨kk160, kk161, kk162, kk163, kk164, kk165, kk166, kk167⟩ ⟨hL, by omega, by omega, by omega, by omega⟩ (by omega) hT1 kk168 hI1.toF h91) kw_818 kw_820 sel_Mo_sequence kw_8 kw_821 (by decide +kernel) ⟨rfl, rfl⟩ ⟨Nat.le_of_ble_eq_true rfl, Nat.le_of_ble_eq_true rfl⟩ rfl hl.1 (Nat.le_of_ble_eq_true rfl) d_Mo_readRule_155 ⟨Nat.le_of_ble_eq_true rfl, Nat.le_of_ble_eq_true rfl⟩ (fun mem170 H locs hq hP hS => ?_)
                                have hD : va_D (Az sz) (fw n ad mem170) := fw_D hD
                                obtain ⟨J171, A172, nn173, hW174, hres175⟩ := hq
                                rcases hres175 with hbad176 | ⟨a177, hg178, hst179⟩
                                · obtain ⟨g180, g181, g182, g183, g184, g185, g186⟩ := hbad176
                                  refine lv_goto Bx.1 Bx.2.1 d_Mo_readRule_158 rfl ?_
                                  refine lv_aload_n Bx.1 Bx.2.1 d_Mo_readRule_130 rfl (lv_at hl 3 rfl) ?_
                                  refine f_get Bx hP (by omega) hW174.1 rfl inMo 17 (by decide) kw_673 rfl rfl d_Mo_readRule_131 ?_
                                  refine lv_if_ne Bx.1 Bx.2.1 d_Mo_readRule_134 rfl (fun hb187 => ?_) (fun hb187 => ?_)
                                  · exact W.vret hx hb hr (fun t ht hW => ⟨⟨mem170, rfl, ⟨J171, A172, nn173, hW174, Or.inl ⟨g180, g181, g182, g183, _, by omega, g186⟩⟩, by show va_P _ _ _ t.heap; rw [ht]; exact hP⟩, hS.F ht⟩) hS.2.2 d_Mo_readRule_170
                                  · exact absurd hb187 g183.ne
                                · refine lv_goto Bx.1 Bx.2.1 d_Mo_readRule_158 rfl ?_
                                  have hle : a177 ≤ L := by obtain ⟨_, _, _, _, _, _, _, _, hb, _⟩ := hst179; exact hb.2.1
                                  exact ih114 mem170 (J171) (A172) (nn173) (a177) _ _ _ (by have := hmeas115; omega) (hW174) (hst179) (by omega) hP hD hS (lv_sub hl [0, 1, 2, 3] rfl)
                    exact loop109 _ mem91 (J92) (A93) (nn94) (a98) _ _ _ (Nat.lt_succ_self _) (hW95) (hst100) (by omega) hP hD hS (lv_sub hl [0, 2, 3, 4] rfl)
                · exact absurd hb78 (by decide)
              · exact absurd hb77 (by decide)
            · refine lv_iconst (v := 1) Bx.1 Bx.2.1 d_Mo_readRule_94 (by decide) ?_
              refine lv_goto Bx.1 Bx.2.1 d_Mo_readRule_95 rfl ?_
              refine lv_icmp_eq Bx.1 Bx.2.1 d_Mo_readRule_99 rfl (fun hb188 => ?_) (fun hb188 => ?_)
              · exact absurd hb188 (by decide)
              · refine lv_aload_n Bx.1 Bx.2.1 d_Mo_readRule_102 rfl (lv_at hl 3 rfl) ?_
                refine lv_iconst (v := 1) Bx.1 Bx.2.1 d_Mo_readRule_103 (by decide) ?_
                refine lv_iload_n Bx.1 Bx.2.1 d_Mo_readRule_104 rfl (lv_at hl 2 rfl) ?_
                refine f_callVv (na := 2) (As := [.int (1), .int (nI a)]) (rest := []) Bx hml E hP hD hS (by omega) hW68.1 rfl (m_Mo_wrong l hn hW68 (Or.inl kk73) (by first | exact Or.inl rfl | exact Or.inr rfl)) kw_799 kw_801 sel_Mo_wrong kw_8 kw_802 (by decide +kernel) ⟨rfl, rfl⟩ ⟨Nat.le_of_ble_eq_true rfl, Nat.le_of_ble_eq_true rfl⟩ rfl hl.1 (Nat.le_of_ble_eq_true rfl) d_Mo_readRule_105 ⟨Nat.le_of_ble_eq_true rfl, Nat.le_of_ble_eq_true rfl⟩ (fun mem190 H locs hq hP hS => ?_)
                have hD : va_D (Az sz) (fw n ad mem190) := fw_D hD
                obtain ⟨J191, hW192, hwr193⟩ := hq
                have kk194 : J191 1 = nI L := (show J191 1 = J66 1 from hwr193.2 1 (by decide) (by decide)).trans kk69
                have kk195 : J191 24 = nI G := (show J191 24 = J66 24 from hwr193.2 24 (by decide) (by decide)).trans kk70
                have kk196 : J191 14 = nI u := (show J191 14 = J66 14 from hwr193.2 14 (by decide) (by decide)).trans kk71
                have kk197 : J191 7 = nI Ec := (show J191 7 = J66 7 from hwr193.2 7 (by decide) (by decide)).trans kk72
                have kk198 : J191 4 = nI R17 := (show J191 4 = J66 4 from hwr193.2 4 (by decide) (by decide)).trans kk74
                have kk199 : J191 16 = nI (a36 + 1 + 0) := (show J191 16 = J66 16 from hwr193.2 16 (by decide) (by decide)).trans kk75
                refine lv_aload_n Bx.1 Bx.2.1 d_Mo_readRule_108 rfl (lv_at hl 3 rfl) ?_
                refine f_get Bx hP (by omega) hW192.1 rfl inMo 17 (by decide) kw_673 rfl rfl d_Mo_readRule_109 ?_
                refine lv_if_le Bx.1 Bx.2.1 d_Mo_readRule_112 rfl (fun hb200 => ?_) (fun hb200 => ?_)
                · exact absurd hb200 hwr193.1.nle
                · exact W.vret hx hb hr (fun t ht hW => ⟨⟨mem190, rfl, ⟨J191, A4, nn5, hW192, Or.inl ⟨kk194, kk195, hT9, hwr193.1, _, by omega, kk199⟩⟩, by show va_P _ _ _ t.heap; rw [ht]; exact hP⟩, hS.F ht⟩) hS.2.2 d_Mo_readRule_115
          · exact absurd hb65 (by decide)
        · have hlt201 := hereF_lt (by rw [hb64]; decide)
          refine lv_iconst (v := 1) Bx.1 Bx.2.1 d_Mo_readRule_60 (by decide) ?_
          refine lv_goto Bx.1 Bx.2.1 d_Mo_readRule_61 rfl ?_
          refine lv_istore_n (lv' := [(3, .int (1)), (2, .int (nI r16)), (1, .int (nI a)), (0, .ref (ad 224))]) Bx.1 Bx.2.1 d_Mo_readRule_65 rfl hl (by decide) rfl (fun ls hl => ?_)
          refine lv_aload_n Bx.1 Bx.2.1 d_Mo_readRule_66 rfl (lv_at hl 3 rfl) ?_
          refine lv_dup Bx.1 Bx.2.1 d_Mo_readRule_67 rfl ?_
          refine f_get Bx hP (by omega) hW54.1 rfl inMo 16 (by decide) kw_672 rfl rfl d_Mo_readRule_68 ?_
          rw [kk61]
          refine lv_iload_n Bx.1 Bx.2.1 d_Mo_readRule_71 rfl (lv_at hl 0 rfl) ?_
          refine lv_if_eq Bx.1 Bx.2.1 d_Mo_readRule_72 rfl (fun hb202 => ?_) (fun hb202 => ?_)
          · exact absurd hb202 (by decide)
          · refine lv_iconst (v := 1) Bx.1 Bx.2.1 d_Mo_readRule_75 (by decide) ?_
            refine lv_goto Bx.1 Bx.2.1 d_Mo_readRule_76 rfl ?_
            refine lv_iadd Bx.1 Bx.2.1 d_Mo_readRule_80 ?_
            rw [show nI (a36 + 1) + 1 = nI (a36 + 1 + 1) from nI_add (a36 + 1) (1)]
            refine f_put Bx hP hD hS (by omega) hW54.1 rfl inMo tyMo okMo nmMo 16 (by decide) kw_672 rfl rfl rfl rfl (Nat.le_of_ble_eq_true rfl) d_Mo_readRule_81 (fun H locs hP hS => ?_)
            obtain ⟨J203, eJ203⟩ : ∃ z, z = va_up J52 16 (nI (a36 + 1 + 1)) := ⟨_, rfl⟩
            obtain ⟨mem204, e_mem204⟩ : ∃ z, z = va_up mem53 224 (moC ad J203) := ⟨_, rfl⟩
            have hP : va_P D vcl (fw n ad mem204) H := by rw [e_mem204, eJ203]; exact hP
            have hD : va_D (Az sz) (fw n ad mem204) := fw_D hD
            have hW205 : MW cy ad J203 A4 nn5 m0 mem204 := by rw [e_mem204]; exact hW54.upJ (by rw [eJ203]; exact va_up_ne _ _ (by decide))
            have kk206 : J203 1 = nI L := by rw [eJ203]; exact kk55
            have kk207 : J203 24 = nI G := by rw [eJ203]; exact kk56
            have kk208 : J203 14 = nI u := by rw [eJ203]; exact kk57
            have kk209 : J203 7 = nI Ec := by rw [eJ203]; exact kk58
            have kk210 : J203 17 = 0 := by rw [eJ203]; exact kk59
            have kk211 : J203 4 = nI R17 := by rw [eJ203]; exact kk60
            have kk212 : J203 16 = nI (a36 + 1 + 1) := by rw [eJ203, va_up_self]
            refine lv_iload_n Bx.1 Bx.2.1 d_Mo_readRule_84 rfl (lv_at hl 0 rfl) ?_
            refine lv_aload_n Bx.1 Bx.2.1 d_Mo_readRule_85 rfl (lv_at hl 3 rfl) ?_
            refine f_get Bx hP (by omega) hW205.1 rfl inMo 6 (by decide) kw_662 rfl rfl d_Mo_readRule_86 ?_
            refine lv_iload_n Bx.1 Bx.2.1 d_Mo_readRule_89 rfl (lv_at hl 1 rfl) ?_
            refine f_iald Bx hP (by omega) (show mem204 227 = .inl (cy 1, 12, .inl (A4 227)) from hW205.2.2.1 227 (by decide) (by decide) (by decide)) (vp_in_nI (n := r16) (by omega) (by decide)) d_Mo_readRule_90 ?_
            rw [nI_clamp (n := r16) (by omega)]
            refine lv_if_lt Bx.1 Bx.2.1 d_Mo_readRule_91 rfl (fun hb213 => ?_) (fun hb213 => ?_)
            · refine lv_iconst (v := 0) Bx.1 Bx.2.1 d_Mo_readRule_98 (by decide) ?_
              refine lv_icmp_eq Bx.1 Bx.2.1 d_Mo_readRule_99 rfl (fun hb214 => ?_) (fun hb214 => ?_)
              · exact absurd hb214 (by decide)
              · refine lv_aload_n Bx.1 Bx.2.1 d_Mo_readRule_102 rfl (lv_at hl 3 rfl) ?_
                refine lv_iconst (v := 1) Bx.1 Bx.2.1 d_Mo_readRule_103 (by decide) ?_
                refine lv_iload_n Bx.1 Bx.2.1 d_Mo_readRule_104 rfl (lv_at hl 2 rfl) ?_
                refine f_callVv (na := 2) (As := [.int (1), .int (nI a)]) (rest := []) Bx hml E hP hD hS (by omega) hW205.1 rfl (m_Mo_wrong l hn hW205 (Or.inl kk210) (by first | exact Or.inl rfl | exact Or.inr rfl)) kw_799 kw_801 sel_Mo_wrong kw_8 kw_802 (by decide +kernel) ⟨rfl, rfl⟩ ⟨Nat.le_of_ble_eq_true rfl, Nat.le_of_ble_eq_true rfl⟩ rfl hl.1 (Nat.le_of_ble_eq_true rfl) d_Mo_readRule_105 ⟨Nat.le_of_ble_eq_true rfl, Nat.le_of_ble_eq_true rfl⟩ (fun mem216 H locs hq hP hS => ?_)
                have hD : va_D (Az sz) (fw n ad mem216) := fw_D hD
                obtain ⟨J217, hW218, hwr219⟩ := hq
                have kk220 : J217 1 = nI L := (show J217 1 = J203 1 from hwr219.2 1 (by decide) (by decide)).trans kk206
                have kk221 : J217 24 = nI G := (show J217 24 = J203 24 from hwr219.2 24 (by decide) (by decide)).trans kk207
                have kk222 : J217 14 = nI u := (show J217 14 = J203 14 from hwr219.2 14 (by decide) (by decide)).trans kk208
                have kk223 : J217 7 = nI Ec := (show J217 7 = J203 7 from hwr219.2 7 (by decide) (by decide)).trans kk209
                have kk224 : J217 4 = nI R17 := (show J217 4 = J203 4 from hwr219.2 4 (by decide) (by decide)).trans kk211
                have kk225 : J217 16 = nI (a36 + 1 + 1) := (show J217 16 = J203 16 from hwr219.2 16 (by decide) (by decide)).trans kk212
                refine lv_aload_n Bx.1 Bx.2.1 d_Mo_readRule_108 rfl (lv_at hl 3 rfl) ?_
                refine f_get Bx hP (by omega) hW218.1 rfl inMo 17 (by decide) kw_673 rfl rfl d_Mo_readRule_109 ?_
                refine lv_if_le Bx.1 Bx.2.1 d_Mo_readRule_112 rfl (fun hb226 => ?_) (fun hb226 => ?_)
                · exact absurd hb226 hwr219.1.nle
                · exact W.vret hx hb hr (fun t ht hW => ⟨⟨mem216, rfl, ⟨J217, A4, nn5, hW218, Or.inl ⟨kk220, kk221, hT9, hwr219.1, _, by omega, kk225⟩⟩, by show va_P _ _ _ t.heap; rw [ht]; exact hP⟩, hS.F ht⟩) hS.2.2 d_Mo_readRule_115
            · refine lv_iconst (v := 1) Bx.1 Bx.2.1 d_Mo_readRule_94 (by decide) ?_
              refine lv_goto Bx.1 Bx.2.1 d_Mo_readRule_95 rfl ?_
              refine lv_icmp_eq Bx.1 Bx.2.1 d_Mo_readRule_99 rfl (fun hb227 => ?_) (fun hb227 => ?_)
              · refine lv_aload_n Bx.1 Bx.2.1 d_Mo_readRule_108 rfl (lv_at hl 3 rfl) ?_
                refine f_get Bx hP (by omega) hW205.1 rfl inMo 17 (by decide) kw_673 rfl rfl d_Mo_readRule_109 ?_
                rw [kk210]
                refine lv_if_le Bx.1 Bx.2.1 d_Mo_readRule_112 rfl (fun hb228 => ?_) (fun hb228 => ?_)
                · refine lv_aload_n Bx.1 Bx.2.1 d_Mo_readRule_116 rfl (lv_at hl 3 rfl) ?_
                  refine lv_iconst (v := 0) Bx.1 Bx.2.1 d_Mo_readRule_117 (by decide) ?_
                  refine f_put Bx hP hD hS (by omega) hW205.1 rfl inMo tyMo okMo nmMo 18 (by decide) kw_674 rfl rfl rfl rfl (Nat.le_of_ble_eq_true rfl) d_Mo_readRule_118 (fun H locs hP hS => ?_)
                  obtain ⟨J229, eJ229⟩ : ∃ z, z = va_up J203 18 (0) := ⟨_, rfl⟩
                  obtain ⟨mem230, e_mem230⟩ : ∃ z, z = va_up mem204 224 (moC ad J229) := ⟨_, rfl⟩
                  have hP : va_P D vcl (fw n ad mem230) H := by rw [e_mem230, eJ229]; exact hP
                  have hD : va_D (Az sz) (fw n ad mem230) := fw_D hD
                  have hW231 : MW cy ad J229 A4 nn5 m0 mem230 := by rw [e_mem230]; exact hW205.upJ (by rw [eJ229]; exact va_up_ne _ _ (by decide))
                  have kk232 : J229 1 = nI L := by rw [eJ229]; exact kk206
                  have kk233 : J229 24 = nI G := by rw [eJ229]; exact kk207
                  have kk234 : J229 14 = nI u := by rw [eJ229]; exact kk208
                  have kk235 : J229 7 = nI Ec := by rw [eJ229]; exact kk209
                  have kk236 : J229 17 = 0 := by rw [eJ229]; exact kk210
                  have kk237 : J229 4 = nI R17 := by rw [eJ229]; exact kk211
                  have kk238 : J229 16 = nI (a36 + 1 + 1) := by rw [eJ229]; exact kk212
                  have kk239 : J229 18 = 0 := by rw [eJ229, va_up_self]
                  refine lv_aload_n Bx.1 Bx.2.1 d_Mo_readRule_121 rfl (lv_at hl 3 rfl) ?_
                  refine lv_iconst (v := 0) Bx.1 Bx.2.1 d_Mo_readRule_122 (by decide) ?_
                  refine lv_iload_n Bx.1 Bx.2.1 d_Mo_readRule_123 rfl (lv_at hl 1 rfl) ?_
                  refine f_callVv (na := 2) (As := [.int (0), .int (nI r16)]) (rest := []) Bx hml E hP hD hS (by omega) hW231.1 rfl (m_Mo_enter0 l hn hW231 kk232 kk233 kk238 kk236 kk234 kk237 kk235 kk239 ⟨hL, by omega, by omega, by omega, by omega⟩ hT9 hG2 hr0_19) kw_807 kw_809 sel_Mo_enter kw_8 kw_810 (by decide +kernel) ⟨rfl, rfl⟩ ⟨Nat.le_of_ble_eq_true rfl, Nat.le_of_ble_eq_true rfl⟩ rfl hl.1 (Nat.le_of_ble_eq_true rfl) d_Mo_readRule_124 ⟨Nat.le_of_ble_eq_true rfl, Nat.le_of_ble_eq_true rfl⟩ (fun mem241 H locs hq hP hS => ?_)
                  have hD : va_D (Az sz) (fw n ad mem241) := fw_D hD
                  obtain ⟨J242, A243, nn244, hW245, hres246⟩ := hq
                  rcases hres246 with hbad247 | ⟨a248, hg249, hst250⟩
                  · obtain ⟨g251, g252, g253, g254, g255, g256, g257⟩ := hbad247
                    refine lv_iconst (v := 1) Bx.1 Bx.2.1 d_Mo_readRule_127 (by decide) ?_
                    refine lv_istore (lv' := [(4, .int (1)), (3, .int (1)), (2, .int (nI r16)), (1, .int (nI a)), (0, .ref (ad 224))]) Bx.1 Bx.2.1 d_Mo_readRule_128 hl (by decide) rfl (fun ls hl => ?_)
                    refine lv_aload_n Bx.1 Bx.2.1 d_Mo_readRule_130 rfl (lv_at hl 4 rfl) ?_
                    refine f_get Bx hP (by omega) hW245.1 rfl inMo 17 (by decide) kw_673 rfl rfl d_Mo_readRule_131 ?_
                    refine lv_if_ne Bx.1 Bx.2.1 d_Mo_readRule_134 rfl (fun hb258 => ?_) (fun hb258 => ?_)
                    · exact W.vret hx hb hr (fun t ht hW => ⟨⟨mem241, rfl, ⟨J242, A243, nn244, hW245, Or.inl ⟨g251, g252, g253, g254, _, by omega, g257⟩⟩, by show va_P _ _ _ t.heap; rw [ht]; exact hP⟩, hS.F ht⟩) hS.2.2 d_Mo_readRule_170
                    · exact absurd hb258 g254.ne
                  · refine lv_iconst (v := 1) Bx.1 Bx.2.1 d_Mo_readRule_127 (by decide) ?_
                    refine lv_istore (lv' := [(4, .int (1)), (3, .int (1)), (2, .int (nI r16)), (1, .int (nI a)), (0, .ref (ad 224))]) Bx.1 Bx.2.1 d_Mo_readRule_128 hl (by decide) rfl (fun ls hl => ?_)
                    have loop259 : ∀ (d260 : Nat) (mem9 : Nat → va_E) (J9 : Nat → Int32) (A9 : Nat → Nat → Int32) (n9 : Nat → Int64) (a1 : Nat) (ls : Array Slot) (H : Heap) (locs : List Loc), ((L + 1 - a1) < d260) → (MW cy ad J9 A9 n9 m0 mem9) → (St L G T a1 J9 A9) → (a < a1) → (va_P D vcl (fw n ad mem9) H) → (va_D (Az sz) (fw n ad mem9)) → (va_S (Az sz) s.heap H locs) → (lv_has ls 5 [(4, .int (1)), (2, .int (nI r16)), (1, .int (nI a)), (0, .ref (ad 224))]) → W p l e (headSpec (Cond.code y_Mo_readRule c_Mo_readRule 5 none :: tg) ({ frames := 9, cells := 0, slots := 0, locals := 260 } : Room)).room s m [.ref (ad 224)].toArray below meth c H locs 0 0 (MQ below (va_Qv (fun mem' => ∃ J' A' nm', MW cy ad J' A' nm' m0 mem' ∧ (BAD L G T J' A' ∨ ∃ a', a < a' ∧ FinS L G T a' J' A')) (PP D n ad) (Az sz)) [.ref (ad 224)].toArray s 0 0 (Az sz)) (F0 m 130 ls []) := by
                      intro d260
                      induction d260 with
                      | zero => intro mem9 J9 A9 n9 a1 ls H locs hmeas265; exact absurd hmeas265 (Nat.not_lt_zero _)
                      | succ d260 ih264 =>
                        intro mem9 J9 A9 n9 a1 ls H locs hmeas265 hz261 hz262 hz263 hP hD hS hl
                        obtain ⟨u1, R1, E1, f1, c1, s1, t1, hN1, hB1, hT1, hpe, hI1, h91⟩ := hz262
                        obtain ⟨-, b2, b3, b4, b5, b6⟩ := hB1
                        obtain ⟨g266, g267, g268, g269, g270, g271, g272, g273⟩ := hN1
                        rcases hpe with hpe | hpe
                        · refine lv_aload_n Bx.1 Bx.2.1 d_Mo_readRule_130 rfl (lv_at hl 3 rfl) ?_
                          refine f_get Bx hP (by omega) hz261.1 rfl inMo 17 (by decide) kw_673 rfl rfl d_Mo_readRule_131 ?_
                          rw [g269]
                          refine lv_if_ne Bx.1 Bx.2.1 d_Mo_readRule_134 rfl (fun hb274 => ?_) (fun hb274 => ?_)
                          · exact absurd hb274 (by decide)
                          · refine lv_iload Bx.1 Bx.2.1 d_Mo_readRule_137 (lv_at hl 0 rfl) ?_
                            refine lv_if_eq Bx.1 Bx.2.1 d_Mo_readRule_139 rfl (fun hb275 => ?_) (fun hb275 => ?_)
                            · exact absurd hb275 (by decide)
                            · refine lv_aload_n Bx.1 Bx.2.1 d_Mo_readRule_142 rfl (lv_at hl 3 rfl) ?_
                              refine f_get Bx hP (by omega) hz261.1 rfl inMo 28 (by decide) kw_684 rfl rfl d_Mo_readRule_143 ?_
                              rw [hpe]
                              refine lv_if_eq Bx.1 Bx.2.1 d_Mo_readRule_146 rfl (fun hb276 => ?_) (fun hb276 => ?_)
                              · refine lv_aload_n Bx.1 Bx.2.1 d_Mo_readRule_161 rfl (lv_at hl 3 rfl) ?_
                                refine f_callVi (na := 0) (As := []) (rest := []) Bx hml E hP hD hS (by omega) hz261.1 rfl (m_Mo_goesOn l hn hz261 ⟨g266, g267, g268, g269, g270, g271, g272, g273⟩ ⟨hL, by omega, by omega, by omega, by omega⟩ (by omega) hT1 hpe (hI1.toT hpe) h91) kw_853 kw_855 sel_Mo_goesOn kw_8 kw_856 (by decide +kernel) ⟨rfl, rfl⟩ ⟨Nat.le_of_ble_eq_true rfl, Nat.le_of_ble_eq_true rfl⟩ rfl hl.1 (Nat.le_of_ble_eq_true rfl) d_Mo_readRule_162 ⟨Nat.le_of_ble_eq_true rfl, Nat.le_of_ble_eq_true rfl⟩ (fun r277 mem278 H locs hq hP hS => ?_)
                                have hD : va_D (Az sz) (fw n ad mem278) := fw_D hD
                                obtain ⟨J279, A280, nn281, hW282, hgo⟩ := hq
                                rcases hgo with ⟨hre, hres9⟩ | ⟨hre, a7, h7, hfin⟩
                                · subst hre
                                  refine lv_istore (lv' := [(4, .int (1)), (2, .int (nI r16)), (1, .int (nI a)), (0, .ref (ad 224))]) Bx.1 Bx.2.1 d_Mo_readRule_165 hl (by decide) rfl (fun ls hl => ?_)
                                  rcases hres9 with hbad283 | ⟨a284, hg285, hst286⟩
                                  · obtain ⟨g287, g288, g289, g290, g291, g292, g293⟩ := hbad283
                                    refine lv_goto Bx.1 Bx.2.1 d_Mo_readRule_167 rfl ?_
                                    refine lv_aload_n Bx.1 Bx.2.1 d_Mo_readRule_130 rfl (lv_at hl 3 rfl) ?_
                                    refine f_get Bx hP (by omega) hW282.1 rfl inMo 17 (by decide) kw_673 rfl rfl d_Mo_readRule_131 ?_
                                    refine lv_if_ne Bx.1 Bx.2.1 d_Mo_readRule_134 rfl (fun hb294 => ?_) (fun hb294 => ?_)
                                    · exact W.vret hx hb hr (fun t ht hW => ⟨⟨mem278, rfl, ⟨J279, A280, nn281, hW282, Or.inl ⟨g287, g288, g289, g290, _, by omega, g293⟩⟩, by show va_P _ _ _ t.heap; rw [ht]; exact hP⟩, hS.F ht⟩) hS.2.2 d_Mo_readRule_170
                                    · exact absurd hb294 g290.ne
                                  · refine lv_goto Bx.1 Bx.2.1 d_Mo_readRule_167 rfl ?_
                                    have hle : a284 ≤ L := by obtain ⟨_, _, _, _, _, _, _, _, hb, _⟩ := hst286; exact hb.2.1
                                    exact ih264 mem278 (J279) (A280) (nn281) (a284) _ _ _ (by have := hmeas265; omega) (hW282) (hst286) (by omega) hP hD hS (lv_sub hl [0, 1, 2, 3] rfl)
                                · subst hre
                                  obtain ⟨u2, R2, E2, hN2, hB2, hT2, hG2⟩ := id hfin
                                  obtain ⟨g295, g296, g297, g298, g299, g300, g301⟩ := hN2
                                  refine lv_istore (lv' := [(4, .int (0)), (2, .int (nI r16)), (1, .int (nI a)), (0, .ref (ad 224))]) Bx.1 Bx.2.1 d_Mo_readRule_165 hl (by decide) rfl (fun ls hl => ?_)
                                  refine lv_goto Bx.1 Bx.2.1 d_Mo_readRule_167 rfl ?_
                                  refine lv_aload_n Bx.1 Bx.2.1 d_Mo_readRule_130 rfl (lv_at hl 3 rfl) ?_
                                  refine f_get Bx hP (by omega) hW282.1 rfl inMo 17 (by decide) kw_673 rfl rfl d_Mo_readRule_131 ?_
                                  rw [g298]
                                  refine lv_if_ne Bx.1 Bx.2.1 d_Mo_readRule_134 rfl (fun hb302 => ?_) (fun hb302 => ?_)
                                  · exact absurd hb302 (by decide)
                                  · refine lv_iload Bx.1 Bx.2.1 d_Mo_readRule_137 (lv_at hl 0 rfl) ?_
                                    refine lv_if_eq Bx.1 Bx.2.1 d_Mo_readRule_139 rfl (fun hb303 => ?_) (fun hb303 => ?_)
                                    · exact W.vret hx hb hr (fun t ht hW => ⟨⟨mem278, rfl, ⟨J279, A280, nn281, hW282, Or.inr ⟨a7, by omega, hfin⟩⟩, by show va_P _ _ _ t.heap; rw [ht]; exact hP⟩, hS.F ht⟩) hS.2.2 d_Mo_readRule_170
                                    · exact absurd hb303 (by decide)
                              · exact absurd hb276 (by decide)
                        · refine lv_aload_n Bx.1 Bx.2.1 d_Mo_readRule_130 rfl (lv_at hl 3 rfl) ?_
                          refine f_get Bx hP (by omega) hz261.1 rfl inMo 17 (by decide) kw_673 rfl rfl d_Mo_readRule_131 ?_
                          rw [g269]
                          refine lv_if_ne Bx.1 Bx.2.1 d_Mo_readRule_134 rfl (fun hb304 => ?_) (fun hb304 => ?_)
                          · exact absurd hb304 (by decide)
                          · refine lv_iload Bx.1 Bx.2.1 d_Mo_readRule_137 (lv_at hl 0 rfl) ?_
                            refine lv_if_eq Bx.1 Bx.2.1 d_Mo_readRule_139 rfl (fun hb305 => ?_) (fun hb305 => ?_)
                            · exact absurd hb305 (by decide)
                            · refine lv_aload_n Bx.1 Bx.2.1 d_Mo_readRule_142 rfl (lv_at hl 3 rfl) ?_
                              refine f_get Bx hP (by omega) hz261.1 rfl inMo 28 (by decide) kw_684 rfl rfl d_Mo_readRule_143 ?_
                              rw [hpe]
                              refine lv_if_eq Bx.1 Bx.2.1 d_Mo_readRule_146 rfl (fun hb306 => ?_) (fun hb306 => ?_)
                              · exact absurd hb306 (by decide)
                              · refine lv_aload_n Bx.1 Bx.2.1 d_Mo_readRule_149 rfl (lv_at hl 3 rfl) ?_
                                refine lv_iconst (v := 0) Bx.1 Bx.2.1 d_Mo_readRule_150 (by decide) ?_
                                refine f_put Bx hP hD hS (by omega) hz261.1 rfl inMo tyMo okMo nmMo 28 (by decide) kw_684 rfl rfl rfl rfl (Nat.le_of_ble_eq_true rfl) d_Mo_readRule_151 (fun H locs hP hS => ?_)
                                obtain ⟨J307, eJ307⟩ : ∃ z, z = va_up J9 28 (0) := ⟨_, rfl⟩
                                obtain ⟨mem308, e_mem308⟩ : ∃ z, z = va_up mem9 224 (moC ad J307) := ⟨_, rfl⟩
                                have hP : va_P D vcl (fw n ad mem308) H := by rw [e_mem308, eJ307]; exact hP
                                have hD : va_D (Az sz) (fw n ad mem308) := fw_D hD
                                have hW309 : MW cy ad J307 A9 n9 m0 mem308 := by rw [e_mem308]; exact hz261.upJ (by rw [eJ307]; exact va_up_ne _ _ (by decide))
                                have kk310 : J307 1 = nI L := by rw [eJ307]; exact g266
                                have kk311 : J307 24 = nI G := by rw [eJ307]; exact g267
                                have kk312 : J307 16 = nI a1 := by rw [eJ307]; exact g268
                                have kk313 : J307 17 = 0 := by rw [eJ307]; exact g269
                                have kk314 : J307 14 = nI u1 := by rw [eJ307]; exact g270
                                have kk315 : J307 4 = nI R1 := by rw [eJ307]; exact g271
                                have kk316 : J307 7 = nI E1 := by rw [eJ307]; exact g272
                                have kk317 : J307 18 = nI (f1 + 1) := by rw [eJ307]; exact g273
                                have kk318 : J307 28 = 0 := by rw [eJ307, va_up_self]
                                refine lv_aload_n Bx.1 Bx.2.1 d_Mo_readRule_154 rfl (lv_at hl 3 rfl) ?_
                                refine f_callVv (na := 0) (As := []) (rest := []) Bx hml E hP hD hS (by omega) hW309.1 rfl (m_Mo_sequence l hn hW309 ⟨kk310, kk311, kk312, kk313, kk314, kk315, kk316, kk317⟩ ⟨hL, by omega, by omega, by omega, by omega⟩ (by omega) hT1 kk318 hI1.toF h91) kw_818 kw_820 sel_Mo_sequence kw_8 kw_821 (by decide +kernel) ⟨rfl, rfl⟩ ⟨Nat.le_of_ble_eq_true rfl, Nat.le_of_ble_eq_true rfl⟩ rfl hl.1 (Nat.le_of_ble_eq_true rfl) d_Mo_readRule_155 ⟨Nat.le_of_ble_eq_true rfl, Nat.le_of_ble_eq_true rfl⟩ (fun mem320 H locs hq hP hS => ?_)
                                have hD : va_D (Az sz) (fw n ad mem320) := fw_D hD
                                obtain ⟨J321, A322, nn323, hW324, hres325⟩ := hq
                                rcases hres325 with hbad326 | ⟨a327, hg328, hst329⟩
                                · obtain ⟨g330, g331, g332, g333, g334, g335, g336⟩ := hbad326
                                  refine lv_goto Bx.1 Bx.2.1 d_Mo_readRule_158 rfl ?_
                                  refine lv_aload_n Bx.1 Bx.2.1 d_Mo_readRule_130 rfl (lv_at hl 3 rfl) ?_
                                  refine f_get Bx hP (by omega) hW324.1 rfl inMo 17 (by decide) kw_673 rfl rfl d_Mo_readRule_131 ?_
                                  refine lv_if_ne Bx.1 Bx.2.1 d_Mo_readRule_134 rfl (fun hb337 => ?_) (fun hb337 => ?_)
                                  · exact W.vret hx hb hr (fun t ht hW => ⟨⟨mem320, rfl, ⟨J321, A322, nn323, hW324, Or.inl ⟨g330, g331, g332, g333, _, by omega, g336⟩⟩, by show va_P _ _ _ t.heap; rw [ht]; exact hP⟩, hS.F ht⟩) hS.2.2 d_Mo_readRule_170
                                  · exact absurd hb337 g333.ne
                                · refine lv_goto Bx.1 Bx.2.1 d_Mo_readRule_158 rfl ?_
                                  have hle : a327 ≤ L := by obtain ⟨_, _, _, _, _, _, _, _, hb, _⟩ := hst329; exact hb.2.1
                                  exact ih264 mem320 (J321) (A322) (nn323) (a327) _ _ _ (by have := hmeas265; omega) (hW324) (hst329) (by omega) hP hD hS (lv_sub hl [0, 1, 2, 3] rfl)
                    exact loop259 _ mem241 (J242) (A243) (nn244) (a248) _ _ _ (Nat.lt_succ_self _) (hW245) (hst250) (by omega) hP hD hS (lv_sub hl [0, 2, 3, 4] rfl)
                · exact absurd hb228 (by decide)
              · exact absurd hb227 (by decide)
      · refine lv_aload_n Bx.1 Bx.2.1 d_Mo_readRule_31 rfl (lv_at hl 2 rfl) ?_
        refine lv_iconst (v := 1) Bx.1 Bx.2.1 d_Mo_readRule_32 (by decide) ?_
        refine lv_aload_n Bx.1 Bx.2.1 d_Mo_readRule_33 rfl (lv_at hl 2 rfl) ?_
        refine f_get Bx hP (by omega) hW39.1 rfl inMo 16 (by decide) kw_672 rfl rfl d_Mo_readRule_34 ?_
        rw [kk47]
        refine f_callVv (na := 2) (As := [.int (1), .int (nI a36)]) (rest := []) Bx hml E hP hD hS (by omega) hW39.1 rfl (m_Mo_wrong l hn hW39 (Or.inl kk45) (by first | exact Or.inl rfl | exact Or.inr rfl)) kw_799 kw_801 sel_Mo_wrong kw_8 kw_802 (by decide +kernel) ⟨rfl, rfl⟩ ⟨Nat.le_of_ble_eq_true rfl, Nat.le_of_ble_eq_true rfl⟩ rfl hl.1 (Nat.le_of_ble_eq_true rfl) d_Mo_readRule_37 ⟨Nat.le_of_ble_eq_true rfl, Nat.le_of_ble_eq_true rfl⟩ (fun mem339 H locs hq hP hS => ?_)
        have hD : va_D (Az sz) (fw n ad mem339) := fw_D hD
        obtain ⟨J340, hW341, hwr342⟩ := hq
        have kk343 : J340 1 = nI L := (show J340 1 = J40 1 from hwr342.2 1 (by decide) (by decide)).trans kk41
        have kk344 : J340 24 = nI G := (show J340 24 = J40 24 from hwr342.2 24 (by decide) (by decide)).trans kk42
        have kk345 : J340 14 = nI u := (show J340 14 = J40 14 from hwr342.2 14 (by decide) (by decide)).trans kk43
        have kk346 : J340 7 = nI Ec := (show J340 7 = J40 7 from hwr342.2 7 (by decide) (by decide)).trans kk44
        have kk347 : J340 4 = nI R17 := (show J340 4 = J40 4 from hwr342.2 4 (by decide) (by decide)).trans kk46
        have kk348 : J340 16 = nI a36 := (show J340 16 = J40 16 from hwr342.2 16 (by decide) (by decide)).trans kk47
        exact W.vret hx hb hr (fun t ht hW => ⟨⟨mem339, rfl, ⟨J340, A4, nn5, hW341, Or.inl ⟨kk343, kk344, hT9, hwr342.1, _, by omega, kk348⟩⟩, by show va_P _ _ _ t.heap; rw [ht]; exact hP⟩, hS.F ht⟩) hS.2.2 d_Mo_readRule_40
    · exact absurd hb33 (by decide)
set_option maxHeartbeats 4000000 in
set_option maxRecDepth 100000 in
theorem m_Mo_read (l : Launch) {D : va_G} {cy : Nat → ClassId} {sz n : Nat} {ad : Nat → Nat} {mem : Nat → va_E} {J : Nat → Int32} {A : Nat → Nat → Int32} {nm : Nat → Int64} {m0 : Nat → va_E} {L G : Nat} (hn : 242 ≤ n) (hM : MW cy ad J A nm m0 mem) (h1 : J 1 = nI L) (hL : L ≤ 240) (h24 : J 24 = nI G) (hng : NoG m0) : MI l D cy sz n ad y_Mo_read c_Mo_read 2 (some .int) ({ frames := 10, cells := 0, slots := 0, locals := 290 } : Room) mem [.ref (ad 224)] (fun r mem' => ∃ J' A' nm', MW cy ad J' A' nm' m0 mem' ∧ OI L G J' A') := by
  refine Met.ofW (cc := c_Mo_read) (maxL := 2) (ret := (some .int)) (by decide) rfl ?_
  intro p e s m args below meth c s₁ B hml hv
  obtain ⟨rfl, E, hP, hD⟩ := hv
  have hx := B.exec
  have hb := B.bytes
  have hr := B.returns
  have hlocks := B.notSynchronized
  have Bx : MB p s m [.ref (ad 224)].toArray c c_Mo_read "AbnfChartModel" D cy := ⟨hx, hb, tb_all (atoms_spec B.pre) E.2.1, findClass_of_methodNamed B.named, E.1⟩
  have hS : va_S (Az sz) s.heap s.heap [] := va_S.rf
  have hl := lv_entry ([.ref (ad 224)]) (n := 2) (Nat.le_of_ble_eq_true rfl)
  rw [lg_entry_eq]
  generalize (lg_sl ([.ref (ad 224)]) ++ List.replicate (2 - (lg_sl ([.ref (ad 224)])).length) Slot.unset).toArray = ls at hl ⊢
  have hl : lv_has ls 2 [(0, .ref (ad 224))] := hl
  obtain ⟨T, hT⟩ : ∃ z, A 225 = z := ⟨_, rfl⟩
  refine lv_aload_n Bx.1 Bx.2.1 d_Mo_read_0 rfl (lv_at hl 0 rfl) ?_
  refine lv_iconst (v := 0) Bx.1 Bx.2.1 d_Mo_read_1 (by decide) ?_
  refine f_put Bx hP hD hS (by omega) hM.1 rfl inMo tyMo okMo nmMo 0 (by decide) kw_656 rfl rfl rfl rfl (Nat.le_of_ble_eq_true rfl) d_Mo_read_2 (fun H locs hP hS => ?_)
  obtain ⟨J1, eJ1⟩ : ∃ z, z = va_up J 0 (0) := ⟨_, rfl⟩
  obtain ⟨mem2, e_mem2⟩ : ∃ z, z = va_up mem 224 (moC ad J1) := ⟨_, rfl⟩
  have hP : va_P D vcl (fw n ad mem2) H := by rw [e_mem2, eJ1]; exact hP
  have hD : va_D (Az sz) (fw n ad mem2) := fw_D hD
  have hW3 : MW cy ad J1 A nm m0 mem2 := by rw [e_mem2]; exact hM.upJ (by rw [eJ1]; exact va_up_ne _ _ (by decide))
  have kk4 : J1 1 = nI L := by rw [eJ1]; exact h1
  have kk5 : J1 24 = nI G := by rw [eJ1]; exact h24
  have kk6 : J1 0 = 0 := by rw [eJ1, va_up_self]
  refine lv_aload_n Bx.1 Bx.2.1 d_Mo_read_5 rfl (lv_at hl 0 rfl) ?_
  refine lv_iconst (v := 0) Bx.1 Bx.2.1 d_Mo_read_6 (by decide) ?_
  refine f_put Bx hP hD hS (by omega) hW3.1 rfl inMo tyMo okMo nmMo 17 (by decide) kw_673 rfl rfl rfl rfl (Nat.le_of_ble_eq_true rfl) d_Mo_read_7 (fun H locs hP hS => ?_)
  obtain ⟨J7, eJ7⟩ : ∃ z, z = va_up J1 17 (0) := ⟨_, rfl⟩
  obtain ⟨mem8, e_mem8⟩ : ∃ z, z = va_up mem2 224 (moC ad J7) := ⟨_, rfl⟩
  have hP : va_P D vcl (fw n ad mem8) H := by rw [e_mem8, eJ7]; exact hP
  have hD : va_D (Az sz) (fw n ad mem8) := fw_D hD
  have hW9 : MW cy ad J7 A nm m0 mem8 := by rw [e_mem8]; exact hW3.upJ (by rw [eJ7]; exact va_up_ne _ _ (by decide))
  have kk10 : J7 1 = nI L := by rw [eJ7]; exact kk4
  have kk11 : J7 24 = nI G := by rw [eJ7]; exact kk5
  have kk12 : J7 0 = 0 := by rw [eJ7]; exact kk6
  have kk13 : J7 17 = 0 := by rw [eJ7, va_up_self]
  refine lv_aload_n Bx.1 Bx.2.1 d_Mo_read_10 rfl (lv_at hl 0 rfl) ?_
  refine lv_iconst (v := -1) Bx.1 Bx.2.1 d_Mo_read_11 (by decide) ?_
  refine f_put Bx hP hD hS (by omega) hW9.1 rfl inMo tyMo okMo nmMo 3 (by decide) kw_659 rfl rfl rfl rfl (Nat.le_of_ble_eq_true rfl) d_Mo_read_12 (fun H locs hP hS => ?_)
  obtain ⟨J14, eJ14⟩ : ∃ z, z = va_up J7 3 ((-1)) := ⟨_, rfl⟩
  obtain ⟨mem15, e_mem15⟩ : ∃ z, z = va_up mem8 224 (moC ad J14) := ⟨_, rfl⟩
  have hP : va_P D vcl (fw n ad mem15) H := by rw [e_mem15, eJ14]; exact hP
  have hD : va_D (Az sz) (fw n ad mem15) := fw_D hD
  have hW16 : MW cy ad J14 A nm m0 mem15 := by rw [e_mem15]; exact hW9.upJ (by rw [eJ14]; exact va_up_ne _ _ (by decide))
  have kk17 : J14 1 = nI L := by rw [eJ14]; exact kk10
  have kk18 : J14 24 = nI G := by rw [eJ14]; exact kk11
  have kk19 : J14 0 = 0 := by rw [eJ14]; exact kk12
  have kk20 : J14 17 = 0 := by rw [eJ14]; exact kk13
  have kk21 : J14 3 = (-1) := by rw [eJ14, va_up_self]
  refine lv_aload_n Bx.1 Bx.2.1 d_Mo_read_15 rfl (lv_at hl 0 rfl) ?_
  refine lv_iconst (v := 0) Bx.1 Bx.2.1 d_Mo_read_16 (by decide) ?_
  refine f_put Bx hP hD hS (by omega) hW16.1 rfl inMo tyMo okMo nmMo 4 (by decide) kw_660 rfl rfl rfl rfl (Nat.le_of_ble_eq_true rfl) d_Mo_read_17 (fun H locs hP hS => ?_)
  obtain ⟨J22, eJ22⟩ : ∃ z, z = va_up J14 4 (0) := ⟨_, rfl⟩
  obtain ⟨mem23, e_mem23⟩ : ∃ z, z = va_up mem15 224 (moC ad J22) := ⟨_, rfl⟩
  have hP : va_P D vcl (fw n ad mem23) H := by rw [e_mem23, eJ22]; exact hP
  have hD : va_D (Az sz) (fw n ad mem23) := fw_D hD
  have hW24 : MW cy ad J22 A nm m0 mem23 := by rw [e_mem23]; exact hW16.upJ (by rw [eJ22]; exact va_up_ne _ _ (by decide))
  have kk25 : J22 1 = nI L := by rw [eJ22]; exact kk17
  have kk26 : J22 24 = nI G := by rw [eJ22]; exact kk18
  have kk27 : J22 0 = 0 := by rw [eJ22]; exact kk19
  have kk28 : J22 17 = 0 := by rw [eJ22]; exact kk20
  have kk29 : J22 3 = (-1) := by rw [eJ22]; exact kk21
  have kk30 : J22 4 = 0 := by rw [eJ22, va_up_self]
  refine lv_aload_n Bx.1 Bx.2.1 d_Mo_read_20 rfl (lv_at hl 0 rfl) ?_
  refine lv_iconst (v := 0) Bx.1 Bx.2.1 d_Mo_read_21 (by decide) ?_
  refine f_put Bx hP hD hS (by omega) hW24.1 rfl inMo tyMo okMo nmMo 7 (by decide) kw_663 rfl rfl rfl rfl (Nat.le_of_ble_eq_true rfl) d_Mo_read_22 (fun H locs hP hS => ?_)
  obtain ⟨J31, eJ31⟩ : ∃ z, z = va_up J22 7 (0) := ⟨_, rfl⟩
  obtain ⟨mem32, e_mem32⟩ : ∃ z, z = va_up mem23 224 (moC ad J31) := ⟨_, rfl⟩
  have hP : va_P D vcl (fw n ad mem32) H := by rw [e_mem32, eJ31]; exact hP
  have hD : va_D (Az sz) (fw n ad mem32) := fw_D hD
  have hW33 : MW cy ad J31 A nm m0 mem32 := by rw [e_mem32]; exact hW24.upJ (by rw [eJ31]; exact va_up_ne _ _ (by decide))
  have kk34 : J31 1 = nI L := by rw [eJ31]; exact kk25
  have kk35 : J31 24 = nI G := by rw [eJ31]; exact kk26
  have kk36 : J31 0 = 0 := by rw [eJ31]; exact kk27
  have kk37 : J31 17 = 0 := by rw [eJ31]; exact kk28
  have kk38 : J31 3 = (-1) := by rw [eJ31]; exact kk29
  have kk39 : J31 4 = 0 := by rw [eJ31]; exact kk30
  have kk40 : J31 7 = 0 := by rw [eJ31, va_up_self]
  refine lv_aload_n Bx.1 Bx.2.1 d_Mo_read_25 rfl (lv_at hl 0 rfl) ?_
  refine lv_iconst (v := 0) Bx.1 Bx.2.1 d_Mo_read_26 (by decide) ?_
  refine f_put Bx hP hD hS (by omega) hW33.1 rfl inMo tyMo okMo nmMo 14 (by decide) kw_670 rfl rfl rfl rfl (Nat.le_of_ble_eq_true rfl) d_Mo_read_27 (fun H locs hP hS => ?_)
  obtain ⟨J41, eJ41⟩ : ∃ z, z = va_up J31 14 (0) := ⟨_, rfl⟩
  obtain ⟨mem42, e_mem42⟩ : ∃ z, z = va_up mem32 224 (moC ad J41) := ⟨_, rfl⟩
  have hP : va_P D vcl (fw n ad mem42) H := by rw [e_mem42, eJ41]; exact hP
  have hD : va_D (Az sz) (fw n ad mem42) := fw_D hD
  have hW43 : MW cy ad J41 A nm m0 mem42 := by rw [e_mem42]; exact hW33.upJ (by rw [eJ41]; exact va_up_ne _ _ (by decide))
  have kk44 : J41 1 = nI L := by rw [eJ41]; exact kk34
  have kk45 : J41 24 = nI G := by rw [eJ41]; exact kk35
  have kk46 : J41 0 = 0 := by rw [eJ41]; exact kk36
  have kk47 : J41 17 = 0 := by rw [eJ41]; exact kk37
  have kk48 : J41 3 = (-1) := by rw [eJ41]; exact kk38
  have kk49 : J41 4 = 0 := by rw [eJ41]; exact kk39
  have kk50 : J41 7 = 0 := by rw [eJ41]; exact kk40
  have kk51 : J41 14 = 0 := by rw [eJ41, va_up_self]
  refine lv_aload_n Bx.1 Bx.2.1 d_Mo_read_30 rfl (lv_at hl 0 rfl) ?_
  refine lv_iconst (v := 1) Bx.1 Bx.2.1 d_Mo_read_31 (by decide) ?_
  refine f_put Bx hP hD hS (by omega) hW43.1 rfl inMo tyMo okMo nmMo 26 (by decide) kw_682 rfl rfl rfl rfl (Nat.le_of_ble_eq_true rfl) d_Mo_read_32 (fun H locs hP hS => ?_)
  obtain ⟨J52, eJ52⟩ : ∃ z, z = va_up J41 26 (1) := ⟨_, rfl⟩
  obtain ⟨mem53, e_mem53⟩ : ∃ z, z = va_up mem42 224 (moC ad J52) := ⟨_, rfl⟩
  have hP : va_P D vcl (fw n ad mem53) H := by rw [e_mem53, eJ52]; exact hP
  have hD : va_D (Az sz) (fw n ad mem53) := fw_D hD
  have hW54 : MW cy ad J52 A nm m0 mem53 := by rw [e_mem53]; exact hW43.upG hng
  have kk55 : J52 1 = nI L := by rw [eJ52]; exact kk44
  have kk56 : J52 24 = nI G := by rw [eJ52]; exact kk45
  have kk57 : J52 0 = 0 := by rw [eJ52]; exact kk46
  have kk58 : J52 17 = 0 := by rw [eJ52]; exact kk47
  have kk59 : J52 3 = (-1) := by rw [eJ52]; exact kk48
  have kk60 : J52 4 = 0 := by rw [eJ52]; exact kk49
  have kk61 : J52 7 = 0 := by rw [eJ52]; exact kk50
  have kk62 : J52 14 = 0 := by rw [eJ52]; exact kk51
  have kk63 : J52 26 = 1 := by rw [eJ52, va_up_self]
  refine lv_aload_n Bx.1 Bx.2.1 d_Mo_read_35 rfl (lv_at hl 0 rfl) ?_
  refine lv_iconst (v := 0) Bx.1 Bx.2.1 d_Mo_read_36 (by decide) ?_
  refine f_put Bx hP hD hS (by omega) hW54.1 rfl inMo tyMo okMo nmMo 28 (by decide) kw_684 rfl rfl rfl rfl (Nat.le_of_ble_eq_true rfl) d_Mo_read_37 (fun H locs hP hS => ?_)
  obtain ⟨J64, eJ64⟩ : ∃ z, z = va_up J52 28 (0) := ⟨_, rfl⟩
  obtain ⟨mem65, e_mem65⟩ : ∃ z, z = va_up mem53 224 (moC ad J64) := ⟨_, rfl⟩
  have hP : va_P D vcl (fw n ad mem65) H := by rw [e_mem65, eJ64]; exact hP
  have hD : va_D (Az sz) (fw n ad mem65) := fw_D hD
  have hW66 : MW cy ad J64 A nm m0 mem65 := by rw [e_mem65]; exact hW54.upJ (by rw [eJ64]; exact va_up_ne _ _ (by decide))
  have kk67 : J64 1 = nI L := by rw [eJ64]; exact kk55
  have kk68 : J64 24 = nI G := by rw [eJ64]; exact kk56
  have kk69 : J64 0 = 0 := by rw [eJ64]; exact kk57
  have kk70 : J64 17 = 0 := by rw [eJ64]; exact kk58
  have kk71 : J64 3 = (-1) := by rw [eJ64]; exact kk59
  have kk72 : J64 4 = 0 := by rw [eJ64]; exact kk60
  have kk73 : J64 7 = 0 := by rw [eJ64]; exact kk61
  have kk74 : J64 14 = 0 := by rw [eJ64]; exact kk62
  have kk75 : J64 26 = 1 := by rw [eJ64]; exact kk63
  have kk76 : J64 28 = 0 := by rw [eJ64, va_up_self]
  refine lv_aload_n Bx.1 Bx.2.1 d_Mo_read_40 rfl (lv_at hl 0 rfl) ?_
  refine lv_aload_n Bx.1 Bx.2.1 d_Mo_read_41 rfl (lv_at hl 0 rfl) ?_
  refine lv_iconst (v := 0) Bx.1 Bx.2.1 d_Mo_read_42 (by decide) ?_
  refine f_callVi (na := 1) (As := [.int (0)]) (rest := [.ref (ad 224)]) Bx hml E hP hD hS (by omega) hW66.1 rfl (m_Mo_line l hn hW66 kk67 hL (k0 := 0) (by omega)) kw_770 kw_772 sel_Mo_line kw_8 kw_773 (by decide +kernel) ⟨rfl, rfl⟩ ⟨Nat.le_of_ble_eq_true rfl, Nat.le_of_ble_eq_true rfl⟩ rfl hl.1 (Nat.le_of_ble_eq_true rfl) d_Mo_read_43 ⟨Nat.le_of_ble_eq_true rfl, Nat.le_of_ble_eq_true rfl⟩ (fun r77 mem78 H locs hq hP hS => ?_)
  have hD : va_D (Az sz) (fw n ad mem78) := fw_D hD
  obtain ⟨⟨kl79, hre, hk80, hk81⟩, hq⟩ := hq
  rw [hq] at hP hD
  subst hre
  refine f_put Bx hP hD hS (by omega) hW66.1 rfl inMo tyMo okMo nmMo 16 (by decide) kw_672 rfl rfl rfl rfl (Nat.le_of_ble_eq_true rfl) d_Mo_read_46 (fun H locs hP hS => ?_)
  obtain ⟨J82, eJ82⟩ : ∃ z, z = va_up J64 16 (nI kl79) := ⟨_, rfl⟩
  obtain ⟨mem83, e_mem83⟩ : ∃ z, z = va_up mem65 224 (moC ad J82) := ⟨_, rfl⟩
  have hP : va_P D vcl (fw n ad mem83) H := by rw [e_mem83, eJ82]; exact hP
  have hD : va_D (Az sz) (fw n ad mem83) := fw_D hD
  have hW84 : MW cy ad J82 A nm m0 mem83 := by rw [e_mem83]; exact hW66.upJ (by rw [eJ82]; exact va_up_ne _ _ (by decide))
  have kk85 : J82 1 = nI L := by rw [eJ82]; exact kk67
  have kk86 : J82 24 = nI G := by rw [eJ82]; exact kk68
  have kk87 : J82 0 = 0 := by rw [eJ82]; exact kk69
  have kk88 : J82 17 = 0 := by rw [eJ82]; exact kk70
  have kk89 : J82 3 = (-1) := by rw [eJ82]; exact kk71
  have kk90 : J82 4 = 0 := by rw [eJ82]; exact kk72
  have kk91 : J82 7 = 0 := by rw [eJ82]; exact kk73
  have kk92 : J82 14 = 0 := by rw [eJ82]; exact kk74
  have kk93 : J82 26 = 1 := by rw [eJ82]; exact kk75
  have kk94 : J82 28 = 0 := by rw [eJ82]; exact kk76
  have kk95 : J82 16 = nI kl79 := by rw [eJ82, va_up_self]
  refine lv_iconst (v := 1) Bx.1 Bx.2.1 d_Mo_read_49 (by decide) ?_
  refine lv_istore_n (lv' := [(1, .int (1)), (0, .ref (ad 224))]) Bx.1 Bx.2.1 d_Mo_read_50 rfl hl (by decide) rfl (fun ls hl => ?_)
  have hz14 : J82 14 = nI 0 := kk92
  have hz4 : J82 4 = nI 0 := kk90
  have hz7 : J82 7 = nI 0 := kk91
  have hfin : FinS L G T kl79 J82 A := ⟨0, 0, 0, ⟨kk85, kk86, kk95, kk88, hz14, hz4, hz7⟩, ⟨by omega, by omega, by omega, by omega, by omega⟩, hT, Gd.zero⟩
  have loop96 : ∀ (d97 : Nat) (mem9 : Nat → va_E) (J9 : Nat → Int32) (A9 : Nat → Nat → Int32) (n9 : Nat → Int64) (a1 : Nat) (ls : Array Slot) (H : Heap) (locs : List Loc), ((L + 1 - a1) < d97) → (MW cy ad J9 A9 n9 m0 mem9) → (FinS L G T a1 J9 A9) → (va_P D vcl (fw n ad mem9) H) → (va_D (Az sz) (fw n ad mem9)) → (va_S (Az sz) s.heap H locs) → (lv_has ls 2 [(1, .int (1)), (0, .ref (ad 224))]) → W p l e (headSpec (Cond.code y_Mo_read c_Mo_read 2 (some .int) :: tg) ({ frames := 10, cells := 0, slots := 0, locals := 290 } : Room)).room s m [.ref (ad 224)].toArray below meth c H locs 0 0 (MQ below (va_Qi (fun r mem' => ∃ J' A' nm', MW cy ad J' A' nm' m0 mem' ∧ OI L G J' A') (PP D n ad) (Az sz)) [.ref (ad 224)].toArray s 0 0 (Az sz)) (F0 m 51 ls []) := by
    intro d97
    induction d97 with
    | zero => intro mem9 J9 A9 n9 a1 ls H locs hmeas101; exact absurd hmeas101 (Nat.not_lt_zero _)
    | succ d97 ih100 =>
      intro mem9 J9 A9 n9 a1 ls H locs hmeas101 hz98 hz99 hP hD hS hl
      obtain ⟨u1, R1, E1, hN1, hB1, hT1, hG1⟩ := id hz99
      obtain ⟨-, b2, b3, b4, b5⟩ := hB1
      obtain ⟨g102, g103, g104, g105, g106, g107, g108⟩ := hN1
      refine lv_iload_n Bx.1 Bx.2.1 d_Mo_read_51 rfl (lv_at hl 0 rfl) ?_
      refine lv_if_eq Bx.1 Bx.2.1 d_Mo_read_52 rfl (fun hb109 => ?_) (fun hb109 => ?_)
      · exact absurd hb109 (by decide)
      · refine lv_aload_n Bx.1 Bx.2.1 d_Mo_read_55 rfl (lv_at hl 1 rfl) ?_
        refine f_get Bx hP (by omega) hz98.1 rfl inMo 17 (by decide) kw_673 rfl rfl d_Mo_read_56 ?_
        rw [g105]
        refine lv_if_ne Bx.1 Bx.2.1 d_Mo_read_59 rfl (fun hb110 => ?_) (fun hb110 => ?_)
        · exact absurd hb110 (by decide)
        · refine lv_aload_n Bx.1 Bx.2.1 d_Mo_read_62 rfl (lv_at hl 1 rfl) ?_
          refine f_callVi (na := 0) (As := []) (rest := []) Bx hml E hP hD hS (by omega) hz98.1 rfl (m_Mo_here l hn hz98 g102 hL g104 (by omega)) kw_778 kw_780 sel_Mo_here kw_8 kw_781 (by decide +kernel) ⟨rfl, rfl⟩ ⟨Nat.le_of_ble_eq_true rfl, Nat.le_of_ble_eq_true rfl⟩ rfl hl.1 (Nat.le_of_ble_eq_true rfl) d_Mo_read_63 ⟨Nat.le_of_ble_eq_true rfl, Nat.le_of_ble_eq_true rfl⟩ (fun r111 mem112 H locs hq hP hS => ?_)
          have hD : va_D (Az sz) (fw n ad mem112) := fw_D hD
          obtain ⟨hre, hq⟩ := hq
          rw [hq] at hP hD
          subst hre
          rw [show hereF L (A9 225) (a1) = hereF L T (a1) by rw [hT1]]
          refine f_callSi (na := 1) (As := [.int (hereF L T (a1))]) (rest := []) Bx hml E.2.1 (m_Mo_letter l (hereF L T (a1))) kw_782 kw_783 kw_8 kw_784 (by decide +kernel) ⟨rfl, rfl⟩ ⟨Nat.le_of_ble_eq_true rfl, Nat.le_of_ble_eq_true rfl⟩ rfl hl.1 (Nat.le_of_ble_eq_true rfl) d_Mo_read_66 ⟨Nat.le_of_ble_eq_true rfl, Nat.le_of_ble_eq_true rfl⟩ (fun r114 hs113 => ?_)
          subst hs113
          refine lv_if_eq Bx.1 Bx.2.1 d_Mo_read_69 rfl (fun hb115 => ?_) (fun hb115 => ?_)
          · refine lv_aload_n Bx.1 Bx.2.1 d_Mo_read_79 rfl (lv_at hl 1 rfl) ?_
            refine lv_iconst (v := 1) Bx.1 Bx.2.1 d_Mo_read_80 (by decide) ?_
            refine lv_aload_n Bx.1 Bx.2.1 d_Mo_read_81 rfl (lv_at hl 1 rfl) ?_
            refine f_get Bx hP (by omega) hz98.1 rfl inMo 16 (by decide) kw_672 rfl rfl d_Mo_read_82 ?_
            rw [g104]
            refine f_callVv (na := 2) (As := [.int (1), .int (nI a1)]) (rest := []) Bx hml E hP hD hS (by omega) hz98.1 rfl (m_Mo_wrong l hn hz98 (Or.inl g105) (by first | exact Or.inl rfl | exact Or.inr rfl)) kw_799 kw_801 sel_Mo_wrong kw_8 kw_802 (by decide +kernel) ⟨rfl, rfl⟩ ⟨Nat.le_of_ble_eq_true rfl, Nat.le_of_ble_eq_true rfl⟩ rfl hl.1 (Nat.le_of_ble_eq_true rfl) d_Mo_read_85 ⟨Nat.le_of_ble_eq_true rfl, Nat.le_of_ble_eq_true rfl⟩ (fun mem117 H locs hq hP hS => ?_)
            have hD : va_D (Az sz) (fw n ad mem117) := fw_D hD
            obtain ⟨J118, hW119, hwr120⟩ := hq
            have kk121 : J118 1 = nI L := (show J118 1 = J9 1 from hwr120.2 1 (by decide) (by decide)).trans g102
            have kk122 : J118 24 = nI G := (show J118 24 = J9 24 from hwr120.2 24 (by decide) (by decide)).trans g103
            have kk123 : J118 16 = nI a1 := (show J118 16 = J9 16 from hwr120.2 16 (by decide) (by decide)).trans g104
            have kk124 : J118 14 = nI u1 := (show J118 14 = J9 14 from hwr120.2 14 (by decide) (by decide)).trans g106
            have kk125 : J118 4 = nI R1 := (show J118 4 = J9 4 from hwr120.2 4 (by decide) (by decide)).trans g107
            have kk126 : J118 7 = nI E1 := (show J118 7 = J9 7 from hwr120.2 7 (by decide) (by decide)).trans g108
            refine lv_aload_n Bx.1 Bx.2.1 d_Mo_read_88 rfl (lv_at hl 1 rfl) ?_
            refine f_get Bx hP (by omega) hW119.1 rfl inMo 17 (by decide) kw_673 rfl rfl d_Mo_read_89 ?_
            refine lv_if_ne Bx.1 Bx.2.1 d_Mo_read_92 rfl (fun hb127 => ?_) (fun hb127 => ?_)
            · refine lv_iconst (v := 0) Bx.1 Bx.2.1 d_Mo_read_127 (by decide) ?_
              refine lv_istore_n (lv' := [(1, .int (0)), (0, .ref (ad 224))]) Bx.1 Bx.2.1 d_Mo_read_128 rfl hl (by decide) rfl (fun ls hl => ?_)
              refine lv_iload_n Bx.1 Bx.2.1 d_Mo_read_129 rfl (lv_at hl 0 rfl) ?_
              refine lv_if_eq Bx.1 Bx.2.1 d_Mo_read_130 rfl (fun hb128 => ?_) (fun hb128 => ?_)
              · refine lv_iload_n Bx.1 Bx.2.1 d_Mo_read_51 rfl (lv_at hl 0 rfl) ?_
                refine lv_if_eq Bx.1 Bx.2.1 d_Mo_read_52 rfl (fun hb129 => ?_) (fun hb129 => ?_)
                · refine lv_aload_n Bx.1 Bx.2.1 d_Mo_read_150 rfl (lv_at hl 1 rfl) ?_
                  refine f_get Bx hP (by omega) hW119.1 rfl inMo 17 (by decide) kw_673 rfl rfl d_Mo_read_151 ?_
                  refine lv_if_ne Bx.1 Bx.2.1 d_Mo_read_154 rfl (fun hb130 => ?_) (fun hb130 => ?_)
                  · refine lv_aload_n Bx.1 Bx.2.1 d_Mo_read_162 rfl (lv_at hl 1 rfl) ?_
                    refine lv_iconst (v := 0) Bx.1 Bx.2.1 d_Mo_read_163 (by decide) ?_
                    refine f_put Bx hP hD hS (by omega) hW119.1 rfl inMo tyMo okMo nmMo 4 (by decide) kw_660 rfl rfl rfl rfl (Nat.le_of_ble_eq_true rfl) d_Mo_read_164 (fun H locs hP hS => ?_)
                    obtain ⟨J131, eJ131⟩ : ∃ z, z = va_up J118 4 (0) := ⟨_, rfl⟩
                    obtain ⟨mem132, e_mem132⟩ : ∃ z, z = va_up mem117 224 (moC ad J131) := ⟨_, rfl⟩
                    have hP : va_P D vcl (fw n ad mem132) H := by rw [e_mem132, eJ131]; exact hP
                    have hD : va_D (Az sz) (fw n ad mem132) := fw_D hD
                    have hW133 : MW cy ad J131 A9 n9 m0 mem132 := by rw [e_mem132]; exact hW119.upJ (by rw [eJ131]; exact va_up_ne _ _ (by decide))
                    have kk134 : J131 1 = nI L := by rw [eJ131]; exact kk121
                    have kk135 : J131 24 = nI G := by rw [eJ131]; exact kk122
                    have kk136 : J131 16 = nI a1 := by rw [eJ131]; exact kk123
                    have kk137 : J131 14 = nI u1 := by rw [eJ131]; exact kk124
                    have kk138 : J131 7 = nI E1 := by rw [eJ131]; exact kk126
                    have kk139 : J131 4 = 0 := by rw [eJ131, va_up_self]
                    have bd140 : b12 (J131 17) := by rw [eJ131]; exact hwr120.1
                    refine lv_aload_n Bx.1 Bx.2.1 d_Mo_read_167 rfl (lv_at hl 1 rfl) ?_
                    refine lv_iconst (v := 0) Bx.1 Bx.2.1 d_Mo_read_168 (by decide) ?_
                    refine f_put Bx hP hD hS (by omega) hW133.1 rfl inMo tyMo okMo nmMo 7 (by decide) kw_663 rfl rfl rfl rfl (Nat.le_of_ble_eq_true rfl) d_Mo_read_169 (fun H locs hP hS => ?_)
                    obtain ⟨J141, eJ141⟩ : ∃ z, z = va_up J131 7 (0) := ⟨_, rfl⟩
                    obtain ⟨mem142, e_mem142⟩ : ∃ z, z = va_up mem132 224 (moC ad J141) := ⟨_, rfl⟩
                    have hP : va_P D vcl (fw n ad mem142) H := by rw [e_mem142, eJ141]; exact hP
                    have hD : va_D (Az sz) (fw n ad mem142) := fw_D hD
                    have hW143 : MW cy ad J141 A9 n9 m0 mem142 := by rw [e_mem142]; exact hW133.upJ (by rw [eJ141]; exact va_up_ne _ _ (by decide))
                    have kk144 : J141 1 = nI L := by rw [eJ141]; exact kk134
                    have kk145 : J141 24 = nI G := by rw [eJ141]; exact kk135
                    have kk146 : J141 16 = nI a1 := by rw [eJ141]; exact kk136
                    have kk147 : J141 14 = nI u1 := by rw [eJ141]; exact kk137
                    have kk148 : J141 4 = 0 := by rw [eJ141]; exact kk139
                    have kk149 : J141 7 = 0 := by rw [eJ141, va_up_self]
                    have bd150 : b12 (J141 17) := by rw [eJ141]; exact bd140
                    refine lv_aload_n Bx.1 Bx.2.1 d_Mo_read_172 rfl (lv_at hl 1 rfl) ?_
                    refine lv_aload_n Bx.1 Bx.2.1 d_Mo_read_173 rfl (lv_at hl 1 rfl) ?_
                    refine f_get Bx hP (by omega) hW143.1 rfl inMo 17 (by decide) kw_673 rfl rfl d_Mo_read_174 ?_
                    refine f_callVi (na := 1) (As := [.int (J141 17)]) (rest := []) Bx hml E hP hD hS (by omega) hW143.1 rfl (m_Mo_fail l hn (J := J141) hW143.1) kw_757 kw_759 sel_Mo_fail kw_8 kw_760 (by decide +kernel) ⟨rfl, rfl⟩ ⟨Nat.le_of_ble_eq_true rfl, Nat.le_of_ble_eq_true rfl⟩ rfl hl.1 (Nat.le_of_ble_eq_true rfl) d_Mo_read_177 ⟨Nat.le_of_ble_eq_true rfl, Nat.le_of_ble_eq_true rfl⟩ (fun r151 mem152 H locs hq hP hS => ?_)
                    have hD : va_D (Az sz) (fw n ad mem152) := fw_D hD
                    obtain ⟨hq0, hq⟩ := hq
                    have hWf : MW cy ad (va_up J141 0 (J141 17)) A9 n9 m0 mem152 := by rw [hq]; exact hW143.upJ (va_up_ne _ _ (by decide))
                    exact W.iret (v := r151) hx hb hr (fun t ht hW => ⟨⟨r151, mem152, rfl, ⟨_, _, _, hWf, kk144, kk145, 0, 0, 0, kk148, kk149, by omega, by omega, by omega, Gd.zero⟩, by show va_P _ _ _ t.heap; rw [ht]; exact hP⟩, hS.F ht⟩) hS.2.2 d_Mo_read_180
                  · exact absurd hb130 hwr120.1.ne
                · exact absurd hb129 (by decide)
              · exact absurd hb128 (by decide)
            · exact absurd hb127 hwr120.1.ne
          · refine lv_aload_n Bx.1 Bx.2.1 d_Mo_read_72 rfl (lv_at hl 1 rfl) ?_
            refine f_callVv (na := 0) (As := []) (rest := []) Bx hml E hP hD hS (by omega) hz98.1 rfl (m_Mo_readRule l hn hz98 g102 g103 g104 g105 g106 g107 g108 ⟨hL, by omega, by omega, by omega, by omega⟩ hT1 hG1 hb115) kw_785 kw_787 sel_Mo_readRule kw_8 kw_788 (by decide +kernel) ⟨rfl, rfl⟩ ⟨Nat.le_of_ble_eq_true rfl, Nat.le_of_ble_eq_true rfl⟩ rfl hl.1 (Nat.le_of_ble_eq_true rfl) d_Mo_read_73 ⟨Nat.le_of_ble_eq_true rfl, Nat.le_of_ble_eq_true rfl⟩ (fun mem154 H locs hq hP hS => ?_)
            have hD : va_D (Az sz) (fw n ad mem154) := fw_D hD
            obtain ⟨J155, A156, nn157, hW158, hres159⟩ := hq
            rcases hres159 with hbad9 | ⟨a2, h2, hfin2⟩
            · obtain ⟨g160, g161, g162, g163, g164, g165, g166⟩ := hbad9
              refine lv_goto Bx.1 Bx.2.1 d_Mo_read_76 rfl ?_
              refine lv_aload_n Bx.1 Bx.2.1 d_Mo_read_88 rfl (lv_at hl 1 rfl) ?_
              refine f_get Bx hP (by omega) hW158.1 rfl inMo 17 (by decide) kw_673 rfl rfl d_Mo_read_89 ?_
              refine lv_if_ne Bx.1 Bx.2.1 d_Mo_read_92 rfl (fun hb167 => ?_) (fun hb167 => ?_)
              · refine lv_iconst (v := 0) Bx.1 Bx.2.1 d_Mo_read_127 (by decide) ?_
                refine lv_istore_n (lv' := [(1, .int (0)), (0, .ref (ad 224))]) Bx.1 Bx.2.1 d_Mo_read_128 rfl hl (by decide) rfl (fun ls hl => ?_)
                refine lv_iload_n Bx.1 Bx.2.1 d_Mo_read_129 rfl (lv_at hl 0 rfl) ?_
                refine lv_if_eq Bx.1 Bx.2.1 d_Mo_read_130 rfl (fun hb168 => ?_) (fun hb168 => ?_)
                · refine lv_iload_n Bx.1 Bx.2.1 d_Mo_read_51 rfl (lv_at hl 0 rfl) ?_
                  refine lv_if_eq Bx.1 Bx.2.1 d_Mo_read_52 rfl (fun hb169 => ?_) (fun hb169 => ?_)
                  · refine lv_aload_n Bx.1 Bx.2.1 d_Mo_read_150 rfl (lv_at hl 1 rfl) ?_
                    refine f_get Bx hP (by omega) hW158.1 rfl inMo 17 (by decide) kw_673 rfl rfl d_Mo_read_151 ?_
                    refine lv_if_ne Bx.1 Bx.2.1 d_Mo_read_154 rfl (fun hb170 => ?_) (fun hb170 => ?_)
                    · refine lv_aload_n Bx.1 Bx.2.1 d_Mo_read_162 rfl (lv_at hl 1 rfl) ?_
                      refine lv_iconst (v := 0) Bx.1 Bx.2.1 d_Mo_read_163 (by decide) ?_
                      refine f_put Bx hP hD hS (by omega) hW158.1 rfl inMo tyMo okMo nmMo 4 (by decide) kw_660 rfl rfl rfl rfl (Nat.le_of_ble_eq_true rfl) d_Mo_read_164 (fun H locs hP hS => ?_)
                      obtain ⟨J171, eJ171⟩ : ∃ z, z = va_up J155 4 (0) := ⟨_, rfl⟩
                      obtain ⟨mem172, e_mem172⟩ : ∃ z, z = va_up mem154 224 (moC ad J171) := ⟨_, rfl⟩
                      have hP : va_P D vcl (fw n ad mem172) H := by rw [e_mem172, eJ171]; exact hP
                      have hD : va_D (Az sz) (fw n ad mem172) := fw_D hD
                      have hW173 : MW cy ad J171 A156 nn157 m0 mem172 := by rw [e_mem172]; exact hW158.upJ (by rw [eJ171]; exact va_up_ne _ _ (by decide))
                      have kk174 : J171 1 = nI L := by rw [eJ171]; exact g160
                      have kk175 : J171 24 = nI G := by rw [eJ171]; exact g161
                      have kk176 : J171 16 = nI g164 := by rw [eJ171]; exact g166
                      have kk177 : J171 4 = 0 := by rw [eJ171, va_up_self]
                      have bd178 : b12 (J171 17) := by rw [eJ171]; exact g163
                      refine lv_aload_n Bx.1 Bx.2.1 d_Mo_read_167 rfl (lv_at hl 1 rfl) ?_
                      refine lv_iconst (v := 0) Bx.1 Bx.2.1 d_Mo_read_168 (by decide) ?_
                      refine f_put Bx hP hD hS (by omega) hW173.1 rfl inMo tyMo okMo nmMo 7 (by decide) kw_663 rfl rfl rfl rfl (Nat.le_of_ble_eq_true rfl) d_Mo_read_169 (fun H locs hP hS => ?_)
                      obtain ⟨J179, eJ179⟩ : ∃ z, z = va_up J171 7 (0) := ⟨_, rfl⟩
                      obtain ⟨mem180, e_mem180⟩ : ∃ z, z = va_up mem172 224 (moC ad J179) := ⟨_, rfl⟩
                      have hP : va_P D vcl (fw n ad mem180) H := by rw [e_mem180, eJ179]; exact hP
                      have hD : va_D (Az sz) (fw n ad mem180) := fw_D hD
                      have hW181 : MW cy ad J179 A156 nn157 m0 mem180 := by rw [e_mem180]; exact hW173.upJ (by rw [eJ179]; exact va_up_ne _ _ (by decide))
                      have kk182 : J179 1 = nI L := by rw [eJ179]; exact kk174
                      have kk183 : J179 24 = nI G := by rw [eJ179]; exact kk175
                      have kk184 : J179 16 = nI g164 := by rw [eJ179]; exact kk176
                      have kk185 : J179 4 = 0 := by rw [eJ179]; exact kk177
                      have kk186 : J179 7 = 0 := by rw [eJ179, va_up_self]
                      have bd187 : b12 (J179 17) := by rw [eJ179]; exact bd178
                      refine lv_aload_n Bx.1 Bx.2.1 d_Mo_read_172 rfl (lv_at hl 1 rfl) ?_
                      refine lv_aload_n Bx.1 Bx.2.1 d_Mo_read_173 rfl (lv_at hl 1 rfl) ?_
                      refine f_get Bx hP (by omega) hW181.1 rfl inMo 17 (by decide) kw_673 rfl rfl d_Mo_read_174 ?_
                      refine f_callVi (na := 1) (As := [.int (J179 17)]) (rest := []) Bx hml E hP hD hS (by omega) hW181.1 rfl (m_Mo_fail l hn (J := J179) hW181.1) kw_757 kw_759 sel_Mo_fail kw_8 kw_760 (by decide +kernel) ⟨rfl, rfl⟩ ⟨Nat.le_of_ble_eq_true rfl, Nat.le_of_ble_eq_true rfl⟩ rfl hl.1 (Nat.le_of_ble_eq_true rfl) d_Mo_read_177 ⟨Nat.le_of_ble_eq_true rfl, Nat.le_of_ble_eq_true rfl⟩ (fun r188 mem189 H locs hq hP hS => ?_)
                      have hD : va_D (Az sz) (fw n ad mem189) := fw_D hD
                      obtain ⟨hq0, hq⟩ := hq
                      have hWf : MW cy ad (va_up J179 0 (J179 17)) A156 nn157 m0 mem189 := by rw [hq]; exact hW181.upJ (va_up_ne _ _ (by decide))
                      exact W.iret (v := r188) hx hb hr (fun t ht hW => ⟨⟨r188, mem189, rfl, ⟨_, _, _, hWf, kk182, kk183, 0, 0, 0, kk185, kk186, by omega, by omega, by omega, Gd.zero⟩, by show va_P _ _ _ t.heap; rw [ht]; exact hP⟩, hS.F ht⟩) hS.2.2 d_Mo_read_180
                    · exact absurd hb170 g163.ne
                  · exact absurd hb169 (by decide)
                · exact absurd hb168 (by decide)
              · exact absurd hb167 g163.ne
            · obtain ⟨u1, R1, E1, hN1, hB1, hT1, hG1⟩ := id hfin2
              obtain ⟨-, c2, c3, c4, c5⟩ := hB1
              obtain ⟨g190, g191, g192, g193, g194, g195, g196⟩ := hN1
              refine lv_goto Bx.1 Bx.2.1 d_Mo_read_76 rfl ?_
              refine lv_aload_n Bx.1 Bx.2.1 d_Mo_read_88 rfl (lv_at hl 1 rfl) ?_
              refine f_get Bx hP (by omega) hW158.1 rfl inMo 17 (by decide) kw_673 rfl rfl d_Mo_read_89 ?_
              rw [g193]
              refine lv_if_ne Bx.1 Bx.2.1 d_Mo_read_92 rfl (fun hb197 => ?_) (fun hb197 => ?_)
              · exact absurd hb197 (by decide)
              · refine lv_aload_n Bx.1 Bx.2.1 d_Mo_read_95 rfl (lv_at hl 1 rfl) ?_
                refine f_get Bx hP (by omega) hW158.1 rfl inMo 16 (by decide) kw_672 rfl rfl d_Mo_read_96 ?_
                rw [g192]
                refine lv_aload_n Bx.1 Bx.2.1 d_Mo_read_99 rfl (lv_at hl 1 rfl) ?_
                refine f_get Bx hP (by omega) hW158.1 rfl inMo 1 (by decide) kw_657 rfl rfl d_Mo_read_100 ?_
                rw [g190]
                refine lv_icmp_ge Bx.1 Bx.2.1 d_Mo_read_103 rfl (fun hb198 => ?_) (fun hb198 => ?_)
                · have hN199 : L ≤ a2 := (nI_leI (by omega) (by omega)).mp (show nI (L) ≤ nI (a2) from hb198)
                  refine lv_iconst (v := 0) Bx.1 Bx.2.1 d_Mo_read_127 (by decide) ?_
                  refine lv_istore_n (lv' := [(1, .int (0)), (0, .ref (ad 224))]) Bx.1 Bx.2.1 d_Mo_read_128 rfl hl (by decide) rfl (fun ls hl => ?_)
                  refine lv_iload_n Bx.1 Bx.2.1 d_Mo_read_129 rfl (lv_at hl 0 rfl) ?_
                  refine lv_if_eq Bx.1 Bx.2.1 d_Mo_read_130 rfl (fun hb200 => ?_) (fun hb200 => ?_)
                  · refine lv_iload_n Bx.1 Bx.2.1 d_Mo_read_51 rfl (lv_at hl 0 rfl) ?_
                    refine lv_if_eq Bx.1 Bx.2.1 d_Mo_read_52 rfl (fun hb201 => ?_) (fun hb201 => ?_)
                    · refine lv_aload_n Bx.1 Bx.2.1 d_Mo_read_150 rfl (lv_at hl 1 rfl) ?_
                      refine f_get Bx hP (by omega) hW158.1 rfl inMo 17 (by decide) kw_673 rfl rfl d_Mo_read_151 ?_
                      rw [g193]
                      refine lv_if_ne Bx.1 Bx.2.1 d_Mo_read_154 rfl (fun hb202 => ?_) (fun hb202 => ?_)
                      · exact absurd hb202 (by decide)
                      · refine lv_aload_n Bx.1 Bx.2.1 d_Mo_read_157 rfl (lv_at hl 1 rfl) ?_
                        refine f_get Bx hP (by omega) hW158.1 rfl inMo 4 (by decide) kw_660 rfl rfl d_Mo_read_158 ?_
                        rw [g195]
                        exact W.iret (v := nI R1) hx hb hr (fun t ht hW => ⟨⟨nI R1, mem154, rfl, ⟨J155, A156, nn157, hW158, g190, g191, u1, R1, E1, g195, g196, by omega, by omega, by omega, hG1⟩, by show va_P _ _ _ t.heap; rw [ht]; exact hP⟩, hS.F ht⟩) hS.2.2 d_Mo_read_161
                    · exact absurd hb201 (by decide)
                  · exact absurd hb200 (by decide)
                · have hN203 : ¬ L ≤ a2 := fun q9 => hb198 (show nI (L) ≤ nI (a2) from (nI_leI (by omega) (by omega)).mpr q9)
                  refine lv_aload_n Bx.1 Bx.2.1 d_Mo_read_106 rfl (lv_at hl 1 rfl) ?_
                  refine lv_aload_n Bx.1 Bx.2.1 d_Mo_read_107 rfl (lv_at hl 1 rfl) ?_
                  refine f_get Bx hP (by omega) hW158.1 rfl inMo 16 (by decide) kw_672 rfl rfl d_Mo_read_108 ?_
                  rw [g192]
                  refine lv_iconst (v := 1) Bx.1 Bx.2.1 d_Mo_read_111 (by decide) ?_
                  refine lv_iadd Bx.1 Bx.2.1 d_Mo_read_112 ?_
                  rw [show nI a2 + 1 = nI (a2 + 1) from nI_add (a2) (1)]
                  refine f_callVi (na := 1) (As := [.int (nI (a2 + 1))]) (rest := []) Bx hml E hP hD hS (by omega) hW158.1 rfl (m_Mo_line l hn hW158 g190 hL (k0 := a2 + 1) (by omega)) kw_770 kw_772 sel_Mo_line kw_8 kw_773 (by decide +kernel) ⟨rfl, rfl⟩ ⟨Nat.le_of_ble_eq_true rfl, Nat.le_of_ble_eq_true rfl⟩ rfl hl.1 (Nat.le_of_ble_eq_true rfl) d_Mo_read_113 ⟨Nat.le_of_ble_eq_true rfl, Nat.le_of_ble_eq_true rfl⟩ (fun r204 mem205 H locs hq hP hS => ?_)
                  have hD : va_D (Az sz) (fw n ad mem205) := fw_D hD
                  obtain ⟨⟨kl206, hre, hk207, hk208⟩, hq⟩ := hq
                  rw [hq] at hP hD
                  subst hre
                  refine lv_aload_n Bx.1 Bx.2.1 d_Mo_read_116 rfl (lv_at hl 1 rfl) ?_
                  refine f_get Bx hP (by omega) hW158.1 rfl inMo 1 (by decide) kw_657 rfl rfl d_Mo_read_117 ?_
                  rw [g190]
                  refine lv_icmp_ge Bx.1 Bx.2.1 d_Mo_read_120 rfl (fun hb209 => ?_) (fun hb209 => ?_)
                  · have hN210 : L ≤ kl206 := (nI_leI (by omega) (by omega)).mp (show nI (L) ≤ nI (kl206) from hb209)
                    refine lv_iconst (v := 0) Bx.1 Bx.2.1 d_Mo_read_127 (by decide) ?_
                    refine lv_istore_n (lv' := [(1, .int (0)), (0, .ref (ad 224))]) Bx.1 Bx.2.1 d_Mo_read_128 rfl hl (by decide) rfl (fun ls hl => ?_)
                    refine lv_iload_n Bx.1 Bx.2.1 d_Mo_read_129 rfl (lv_at hl 0 rfl) ?_
                    refine lv_if_eq Bx.1 Bx.2.1 d_Mo_read_130 rfl (fun hb211 => ?_) (fun hb211 => ?_)
                    · refine lv_iload_n Bx.1 Bx.2.1 d_Mo_read_51 rfl (lv_at hl 0 rfl) ?_
                      refine lv_if_eq Bx.1 Bx.2.1 d_Mo_read_52 rfl (fun hb212 => ?_) (fun hb212 => ?_)
                      · refine lv_aload_n Bx.1 Bx.2.1 d_Mo_read_150 rfl (lv_at hl 1 rfl) ?_
                        refine f_get Bx hP (by omega) hW158.1 rfl inMo 17 (by decide) kw_673 rfl rfl d_Mo_read_151 ?_
                        rw [g193]
                        refine lv_if_ne Bx.1 Bx.2.1 d_Mo_read_154 rfl (fun hb213 => ?_) (fun hb213 => ?_)
                        · exact absurd hb213 (by decide)
                        · refine lv_aload_n Bx.1 Bx.2.1 d_Mo_read_157 rfl (lv_at hl 1 rfl) ?_
                          refine f_get Bx hP (by omega) hW158.1 rfl inMo 4 (by decide) kw_660 rfl rfl d_Mo_read_158 ?_
                          rw [g195]
                          exact W.iret (v := nI R1) hx hb hr (fun t ht hW => ⟨⟨nI R1, mem154, rfl, ⟨J155, A156, nn157, hW158, g190, g191, u1, R1, E1, g195, g196, by omega, by omega, by omega, hG1⟩, by show va_P _ _ _ t.heap; rw [ht]; exact hP⟩, hS.F ht⟩) hS.2.2 d_Mo_read_161
                      · exact absurd hb212 (by decide)
                    · exact absurd hb211 (by decide)
                  · have hN214 : ¬ L ≤ kl206 := fun q9 => hb209 (show nI (L) ≤ nI (kl206) from (nI_leI (by omega) (by omega)).mpr q9)
                    refine lv_iconst (v := 1) Bx.1 Bx.2.1 d_Mo_read_123 (by decide) ?_
                    refine lv_goto Bx.1 Bx.2.1 d_Mo_read_124 rfl ?_
                    refine lv_istore_n (lv' := [(1, .int (1)), (0, .ref (ad 224))]) Bx.1 Bx.2.1 d_Mo_read_128 rfl hl (by decide) rfl (fun ls hl => ?_)
                    refine lv_iload_n Bx.1 Bx.2.1 d_Mo_read_129 rfl (lv_at hl 0 rfl) ?_
                    refine lv_if_eq Bx.1 Bx.2.1 d_Mo_read_130 rfl (fun hb215 => ?_) (fun hb215 => ?_)
                    · exact absurd hb215 (by decide)
                    · refine lv_aload_n Bx.1 Bx.2.1 d_Mo_read_133 rfl (lv_at hl 1 rfl) ?_
                      refine lv_aload_n Bx.1 Bx.2.1 d_Mo_read_134 rfl (lv_at hl 1 rfl) ?_
                      refine lv_aload_n Bx.1 Bx.2.1 d_Mo_read_135 rfl (lv_at hl 1 rfl) ?_
                      refine f_get Bx hP (by omega) hW158.1 rfl inMo 16 (by decide) kw_672 rfl rfl d_Mo_read_136 ?_
                      rw [g192]
                      refine lv_iconst (v := 1) Bx.1 Bx.2.1 d_Mo_read_139 (by decide) ?_
                      refine lv_iadd Bx.1 Bx.2.1 d_Mo_read_140 ?_
                      rw [show nI a2 + 1 = nI (a2 + 1) from nI_add (a2) (1)]
                      refine f_callVi (na := 1) (As := [.int (nI (a2 + 1))]) (rest := [.ref (ad 224)]) Bx hml E hP hD hS (by omega) hW158.1 rfl (m_Mo_line l hn hW158 g190 hL (k0 := a2 + 1) (by omega)) kw_770 kw_772 sel_Mo_line kw_8 kw_773 (by decide +kernel) ⟨rfl, rfl⟩ ⟨Nat.le_of_ble_eq_true rfl, Nat.le_of_ble_eq_true rfl⟩ rfl hl.1 (Nat.le_of_ble_eq_true rfl) d_Mo_read_141 ⟨Nat.le_of_ble_eq_true rfl, Nat.le_of_ble_eq_true rfl⟩ (fun r216 mem217 H locs hq hP hS => ?_)
                      have hD : va_D (Az sz) (fw n ad mem217) := fw_D hD
                      obtain ⟨⟨kl218, hre, hk219, hk220⟩, hq⟩ := hq
                      rw [hq] at hP hD
                      subst hre
                      refine f_put Bx hP hD hS (by omega) hW158.1 rfl inMo tyMo okMo nmMo 16 (by decide) kw_672 rfl rfl rfl rfl (Nat.le_of_ble_eq_true rfl) d_Mo_read_144 (fun H locs hP hS => ?_)
                      obtain ⟨J221, eJ221⟩ : ∃ z, z = va_up J155 16 (nI kl218) := ⟨_, rfl⟩
                      obtain ⟨mem222, e_mem222⟩ : ∃ z, z = va_up mem154 224 (moC ad J221) := ⟨_, rfl⟩
                      have hP : va_P D vcl (fw n ad mem222) H := by rw [e_mem222, eJ221]; exact hP
                      have hD : va_D (Az sz) (fw n ad mem222) := fw_D hD
                      have hW223 : MW cy ad J221 A156 nn157 m0 mem222 := by rw [e_mem222]; exact hW158.upJ (by rw [eJ221]; exact va_up_ne _ _ (by decide))
                      have kk224 : J221 1 = nI L := by rw [eJ221]; exact g190
                      have kk225 : J221 24 = nI G := by rw [eJ221]; exact g191
                      have kk226 : J221 17 = 0 := by rw [eJ221]; exact g193
                      have kk227 : J221 14 = nI u1 := by rw [eJ221]; exact g194
                      have kk228 : J221 4 = nI R1 := by rw [eJ221]; exact g195
                      have kk229 : J221 7 = nI E1 := by rw [eJ221]; exact g196
                      have kk230 : J221 16 = nI kl218 := by rw [eJ221, va_up_self]
                      refine lv_goto Bx.1 Bx.2.1 d_Mo_read_147 rfl ?_
                      have hfin3 : FinS L G T kl218 J221 A156 := ⟨u1, R1, E1, ⟨kk224, kk225, kk230, kk226, kk227, kk228, kk229⟩, ⟨by omega, by omega, by omega, by omega, by omega⟩, hT1, hG1⟩
                      exact ih100 mem222 (J221) (A156) (nn157) (kl218) _ _ _ (by have := hmeas101; omega) (hW223) (hfin3) hP hD hS (lv_sub hl [0, 1] rfl)
  exact loop96 _ mem83 (J82) (A) (nm) (kl79) _ _ _ (Nat.lt_succ_self _) (hW84) (hfin) hP hD hS (lv_sub hl [0, 1] rfl)
