theorem Inv.wk {R E u f : Nat} {q : Prop} {c s t : Nat → Nat} {A : Nat → Nat → Int32} {X X' : Nat → Prop} (h : Inv R E u f q c s t A X) (hx : ∀ k, X k → X' k) : Inv R E u f q c s t A X' :=
  ⟨h.1, h.2.1, h.2.2.1, fun k hk z => (h.2.2.2.1 k hk z).imp id (fun w => w.imp id (hx k)), h.2.2.2.2⟩
def ResE (L G : Nat) (T : Nat → Int32) (a : Nat) (J : Nat → Int32) (A : Nat → Nat → Int32) : Prop := BAD L G T J A ∨ ∃ a', a ≤ a' ∧ St L G T a' J A
theorem Res.mono {L G a a2 : Nat} {T J : Nat → Int32} {A : Nat → Nat → Int32} (h : Res L G T a2 J A) (ha : a ≤ a2) : Res L G T a J A := h.imp id (fun ⟨a', h1, h2⟩ => ⟨a', by omega, h2⟩)
theorem ResE.res {L G a a2 : Nat} {T J : Nat → Int32} {A : Nat → Nat → Int32} (h : ResE L G T a2 J A) (ha : a < a2) : Res L G T a J A := h.imp id (fun ⟨a', h1, h2⟩ => ⟨a', by omega, h2⟩)
set_option maxHeartbeats 4000000 in
set_option maxRecDepth 100000 in
theorem m_Mo_enterB (l : Launch) {D : va_G} {cy : Nat → ClassId} {sz n : Nat} {ad : Nat → Nat} {mem : Nat → va_E} {J : Nat → Int32} {A : Nat → Nat → Int32} {nm : Nat → Int64} {m0 : Nat → va_E} {L G a u R f : Nat} {T : Nat → Int32} {fc fs ft : Nat → Nat} {Ec tt : Nat} {wh oe : Int32} {X : Nat → Prop} (hn : 242 ≤ n) (hM : MW cy ad J A nm m0 mem) (hNm : Num L G a u R Ec f J) (hBd : L ≤ 240 ∧ a ≤ L ∧ u ≤ a ∧ R ≤ 12 ∧ f ≤ 6) (hEb : Ec ≤ 100) (hf5 : f ≤ 5) (hT : A 225 = T) (hp : J 28 = 0) (hI : Inv R Ec u f True fc fs ft A X) (hwh : (wh = 1 ∧ tt = Ec ∧ ∀ k, ¬ X k) ∨ (wh = 2 ∧ oe = nI tt ∧ Ec = tt + 1 ∧ A 232 tt = -1 ∧ A 233 tt = -1 ∧ ∀ k, X k → k = tt)) (hse : fs f < tt) (hrr : A 239 f = -1 ∨ ∃ r, A 239 f = nI r ∧ fs f < r ∧ r < tt) (hC : CL tt A) : MV l D cy sz n ad y_Mo_enter c_Mo_enter 3 ({ frames := 3, cells := 0, slots := 0, locals := 90 } : Room) mem [.ref (ad 224), .int (wh), .int (oe)] (fun mem' => ∃ J' A' nm', MW cy ad J' A' nm' m0 mem' ∧ ResE L G T a J' A') := by
  refine Met.ofW (cc := c_Mo_enter) (maxL := 3) (ret := none) (by decide) rfl ?_
  intro p e s m args below meth c s₁ B hml hv
  obtain ⟨rfl, E, hP, hD⟩ := hv
  have hx := B.exec
  have hb := B.bytes
  have hr := B.returns
  have hlocks := B.notSynchronized
  have Bx : MB p s m [.ref (ad 224), .int (wh), .int (oe)].toArray c c_Mo_enter "AbnfChartModel" D cy := ⟨hx, hb, tb_all (atoms_spec B.pre) E.2.1, findClass_of_methodNamed B.named, E.1⟩
  have hS : va_S (Az sz) s.heap s.heap [] := va_S.rf
  have hl := lv_entry ([.ref (ad 224), .int (wh), .int (oe)]) (n := 3) (Nat.le_of_ble_eq_true rfl)
  rw [lg_entry_eq]
  generalize (lg_sl ([.ref (ad 224), .int (wh), .int (oe)]) ++ List.replicate (3 - (lg_sl ([.ref (ad 224), .int (wh), .int (oe)])).length) Slot.unset).toArray = ls at hl ⊢
  have hl : lv_has ls 3 [(0, .ref (ad 224)), (1, .int (wh)), (2, .int (oe))] := hl
  obtain ⟨hL, haL, huA, hRb, hfb⟩ := hBd
  obtain ⟨g1, g2, g3, g4, g5, g6, g7, g8⟩ := hNm
  have hw0 : wh ≠ 0 := by rcases hwh with h | h <;> rw [h.1] <;> decide
  refine lv_aload_n Bx.1 Bx.2.1 d_Mo_enter_0 rfl (lv_at hl 0 rfl) ?_
  refine f_callVv (na := 0) (As := []) (rest := []) Bx hml E hP hD hS (by omega) hM.1 rfl (m_Mo_gap l hn hM g1 hL g3 (by omega)) kw_803 kw_805 sel_Mo_gap kw_8 kw_806 (by decide +kernel) ⟨rfl, rfl⟩ ⟨Nat.le_of_ble_eq_true rfl, Nat.le_of_ble_eq_true rfl⟩ rfl hl.1 (Nat.le_of_ble_eq_true rfl) d_Mo_enter_1 ⟨Nat.le_of_ble_eq_true rfl, Nat.le_of_ble_eq_true rfl⟩ (fun mem10 H locs hq hP hS => ?_)
  have hD : va_D (Az sz) (fw n ad mem10) := fw_D hD
  obtain ⟨a11, hg12, hg13, hW14⟩ := hq
  obtain ⟨J15, eJ15⟩ : ∃ z, z = va_up J 16 (nI a11) := ⟨_, rfl⟩
  rw [← eJ15] at hW14
  have kk16 : J15 1 = nI L := (show J15 1 = J 1 from by rw [eJ15]; rfl).trans g1
  have kk17 : J15 24 = nI G := (show J15 24 = J 24 from by rw [eJ15]; rfl).trans g2
  have kk18 : J15 17 = 0 := (show J15 17 = J 17 from by rw [eJ15]; rfl).trans g4
  have kk19 : J15 14 = nI u := (show J15 14 = J 14 from by rw [eJ15]; rfl).trans g5
  have kk20 : J15 4 = nI R := (show J15 4 = J 4 from by rw [eJ15]; rfl).trans g6
  have kk21 : J15 7 = nI Ec := (show J15 7 = J 7 from by rw [eJ15]; rfl).trans g7
  have kk22 : J15 18 = nI (f + 1) := (show J15 18 = J 18 from by rw [eJ15]; rfl).trans g8
  have kk23 : J15 28 = 0 := (show J15 28 = J 28 from by rw [eJ15]; rfl).trans hp
  have kk24 : J15 16 = nI a11 := by rw [eJ15, va_up_self]
  refine lv_aload_n Bx.1 Bx.2.1 d_Mo_enter_4 rfl (lv_at hl 0 rfl) ?_
  refine f_callVi (na := 0) (As := []) (rest := []) Bx hml E hP hD hS (by omega) hW14.1 rfl (m_Mo_here l hn hW14 kk16 hL kk24 (by omega)) kw_778 kw_780 sel_Mo_here kw_8 kw_781 (by decide +kernel) ⟨rfl, rfl⟩ ⟨Nat.le_of_ble_eq_true rfl, Nat.le_of_ble_eq_true rfl⟩ rfl hl.1 (Nat.le_of_ble_eq_true rfl) d_Mo_enter_5 ⟨Nat.le_of_ble_eq_true rfl, Nat.le_of_ble_eq_true rfl⟩ (fun r25 mem26 H locs hq hP hS => ?_)
  have hD : va_D (Az sz) (fw n ad mem26) := fw_D hD
  obtain ⟨hre, hq⟩ := hq
  rw [hq] at hP hD
  subst hre
  rw [show hereF L (A 225) (a11) = hereF L T (a11) by rw [hT]]
  refine f_callSi (na := 1) (As := [.int (hereF L T (a11))]) (rest := []) Bx hml E.2.1 (m_Mo_begins l (hereF L T (a11))) kw_811 kw_812 kw_8 kw_813 (by decide +kernel) ⟨rfl, rfl⟩ ⟨Nat.le_of_ble_eq_true rfl, Nat.le_of_ble_eq_true rfl⟩ rfl hl.1 (Nat.le_of_ble_eq_true rfl) d_Mo_enter_8 ⟨Nat.le_of_ble_eq_true rfl, Nat.le_of_ble_eq_true rfl⟩ (fun r28 hs27 => ?_)
  refine lv_if_ne Bx.1 Bx.2.1 d_Mo_enter_11 rfl (fun hb29 => ?_) (fun hb29 => ?_)
  · refine lv_aload_n Bx.1 Bx.2.1 d_Mo_enter_24 rfl (lv_at hl 0 rfl) ?_
    refine f_get Bx hP (by omega) hW14.1 rfl inMo 19 (by decide) kw_675 rfl rfl d_Mo_enter_25 ?_
    refine lv_aload_n Bx.1 Bx.2.1 d_Mo_enter_28 rfl (lv_at hl 0 rfl) ?_
    refine f_get Bx hP (by omega) hW14.1 rfl inMo 18 (by decide) kw_674 rfl rfl d_Mo_enter_29 ?_
    rw [kk22]
    refine lv_iload_n Bx.1 Bx.2.1 d_Mo_enter_32 rfl (lv_at hl 1 rfl) ?_
    refine f_iast (x := wh) (i := nI (f + 1)) Bx hP hD hS (by omega) (show mem10 235 = .inl (cy 1, 8, .inl (A 235)) from hW14.2.2.1 235 (by decide) (by decide) (by decide)) (vp_in_nI (n := f + 1) (by omega) (by decide)) d_Mo_enter_33 (fun H locs hP hS => ?_)
    rw [nI_clamp (n := f + 1) (by omega)] at hP
    obtain ⟨A30, eA30⟩ : ∃ z, z = va_up A 235 (upd (A 235) (f + 1) (wh)) := ⟨_, rfl⟩
    obtain ⟨mem31, e_mem31⟩ : ∃ z, z = va_up mem10 235 (.inl (cy 1, 8, .inl (upd (A 235) (f + 1) (wh)))) := ⟨_, rfl⟩
    have hP : va_P D vcl (fw n ad mem31) H := by rw [e_mem31]; exact hP
    have hD : va_D (Az sz) (fw n ad mem31) := fw_D hD
    have hW32 : MW cy ad J15 A30 nm m0 mem31 := by rw [e_mem31, eA30]; exact hW14.upA (j := 235) (by decide) (by decide) (by decide) (Or.inl (by decide))
    have tT33 : A30 225 = T := by rw [eA30]; exact hT
    refine lv_aload_n Bx.1 Bx.2.1 d_Mo_enter_34 rfl (lv_at hl 0 rfl) ?_
    refine f_get Bx hP (by omega) hW32.1 rfl inMo 20 (by decide) kw_676 rfl rfl d_Mo_enter_35 ?_
    refine lv_aload_n Bx.1 Bx.2.1 d_Mo_enter_38 rfl (lv_at hl 0 rfl) ?_
    refine f_get Bx hP (by omega) hW32.1 rfl inMo 18 (by decide) kw_674 rfl rfl d_Mo_enter_39 ?_
    rw [kk22]
    refine lv_iload_n Bx.1 Bx.2.1 d_Mo_enter_42 rfl (lv_at hl 2 rfl) ?_
    refine f_iast (x := oe) (i := nI (f + 1)) Bx hP hD hS (by omega) (show mem31 236 = .inl (cy 1, 8, .inl (A30 236)) from hW32.2.2.1 236 (by decide) (by decide) (by decide)) (vp_in_nI (n := f + 1) (by omega) (by decide)) d_Mo_enter_43 (fun H locs hP hS => ?_)
    rw [nI_clamp (n := f + 1) (by omega)] at hP
    obtain ⟨A34, eA34⟩ : ∃ z, z = va_up A30 236 (upd (A30 236) (f + 1) (oe)) := ⟨_, rfl⟩
    obtain ⟨mem35, e_mem35⟩ : ∃ z, z = va_up mem31 236 (.inl (cy 1, 8, .inl (upd (A30 236) (f + 1) (oe)))) := ⟨_, rfl⟩
    have hP : va_P D vcl (fw n ad mem35) H := by rw [e_mem35]; exact hP
    have hD : va_D (Az sz) (fw n ad mem35) := fw_D hD
    have hW36 : MW cy ad J15 A34 nm m0 mem35 := by rw [e_mem35, eA34]; exact hW32.upA (j := 236) (by decide) (by decide) (by decide) (Or.inl (by decide))
    have tT37 : A34 225 = T := by rw [eA34]; exact tT33
    refine lv_aload_n Bx.1 Bx.2.1 d_Mo_enter_44 rfl (lv_at hl 0 rfl) ?_
    refine f_get Bx hP (by omega) hW36.1 rfl inMo 23 (by decide) kw_679 rfl rfl d_Mo_enter_45 ?_
    refine lv_aload_n Bx.1 Bx.2.1 d_Mo_enter_48 rfl (lv_at hl 0 rfl) ?_
    refine f_get Bx hP (by omega) hW36.1 rfl inMo 18 (by decide) kw_674 rfl rfl d_Mo_enter_49 ?_
    rw [kk22]
    refine lv_iconst (v := -1) Bx.1 Bx.2.1 d_Mo_enter_52 (by decide) ?_
    refine f_iast (x := (-1)) (i := nI (f + 1)) Bx hP hD hS (by omega) (show mem35 239 = .inl (cy 1, 8, .inl (A34 239)) from hW36.2.2.1 239 (by decide) (by decide) (by decide)) (vp_in_nI (n := f + 1) (by omega) (by decide)) d_Mo_enter_53 (fun H locs hP hS => ?_)
    rw [nI_clamp (n := f + 1) (by omega)] at hP
    obtain ⟨A38, eA38⟩ : ∃ z, z = va_up A34 239 (upd (A34 239) (f + 1) ((-1))) := ⟨_, rfl⟩
    obtain ⟨mem39, e_mem39⟩ : ∃ z, z = va_up mem35 239 (.inl (cy 1, 8, .inl (upd (A34 239) (f + 1) ((-1))))) := ⟨_, rfl⟩
    have hP : va_P D vcl (fw n ad mem39) H := by rw [e_mem39]; exact hP
    have hD : va_D (Az sz) (fw n ad mem39) := fw_D hD
    have hW40 : MW cy ad J15 A38 nm m0 mem39 := by rw [e_mem39, eA38]; exact hW36.upA (j := 239) (by decide) (by decide) (by decide) (Or.inl (by decide))
    have tT41 : A38 225 = T := by rw [eA38]; exact tT37
    refine lv_aload_n Bx.1 Bx.2.1 d_Mo_enter_54 rfl (lv_at hl 0 rfl) ?_
    refine f_get Bx hP (by omega) hW40.1 rfl inMo 21 (by decide) kw_677 rfl rfl d_Mo_enter_55 ?_
    refine lv_aload_n Bx.1 Bx.2.1 d_Mo_enter_58 rfl (lv_at hl 0 rfl) ?_
    refine f_get Bx hP (by omega) hW40.1 rfl inMo 18 (by decide) kw_674 rfl rfl d_Mo_enter_59 ?_
    rw [kk22]
    refine lv_aload_n Bx.1 Bx.2.1 d_Mo_enter_62 rfl (lv_at hl 0 rfl) ?_
    refine lv_iconst (v := 0) Bx.1 Bx.2.1 d_Mo_enter_63 (by decide) ?_
    refine lv_aload_n Bx.1 Bx.2.1 d_Mo_enter_64 rfl (lv_at hl 0 rfl) ?_
    refine f_get Bx hP (by omega) hW40.1 rfl inMo 16 (by decide) kw_672 rfl rfl d_Mo_enter_65 ?_
    rw [kk24]
    refine f_callVi (na := 2) (As := [.int (0), .int (nI a11)]) (rest := [.int (nI (f + 1)), .ref (ad 237)]) Bx hml E hP hD hS (by omega) hW40.1 rfl (m_Mo_element l hn hW40 (Or.inl kk18) kk21 (by omega)) kw_814 kw_816 sel_Mo_element kw_8 kw_817 (by decide +kernel) ⟨rfl, rfl⟩ ⟨Nat.le_of_ble_eq_true rfl, Nat.le_of_ble_eq_true rfl⟩ rfl hl.1 (Nat.le_of_ble_eq_true rfl) d_Mo_enter_68 ⟨Nat.le_of_ble_eq_true rfl, Nat.le_of_ble_eq_true rfl⟩ (fun r42 mem43 H locs hq hP hS => ?_)
    have hD : va_D (Az sz) (fw n ad mem43) := fw_D hD
    rcases hq with ⟨hre51, J44, hW45, hwr46⟩ | ⟨hEl47, hre52, hW50⟩
    · subst hre51
      have kk53 : J44 1 = nI L := (show J44 1 = J15 1 from hwr46.2 1 (by decide) (by decide)).trans kk16
      have kk54 : J44 24 = nI G := (show J44 24 = J15 24 from hwr46.2 24 (by decide) (by decide)).trans kk17
      have kk55 : J44 14 = nI u := (show J44 14 = J15 14 from hwr46.2 14 (by decide) (by decide)).trans kk19
      have kk56 : J44 4 = nI R := (show J44 4 = J15 4 from hwr46.2 4 (by decide) (by decide)).trans kk20
      have kk57 : J44 7 = nI Ec := (show J44 7 = J15 7 from hwr46.2 7 (by decide) (by decide)).trans kk21
      have kk58 : J44 18 = nI (f + 1) := (show J44 18 = J15 18 from hwr46.2 18 (by decide) (by decide)).trans kk22
      have kk59 : J44 28 = 0 := (show J44 28 = J15 28 from hwr46.2 28 (by decide) (by decide)).trans kk23
      have kk60 : J44 16 = nI a11 := (show J44 16 = J15 16 from hwr46.2 16 (by decide) (by decide)).trans kk24
      refine f_iast (x := 0) (i := nI (f + 1)) Bx hP hD hS (by omega) (show mem43 237 = .inl (cy 1, 8, .inl (A38 237)) from hW45.2.2.1 237 (by decide) (by decide) (by decide)) (vp_in_nI (n := f + 1) (by omega) (by decide)) d_Mo_enter_71 (fun H locs hP hS => ?_)
      rw [nI_clamp (n := f + 1) (by omega)] at hP
      obtain ⟨A61, eA61⟩ : ∃ z, z = va_up A38 237 (upd (A38 237) (f + 1) (0)) := ⟨_, rfl⟩
      obtain ⟨mem62, e_mem62⟩ : ∃ z, z = va_up mem43 237 (.inl (cy 1, 8, .inl (upd (A38 237) (f + 1) (0)))) := ⟨_, rfl⟩
      have hP : va_P D vcl (fw n ad mem62) H := by rw [e_mem62]; exact hP
      have hD : va_D (Az sz) (fw n ad mem62) := fw_D hD
      have hW63 : MW cy ad J44 A61 nm m0 mem62 := by rw [e_mem62, eA61]; exact hW45.upA (j := 237) (by decide) (by decide) (by decide) (Or.inl (by decide))
      have tT64 : A61 225 = T := by rw [eA61]; exact tT41
      refine lv_aload_n Bx.1 Bx.2.1 d_Mo_enter_72 rfl (lv_at hl 0 rfl) ?_
      refine lv_dup Bx.1 Bx.2.1 d_Mo_enter_73 rfl ?_
      refine f_get Bx hP (by omega) hW63.1 rfl inMo 18 (by decide) kw_674 rfl rfl d_Mo_enter_74 ?_
      rw [kk58]
      refine lv_iconst (v := 1) Bx.1 Bx.2.1 d_Mo_enter_77 (by decide) ?_
      refine lv_iadd Bx.1 Bx.2.1 d_Mo_enter_78 ?_
      rw [show nI (f + 1) + 1 = nI (f + 1 + 1) from nI_add (f + 1) (1)]
      refine f_put Bx hP hD hS (by omega) hW63.1 rfl inMo tyMo okMo nmMo 18 (by decide) kw_674 rfl rfl rfl rfl (Nat.le_of_ble_eq_true rfl) d_Mo_enter_79 (fun H locs hP hS => ?_)
      obtain ⟨J65, eJ65⟩ : ∃ z, z = va_up J44 18 (nI (f + 1 + 1)) := ⟨_, rfl⟩
      obtain ⟨mem66, e_mem66⟩ : ∃ z, z = va_up mem62 224 (moC ad J65) := ⟨_, rfl⟩
      have hP : va_P D vcl (fw n ad mem66) H := by rw [e_mem66, eJ65]; exact hP
      have hD : va_D (Az sz) (fw n ad mem66) := fw_D hD
      have hW67 : MW cy ad J65 A61 nm m0 mem66 := by rw [e_mem66]; exact hW63.upJ (by rw [eJ65]; exact va_up_ne _ _ (by decide))
      have kk68 : J65 1 = nI L := by rw [eJ65]; exact kk53
      have kk69 : J65 24 = nI G := by rw [eJ65]; exact kk54
      have kk70 : J65 14 = nI u := by rw [eJ65]; exact kk55
      have kk71 : J65 4 = nI R := by rw [eJ65]; exact kk56
      have kk72 : J65 7 = nI Ec := by rw [eJ65]; exact kk57
      have kk73 : J65 28 = 0 := by rw [eJ65]; exact kk59
      have kk74 : J65 16 = nI a11 := by rw [eJ65]; exact kk60
      have kk75 : J65 18 = nI (f + 1 + 1) := by rw [eJ65, va_up_self]
      have bd76 : b12 (J65 17) := by rw [eJ65]; exact hwr46.1
      refine lv_aload_n Bx.1 Bx.2.1 d_Mo_enter_82 rfl (lv_at hl 0 rfl) ?_
      refine f_get Bx hP (by omega) hW67.1 rfl inMo 17 (by decide) kw_673 rfl rfl d_Mo_enter_83 ?_
      refine lv_if_ne Bx.1 Bx.2.1 d_Mo_enter_86 rfl (fun hb77 => ?_) (fun hb77 => ?_)
      · refine lv_aload_n Bx.1 Bx.2.1 d_Mo_enter_119 rfl (lv_at hl 0 rfl) ?_
        refine f_get Bx hP (by omega) hW67.1 rfl inMo 17 (by decide) kw_673 rfl rfl d_Mo_enter_120 ?_
        refine lv_if_ne Bx.1 Bx.2.1 d_Mo_enter_123 rfl (fun hb78 => ?_) (fun hb78 => ?_)
        · refine lv_aload_n Bx.1 Bx.2.1 d_Mo_enter_147 rfl (lv_at hl 0 rfl) ?_
          refine lv_iconst (v := 1) Bx.1 Bx.2.1 d_Mo_enter_148 (by decide) ?_
          refine f_put Bx hP hD hS (by omega) hW67.1 rfl inMo tyMo okMo nmMo 28 (by decide) kw_684 rfl rfl rfl rfl (Nat.le_of_ble_eq_true rfl) d_Mo_enter_149 (fun H locs hP hS => ?_)
          obtain ⟨J79, eJ79⟩ : ∃ z, z = va_up J65 28 (1) := ⟨_, rfl⟩
          obtain ⟨mem80, e_mem80⟩ : ∃ z, z = va_up mem66 224 (moC ad J79) := ⟨_, rfl⟩
          have hP : va_P D vcl (fw n ad mem80) H := by rw [e_mem80, eJ79]; exact hP
          have hD : va_D (Az sz) (fw n ad mem80) := fw_D hD
          have hW81 : MW cy ad J79 A61 nm m0 mem80 := by rw [e_mem80]; exact hW67.upJ (by rw [eJ79]; exact va_up_ne _ _ (by decide))
          have kk82 : J79 1 = nI L := by rw [eJ79]; exact kk68
          have kk83 : J79 24 = nI G := by rw [eJ79]; exact kk69
          have kk84 : J79 14 = nI u := by rw [eJ79]; exact kk70
          have kk85 : J79 4 = nI R := by rw [eJ79]; exact kk71
          have kk86 : J79 7 = nI Ec := by rw [eJ79]; exact kk72
          have kk87 : J79 16 = nI a11 := by rw [eJ79]; exact kk74
          have kk88 : J79 18 = nI (f + 1 + 1) := by rw [eJ79]; exact kk75
          have kk89 : J79 28 = 1 := by rw [eJ79, va_up_self]
          have bd90 : b12 (J79 17) := by rw [eJ79]; exact bd76
          exact W.vret hx hb hr (fun t ht hW => ⟨⟨mem80, rfl, ⟨J79, A61, nm, hW81, Or.inl ⟨kk82, kk83, tT64, bd90, _, by omega, kk87⟩⟩, by show va_P _ _ _ t.heap; rw [ht]; exact hP⟩, hS.F ht⟩) hS.2.2 d_Mo_enter_152
        · exact absurd hb78 bd76.ne
      · exact absurd hb77 bd76.ne
    · subst hre52
      obtain ⟨J48, eJ48⟩ : ∃ z, z = va_up J15 7 (nI (Ec + 1)) := ⟨_, rfl⟩
      obtain ⟨A49, eA49⟩ : ∃ z, z = elA A38 (Ec) 0 := ⟨_, rfl⟩
      rw [← eJ48, ← eA49] at hW50
      have kk91 : J48 1 = nI L := (show J48 1 = J15 1 from by rw [eJ48]; rfl).trans kk16
      have kk92 : J48 24 = nI G := (show J48 24 = J15 24 from by rw [eJ48]; rfl).trans kk17
      have kk93 : J48 17 = 0 := (show J48 17 = J15 17 from by rw [eJ48]; rfl).trans kk18
      have kk94 : J48 14 = nI u := (show J48 14 = J15 14 from by rw [eJ48]; rfl).trans kk19
      have kk95 : J48 4 = nI R := (show J48 4 = J15 4 from by rw [eJ48]; rfl).trans kk20
      have kk96 : J48 18 = nI (f + 1) := (show J48 18 = J15 18 from by rw [eJ48]; rfl).trans kk22
      have kk97 : J48 28 = 0 := (show J48 28 = J15 28 from by rw [eJ48]; rfl).trans kk23
      have kk98 : J48 16 = nI a11 := (show J48 16 = J15 16 from by rw [eJ48]; rfl).trans kk24
      have kk99 : J48 7 = nI (Ec + 1) := by rw [eJ48, va_up_self]
      have tT100 : A49 225 = T := by rw [eA49]; exact tT41
      refine f_iast (x := nI Ec) (i := nI (f + 1)) Bx hP hD hS (by omega) (show mem43 237 = .inl (cy 1, 8, .inl (A49 237)) from hW50.2.2.1 237 (by decide) (by decide) (by decide)) (vp_in_nI (n := f + 1) (by omega) (by decide)) d_Mo_enter_71 (fun H locs hP hS => ?_)
      rw [nI_clamp (n := f + 1) (by omega)] at hP
      obtain ⟨A101, eA101⟩ : ∃ z, z = va_up A49 237 (upd (A49 237) (f + 1) (nI Ec)) := ⟨_, rfl⟩
      obtain ⟨mem102, e_mem102⟩ : ∃ z, z = va_up mem43 237 (.inl (cy 1, 8, .inl (upd (A49 237) (f + 1) (nI Ec)))) := ⟨_, rfl⟩
      have hP : va_P D vcl (fw n ad mem102) H := by rw [e_mem102]; exact hP
      have hD : va_D (Az sz) (fw n ad mem102) := fw_D hD
      have hW103 : MW cy ad J48 A101 nm m0 mem102 := by rw [e_mem102, eA101]; exact hW50.upA (j := 237) (by decide) (by decide) (by decide) (Or.inl (by decide))
      have tT104 : A101 225 = T := by rw [eA101]; exact tT100
      refine lv_aload_n Bx.1 Bx.2.1 d_Mo_enter_72 rfl (lv_at hl 0 rfl) ?_
      refine lv_dup Bx.1 Bx.2.1 d_Mo_enter_73 rfl ?_
      refine f_get Bx hP (by omega) hW103.1 rfl inMo 18 (by decide) kw_674 rfl rfl d_Mo_enter_74 ?_
      rw [kk96]
      refine lv_iconst (v := 1) Bx.1 Bx.2.1 d_Mo_enter_77 (by decide) ?_
      refine lv_iadd Bx.1 Bx.2.1 d_Mo_enter_78 ?_
      rw [show nI (f + 1) + 1 = nI (f + 1 + 1) from nI_add (f + 1) (1)]
      refine f_put Bx hP hD hS (by omega) hW103.1 rfl inMo tyMo okMo nmMo 18 (by decide) kw_674 rfl rfl rfl rfl (Nat.le_of_ble_eq_true rfl) d_Mo_enter_79 (fun H locs hP hS => ?_)
      obtain ⟨J105, eJ105⟩ : ∃ z, z = va_up J48 18 (nI (f + 1 + 1)) := ⟨_, rfl⟩
      obtain ⟨mem106, e_mem106⟩ : ∃ z, z = va_up mem102 224 (moC ad J105) := ⟨_, rfl⟩
      have hP : va_P D vcl (fw n ad mem106) H := by rw [e_mem106, eJ105]; exact hP
      have hD : va_D (Az sz) (fw n ad mem106) := fw_D hD
      have hW107 : MW cy ad J105 A101 nm m0 mem106 := by rw [e_mem106]; exact hW103.upJ (by rw [eJ105]; exact va_up_ne _ _ (by decide))
      have kk108 : J105 1 = nI L := by rw [eJ105]; exact kk91
      have kk109 : J105 24 = nI G := by rw [eJ105]; exact kk92
      have kk110 : J105 17 = 0 := by rw [eJ105]; exact kk93
      have kk111 : J105 14 = nI u := by rw [eJ105]; exact kk94
      have kk112 : J105 4 = nI R := by rw [eJ105]; exact kk95
      have kk113 : J105 28 = 0 := by rw [eJ105]; exact kk97
      have kk114 : J105 16 = nI a11 := by rw [eJ105]; exact kk98
      have kk115 : J105 7 = nI (Ec + 1) := by rw [eJ105]; exact kk99
      have kk116 : J105 18 = nI (f + 1 + 1) := by rw [eJ105, va_up_self]
      refine lv_aload_n Bx.1 Bx.2.1 d_Mo_enter_82 rfl (lv_at hl 0 rfl) ?_
      refine f_get Bx hP (by omega) hW107.1 rfl inMo 17 (by decide) kw_673 rfl rfl d_Mo_enter_83 ?_
      rw [kk110]
      refine lv_if_ne Bx.1 Bx.2.1 d_Mo_enter_86 rfl (fun hb117 => ?_) (fun hb117 => ?_)
      · exact absurd hb117 (by decide)
      · refine lv_iload_n Bx.1 Bx.2.1 d_Mo_enter_89 rfl (lv_at hl 1 rfl) ?_
        refine lv_if_ne Bx.1 Bx.2.1 d_Mo_enter_90 rfl (fun hb118 => ?_) (fun hb118 => ?_)
        · refine lv_aload_n Bx.1 Bx.2.1 d_Mo_enter_119 rfl (lv_at hl 0 rfl) ?_
          refine f_get Bx hP (by omega) hW107.1 rfl inMo 17 (by decide) kw_673 rfl rfl d_Mo_enter_120 ?_
          rw [kk110]
          refine lv_if_ne Bx.1 Bx.2.1 d_Mo_enter_123 rfl (fun hb119 => ?_) (fun hb119 => ?_)
          · exact absurd hb119 (by decide)
          · refine lv_iload_n Bx.1 Bx.2.1 d_Mo_enter_126 rfl (lv_at hl 1 rfl) ?_
            refine lv_if_ne Bx.1 Bx.2.1 d_Mo_enter_127 rfl (fun hb120 => ?_) (fun hb120 => ?_)
            · refine lv_aload_n Bx.1 Bx.2.1 d_Mo_enter_147 rfl (lv_at hl 0 rfl) ?_
              refine lv_iconst (v := 1) Bx.1 Bx.2.1 d_Mo_enter_148 (by decide) ?_
              refine f_put Bx hP hD hS (by omega) hW107.1 rfl inMo tyMo okMo nmMo 28 (by decide) kw_684 rfl rfl rfl rfl (Nat.le_of_ble_eq_true rfl) d_Mo_enter_149 (fun H locs hP hS => ?_)
              obtain ⟨J121, eJ121⟩ : ∃ z, z = va_up J105 28 (1) := ⟨_, rfl⟩
              obtain ⟨mem122, e_mem122⟩ : ∃ z, z = va_up mem106 224 (moC ad J121) := ⟨_, rfl⟩
              have hP : va_P D vcl (fw n ad mem122) H := by rw [e_mem122, eJ121]; exact hP
              have hD : va_D (Az sz) (fw n ad mem122) := fw_D hD
              have hW123 : MW cy ad J121 A101 nm m0 mem122 := by rw [e_mem122]; exact hW107.upJ (by rw [eJ121]; exact va_up_ne _ _ (by decide))
              have kk124 : J121 1 = nI L := by rw [eJ121]; exact kk108
              have kk125 : J121 24 = nI G := by rw [eJ121]; exact kk109
              have kk126 : J121 17 = 0 := by rw [eJ121]; exact kk110
              have kk127 : J121 14 = nI u := by rw [eJ121]; exact kk111
              have kk128 : J121 4 = nI R := by rw [eJ121]; exact kk112
              have kk129 : J121 16 = nI a11 := by rw [eJ121]; exact kk114
              have kk130 : J121 7 = nI (Ec + 1) := by rw [eJ121]; exact kk115
              have kk131 : J121 18 = nI (f + 1 + 1) := by rw [eJ121]; exact kk116
              have kk132 : J121 28 = 1 := by rw [eJ121, va_up_self]
              have hpu := hI.push (A' := A101) (tt := tt) (what := wh) (e := oe) (by omega) ⟨fun j h1 h2 h3 k hk => by
                  have hj : j = 228 ∨ j = 229 ∨ j = 230 ∨ j = 232 ∨ j = 233 := by omega
                  rcases hj with rfl | rfl | rfl | rfl | rfl <;> simp [eA30, eA34, eA38, eA49, eA101, elA, va_up, upd, Nat.ne_of_lt hk], by simp [eA30, eA34, eA38, eA49, eA101, elA, va_up], fun j h1 h2 => by
                  have hj : j = 235 ∨ j = 236 ∨ j = 237 ∨ j = 238 ∨ j = 239 := by omega
                  rcases hj with rfl | rfl | rfl | rfl | rfl <;> simp [eA30, eA34, eA38, eA49, eA101, elA, va_up], by simp [eA30, eA34, eA38, eA49, eA101, elA, va_up, upd], by simp [eA30, eA34, eA38, eA49, eA101, elA, va_up, upd]⟩ (by simp [eA30, eA34, eA38, eA49, eA101, elA, va_up, upd]) (fun j h1 h2 g hg => by
                  have hj : j = 235 ∨ j = 236 ∨ j = 237 ∨ j = 238 ∨ j = 239 := by omega
                  rcases hj with rfl | rfl | rfl | rfl | rfl <;> simp [eA30, eA34, eA38, eA49, eA101, elA, va_up, upd, hg]) (by simp [eA30, eA34, eA38, eA49, eA101, elA, va_up, upd]) (by simp [eA30, eA34, eA38, eA49, eA101, elA, va_up, upd]) (by simp [eA30, eA34, eA38, eA49, eA101, elA, va_up, upd]) (by simp [eA30, eA34, eA38, eA49, eA101, elA, va_up, upd]) hwh hse hrr hC
              exact W.vret hx hb hr (fun t ht hW => ⟨⟨mem122, rfl, ⟨J121, A101, nm, hW123, Or.inr ⟨a11, by omega, u, R, Ec + 1, f + 1, _, _, _, ⟨kk124, kk125, kk129, kk126, kk127, kk128, kk130, kk131⟩, ⟨by omega, by omega, by omega, by omega, by omega, by omega⟩, tT104, Or.inr kk132, Inv.qF (by rw [kk132]; decide) hpu, by simp [eA30, eA34, eA38, eA49, eA101, elA, va_up, upd]⟩⟩, by show va_P _ _ _ t.heap; rw [ht]; exact hP⟩, hS.F ht⟩) hS.2.2 d_Mo_enter_152
            · exact absurd hb120 hw0
        · exact absurd hb118 hw0
  · refine lv_aload_n Bx.1 Bx.2.1 d_Mo_enter_14 rfl (lv_at hl 0 rfl) ?_
    refine lv_iconst (v := 1) Bx.1 Bx.2.1 d_Mo_enter_15 (by decide) ?_
    refine lv_aload_n Bx.1 Bx.2.1 d_Mo_enter_16 rfl (lv_at hl 0 rfl) ?_
    refine f_get Bx hP (by omega) hW14.1 rfl inMo 16 (by decide) kw_672 rfl rfl d_Mo_enter_17 ?_
    rw [kk24]
    refine f_callVv (na := 2) (As := [.int (1), .int (nI a11)]) (rest := []) Bx hml E hP hD hS (by omega) hW14.1 rfl (m_Mo_wrong l hn hW14 (Or.inl kk18) (by first | exact Or.inl rfl | exact Or.inr rfl)) kw_799 kw_801 sel_Mo_wrong kw_8 kw_802 (by decide +kernel) ⟨rfl, rfl⟩ ⟨Nat.le_of_ble_eq_true rfl, Nat.le_of_ble_eq_true rfl⟩ rfl hl.1 (Nat.le_of_ble_eq_true rfl) d_Mo_enter_20 ⟨Nat.le_of_ble_eq_true rfl, Nat.le_of_ble_eq_true rfl⟩ (fun mem134 H locs hq hP hS => ?_)
    have hD : va_D (Az sz) (fw n ad mem134) := fw_D hD
    obtain ⟨J135, hW136, hwr137⟩ := hq
    have kk138 : J135 1 = nI L := (show J135 1 = J15 1 from hwr137.2 1 (by decide) (by decide)).trans kk16
    have kk139 : J135 24 = nI G := (show J135 24 = J15 24 from hwr137.2 24 (by decide) (by decide)).trans kk17
    have kk140 : J135 14 = nI u := (show J135 14 = J15 14 from hwr137.2 14 (by decide) (by decide)).trans kk19
    have kk141 : J135 4 = nI R := (show J135 4 = J15 4 from hwr137.2 4 (by decide) (by decide)).trans kk20
    have kk142 : J135 7 = nI Ec := (show J135 7 = J15 7 from hwr137.2 7 (by decide) (by decide)).trans kk21
    have kk143 : J135 18 = nI (f + 1) := (show J135 18 = J15 18 from hwr137.2 18 (by decide) (by decide)).trans kk22
    have kk144 : J135 28 = 0 := (show J135 28 = J15 28 from hwr137.2 28 (by decide) (by decide)).trans kk23
    have kk145 : J135 16 = nI a11 := (show J135 16 = J15 16 from hwr137.2 16 (by decide) (by decide)).trans kk24
    exact W.vret hx hb hr (fun t ht hW => ⟨⟨mem134, rfl, ⟨J135, A, nm, hW136, Or.inl ⟨kk138, kk139, hT, hwr137.1, _, by omega, kk145⟩⟩, by show va_P _ _ _ t.heap; rw [ht]; exact hP⟩, hS.F ht⟩) hS.2.2 d_Mo_enter_23
set_option maxHeartbeats 4000000 in
set_option maxRecDepth 100000 in
theorem m_Mo_enter0 (l : Launch) {D : va_G} {cy : Nat → ClassId} {sz n : Nat} {ad : Nat → Nat} {mem : Nat → va_E} {J : Nat → Int32} {A : Nat → Nat → Int32} {nm : Nat → Int64} {m0 : Nat → va_E} {L G a u R Ec r0 : Nat} {T : Nat → Int32} (hn : 242 ≤ n) (hM : MW cy ad J A nm m0 mem) (h1 : J 1 = nI L) (h24 : J 24 = nI G) (h16 : J 16 = nI a) (h17 : J 17 = 0) (h14 : J 14 = nI u) (h4 : J 4 = nI R) (h7 : J 7 = nI Ec) (h18 : J 18 = 0) (hBd : L ≤ 240 ∧ a ≤ L ∧ u ≤ a ∧ R ≤ 12 ∧ Ec ≤ 100) (hT : A 225 = T) (hG : Gd R Ec u A) (hr0 : r0 < R) : MV l D cy sz n ad y_Mo_enter c_Mo_enter 3 ({ frames := 3, cells := 0, slots := 0, locals := 90 } : Room) mem [.ref (ad 224), .int (0), .int (nI r0)] (fun mem' => ∃ J' A' nm', MW cy ad J' A' nm' m0 mem' ∧ ResE L G T a J' A') := by
  refine Met.ofW (cc := c_Mo_enter) (maxL := 3) (ret := none) (by decide) rfl ?_
  intro p e s m args below meth c s₁ B hml hv
  obtain ⟨rfl, E, hP, hD⟩ := hv
  have hx := B.exec
  have hb := B.bytes
  have hr := B.returns
  have hlocks := B.notSynchronized
  have Bx : MB p s m [.ref (ad 224), .int (0), .int (nI r0)].toArray c c_Mo_enter "AbnfChartModel" D cy := ⟨hx, hb, tb_all (atoms_spec B.pre) E.2.1, findClass_of_methodNamed B.named, E.1⟩
  have hS : va_S (Az sz) s.heap s.heap [] := va_S.rf
  have hl := lv_entry ([.ref (ad 224), .int (0), .int (nI r0)]) (n := 3) (Nat.le_of_ble_eq_true rfl)
  rw [lg_entry_eq]
  generalize (lg_sl ([.ref (ad 224), .int (0), .int (nI r0)]) ++ List.replicate (3 - (lg_sl ([.ref (ad 224), .int (0), .int (nI r0)])).length) Slot.unset).toArray = ls at hl ⊢
  have hl : lv_has ls 3 [(0, .ref (ad 224)), (1, .int (0)), (2, .int (nI r0))] := hl
  obtain ⟨hL, haL, huA, hRb, hEb⟩ := hBd
  refine lv_aload_n Bx.1 Bx.2.1 d_Mo_enter_0 rfl (lv_at hl 0 rfl) ?_
  refine f_callVv (na := 0) (As := []) (rest := []) Bx hml E hP hD hS (by omega) hM.1 rfl (m_Mo_gap l hn hM h1 hL h16 (by omega)) kw_803 kw_805 sel_Mo_gap kw_8 kw_806 (by decide +kernel) ⟨rfl, rfl⟩ ⟨Nat.le_of_ble_eq_true rfl, Nat.le_of_ble_eq_true rfl⟩ rfl hl.1 (Nat.le_of_ble_eq_true rfl) d_Mo_enter_1 ⟨Nat.le_of_ble_eq_true rfl, Nat.le_of_ble_eq_true rfl⟩ (fun mem2 H locs hq hP hS => ?_)
  have hD : va_D (Az sz) (fw n ad mem2) := fw_D hD
  obtain ⟨a3, hg4, hg5, hW6⟩ := hq
  obtain ⟨J7, eJ7⟩ : ∃ z, z = va_up J 16 (nI a3) := ⟨_, rfl⟩
  rw [← eJ7] at hW6
  have kk8 : J7 1 = nI L := (show J7 1 = J 1 from by rw [eJ7]; rfl).trans h1
  have kk9 : J7 24 = nI G := (show J7 24 = J 24 from by rw [eJ7]; rfl).trans h24
  have kk10 : J7 17 = 0 := (show J7 17 = J 17 from by rw [eJ7]; rfl).trans h17
  have kk11 : J7 14 = nI u := (show J7 14 = J 14 from by rw [eJ7]; rfl).trans h14
  have kk12 : J7 4 = nI R := (show J7 4 = J 4 from by rw [eJ7]; rfl).trans h4
  have kk13 : J7 7 = nI Ec := (show J7 7 = J 7 from by rw [eJ7]; rfl).trans h7
  have kk14 : J7 18 = nI 0 := (show J7 18 = J 18 from by rw [eJ7]; rfl).trans h18
  have kk15 : J7 16 = nI a3 := by rw [eJ7, va_up_self]
  refine lv_aload_n Bx.1 Bx.2.1 d_Mo_enter_4 rfl (lv_at hl 0 rfl) ?_
  refine f_callVi (na := 0) (As := []) (rest := []) Bx hml E hP hD hS (by omega) hW6.1 rfl (m_Mo_here l hn hW6 kk8 hL kk15 (by omega)) kw_778 kw_780 sel_Mo_here kw_8 kw_781 (by decide +kernel) ⟨rfl, rfl⟩ ⟨Nat.le_of_ble_eq_true rfl, Nat.le_of_ble_eq_true rfl⟩ rfl hl.1 (Nat.le_of_ble_eq_true rfl) d_Mo_enter_5 ⟨Nat.le_of_ble_eq_true rfl, Nat.le_of_ble_eq_true rfl⟩ (fun r16 mem17 H locs hq hP hS => ?_)
  have hD : va_D (Az sz) (fw n ad mem17) := fw_D hD
  obtain ⟨hre, hq⟩ := hq
  rw [hq] at hP hD
  subst hre
  rw [show hereF L (A 225) (a3) = hereF L T (a3) by rw [hT]]
  refine f_callSi (na := 1) (As := [.int (hereF L T (a3))]) (rest := []) Bx hml E.2.1 (m_Mo_begins l (hereF L T (a3))) kw_811 kw_812 kw_8 kw_813 (by decide +kernel) ⟨rfl, rfl⟩ ⟨Nat.le_of_ble_eq_true rfl, Nat.le_of_ble_eq_true rfl⟩ rfl hl.1 (Nat.le_of_ble_eq_true rfl) d_Mo_enter_8 ⟨Nat.le_of_ble_eq_true rfl, Nat.le_of_ble_eq_true rfl⟩ (fun r19 hs18 => ?_)
  refine lv_if_ne Bx.1 Bx.2.1 d_Mo_enter_11 rfl (fun hb20 => ?_) (fun hb20 => ?_)
  · refine lv_aload_n Bx.1 Bx.2.1 d_Mo_enter_24 rfl (lv_at hl 0 rfl) ?_
    refine f_get Bx hP (by omega) hW6.1 rfl inMo 19 (by decide) kw_675 rfl rfl d_Mo_enter_25 ?_
    refine lv_aload_n Bx.1 Bx.2.1 d_Mo_enter_28 rfl (lv_at hl 0 rfl) ?_
    refine f_get Bx hP (by omega) hW6.1 rfl inMo 18 (by decide) kw_674 rfl rfl d_Mo_enter_29 ?_
    rw [kk14]
    refine lv_iload_n Bx.1 Bx.2.1 d_Mo_enter_32 rfl (lv_at hl 1 rfl) ?_
    refine f_iast (x := 0) (i := nI (0)) Bx hP hD hS (by omega) (show mem2 235 = .inl (cy 1, 8, .inl (A 235)) from hW6.2.2.1 235 (by decide) (by decide) (by decide)) (vp_in_nI (n := 0) (by omega) (by decide)) d_Mo_enter_33 (fun H locs hP hS => ?_)
    rw [nI_clamp (n := 0) (by omega)] at hP
    obtain ⟨A21, eA21⟩ : ∃ z, z = va_up A 235 (upd (A 235) (0) (0)) := ⟨_, rfl⟩
    obtain ⟨mem22, e_mem22⟩ : ∃ z, z = va_up mem2 235 (.inl (cy 1, 8, .inl (upd (A 235) (0) (0)))) := ⟨_, rfl⟩
    have hP : va_P D vcl (fw n ad mem22) H := by rw [e_mem22]; exact hP
    have hD : va_D (Az sz) (fw n ad mem22) := fw_D hD
    have hW23 : MW cy ad J7 A21 nm m0 mem22 := by rw [e_mem22, eA21]; exact hW6.upA (j := 235) (by decide) (by decide) (by decide) (Or.inl (by decide))
    have tT24 : A21 225 = T := by rw [eA21]; exact hT
    refine lv_aload_n Bx.1 Bx.2.1 d_Mo_enter_34 rfl (lv_at hl 0 rfl) ?_
    refine f_get Bx hP (by omega) hW23.1 rfl inMo 20 (by decide) kw_676 rfl rfl d_Mo_enter_35 ?_
    refine lv_aload_n Bx.1 Bx.2.1 d_Mo_enter_38 rfl (lv_at hl 0 rfl) ?_
    refine f_get Bx hP (by omega) hW23.1 rfl inMo 18 (by decide) kw_674 rfl rfl d_Mo_enter_39 ?_
    rw [kk14]
    refine lv_iload_n Bx.1 Bx.2.1 d_Mo_enter_42 rfl (lv_at hl 2 rfl) ?_
    refine f_iast (x := nI r0) (i := nI (0)) Bx hP hD hS (by omega) (show mem22 236 = .inl (cy 1, 8, .inl (A21 236)) from hW23.2.2.1 236 (by decide) (by decide) (by decide)) (vp_in_nI (n := 0) (by omega) (by decide)) d_Mo_enter_43 (fun H locs hP hS => ?_)
    rw [nI_clamp (n := 0) (by omega)] at hP
    obtain ⟨A25, eA25⟩ : ∃ z, z = va_up A21 236 (upd (A21 236) (0) (nI r0)) := ⟨_, rfl⟩
    obtain ⟨mem26, e_mem26⟩ : ∃ z, z = va_up mem22 236 (.inl (cy 1, 8, .inl (upd (A21 236) (0) (nI r0)))) := ⟨_, rfl⟩
    have hP : va_P D vcl (fw n ad mem26) H := by rw [e_mem26]; exact hP
    have hD : va_D (Az sz) (fw n ad mem26) := fw_D hD
    have hW27 : MW cy ad J7 A25 nm m0 mem26 := by rw [e_mem26, eA25]; exact hW23.upA (j := 236) (by decide) (by decide) (by decide) (Or.inl (by decide))
    have tT28 : A25 225 = T := by rw [eA25]; exact tT24
    refine lv_aload_n Bx.1 Bx.2.1 d_Mo_enter_44 rfl (lv_at hl 0 rfl) ?_
    refine f_get Bx hP (by omega) hW27.1 rfl inMo 23 (by decide) kw_679 rfl rfl d_Mo_enter_45 ?_
    refine lv_aload_n Bx.1 Bx.2.1 d_Mo_enter_48 rfl (lv_at hl 0 rfl) ?_
    refine f_get Bx hP (by omega) hW27.1 rfl inMo 18 (by decide) kw_674 rfl rfl d_Mo_enter_49 ?_
    rw [kk14]
    refine lv_iconst (v := -1) Bx.1 Bx.2.1 d_Mo_enter_52 (by decide) ?_
    refine f_iast (x := (-1)) (i := nI (0)) Bx hP hD hS (by omega) (show mem26 239 = .inl (cy 1, 8, .inl (A25 239)) from hW27.2.2.1 239 (by decide) (by decide) (by decide)) (vp_in_nI (n := 0) (by omega) (by decide)) d_Mo_enter_53 (fun H locs hP hS => ?_)
    rw [nI_clamp (n := 0) (by omega)] at hP
    obtain ⟨A29, eA29⟩ : ∃ z, z = va_up A25 239 (upd (A25 239) (0) ((-1))) := ⟨_, rfl⟩
    obtain ⟨mem30, e_mem30⟩ : ∃ z, z = va_up mem26 239 (.inl (cy 1, 8, .inl (upd (A25 239) (0) ((-1))))) := ⟨_, rfl⟩
    have hP : va_P D vcl (fw n ad mem30) H := by rw [e_mem30]; exact hP
    have hD : va_D (Az sz) (fw n ad mem30) := fw_D hD
    have hW31 : MW cy ad J7 A29 nm m0 mem30 := by rw [e_mem30, eA29]; exact hW27.upA (j := 239) (by decide) (by decide) (by decide) (Or.inl (by decide))
    have tT32 : A29 225 = T := by rw [eA29]; exact tT28
    refine lv_aload_n Bx.1 Bx.2.1 d_Mo_enter_54 rfl (lv_at hl 0 rfl) ?_
    refine f_get Bx hP (by omega) hW31.1 rfl inMo 21 (by decide) kw_677 rfl rfl d_Mo_enter_55 ?_
    refine lv_aload_n Bx.1 Bx.2.1 d_Mo_enter_58 rfl (lv_at hl 0 rfl) ?_
    refine f_get Bx hP (by omega) hW31.1 rfl inMo 18 (by decide) kw_674 rfl rfl d_Mo_enter_59 ?_
    rw [kk14]
    refine lv_aload_n Bx.1 Bx.2.1 d_Mo_enter_62 rfl (lv_at hl 0 rfl) ?_
    refine lv_iconst (v := 0) Bx.1 Bx.2.1 d_Mo_enter_63 (by decide) ?_
    refine lv_aload_n Bx.1 Bx.2.1 d_Mo_enter_64 rfl (lv_at hl 0 rfl) ?_
    refine f_get Bx hP (by omega) hW31.1 rfl inMo 16 (by decide) kw_672 rfl rfl d_Mo_enter_65 ?_
    rw [kk15]
    refine f_callVi (na := 2) (As := [.int (0), .int (nI a3)]) (rest := [.int (nI 0), .ref (ad 237)]) Bx hml E hP hD hS (by omega) hW31.1 rfl (m_Mo_element l hn hW31 (Or.inl kk10) kk13 (by omega)) kw_814 kw_816 sel_Mo_element kw_8 kw_817 (by decide +kernel) ⟨rfl, rfl⟩ ⟨Nat.le_of_ble_eq_true rfl, Nat.le_of_ble_eq_true rfl⟩ rfl hl.1 (Nat.le_of_ble_eq_true rfl) d_Mo_enter_68 ⟨Nat.le_of_ble_eq_true rfl, Nat.le_of_ble_eq_true rfl⟩ (fun r33 mem34 H locs hq hP hS => ?_)
    have hD : va_D (Az sz) (fw n ad mem34) := fw_D hD
    rcases hq with ⟨hre42, J35, hW36, hwr37⟩ | ⟨hEl38, hre43, hW41⟩
    · subst hre42
      have kk44 : J35 1 = nI L := (show J35 1 = J7 1 from hwr37.2 1 (by decide) (by decide)).trans kk8
      have kk45 : J35 24 = nI G := (show J35 24 = J7 24 from hwr37.2 24 (by decide) (by decide)).trans kk9
      have kk46 : J35 14 = nI u := (show J35 14 = J7 14 from hwr37.2 14 (by decide) (by decide)).trans kk11
      have kk47 : J35 4 = nI R := (show J35 4 = J7 4 from hwr37.2 4 (by decide) (by decide)).trans kk12
      have kk48 : J35 7 = nI Ec := (show J35 7 = J7 7 from hwr37.2 7 (by decide) (by decide)).trans kk13
      have kk49 : J35 18 = nI 0 := (show J35 18 = J7 18 from hwr37.2 18 (by decide) (by decide)).trans kk14
      have kk50 : J35 16 = nI a3 := (show J35 16 = J7 16 from hwr37.2 16 (by decide) (by decide)).trans kk15
      refine f_iast (x := 0) (i := nI (0)) Bx hP hD hS (by omega) (show mem34 237 = .inl (cy 1, 8, .inl (A29 237)) from hW36.2.2.1 237 (by decide) (by decide) (by decide)) (vp_in_nI (n := 0) (by omega) (by decide)) d_Mo_enter_71 (fun H locs hP hS => ?_)
      rw [nI_clamp (n := 0) (by omega)] at hP
      obtain ⟨A51, eA51⟩ : ∃ z, z = va_up A29 237 (upd (A29 237) (0) (0)) := ⟨_, rfl⟩
      obtain ⟨mem52, e_mem52⟩ : ∃ z, z = va_up mem34 237 (.inl (cy 1, 8, .inl (upd (A29 237) (0) (0)))) := ⟨_, rfl⟩
      have hP : va_P D vcl (fw n ad mem52) H := by rw [e_mem52]; exact hP
      have hD : va_D (Az sz) (fw n ad mem52) := fw_D hD
      have hW53 : MW cy ad J35 A51 nm m0 mem52 := by rw [e_mem52, eA51]; exact hW36.upA (j := 237) (by decide) (by decide) (by decide) (Or.inl (by decide))
      have tT54 : A51 225 = T := by rw [eA51]; exact tT32
      refine lv_aload_n Bx.1 Bx.2.1 d_Mo_enter_72 rfl (lv_at hl 0 rfl) ?_
      refine lv_dup Bx.1 Bx.2.1 d_Mo_enter_73 rfl ?_
      refine f_get Bx hP (by omega) hW53.1 rfl inMo 18 (by decide) kw_674 rfl rfl d_Mo_enter_74 ?_
      rw [kk49]
      refine lv_iconst (v := 1) Bx.1 Bx.2.1 d_Mo_enter_77 (by decide) ?_
      refine lv_iadd Bx.1 Bx.2.1 d_Mo_enter_78 ?_
      rw [show nI 0 + 1 = nI (1) from nI_add (0) (1)]
      refine f_put Bx hP hD hS (by omega) hW53.1 rfl inMo tyMo okMo nmMo 18 (by decide) kw_674 rfl rfl rfl rfl (Nat.le_of_ble_eq_true rfl) d_Mo_enter_79 (fun H locs hP hS => ?_)
      obtain ⟨J55, eJ55⟩ : ∃ z, z = va_up J35 18 (nI (1)) := ⟨_, rfl⟩
      obtain ⟨mem56, e_mem56⟩ : ∃ z, z = va_up mem52 224 (moC ad J55) := ⟨_, rfl⟩
      have hP : va_P D vcl (fw n ad mem56) H := by rw [e_mem56, eJ55]; exact hP
      have hD : va_D (Az sz) (fw n ad mem56) := fw_D hD
      have hW57 : MW cy ad J55 A51 nm m0 mem56 := by rw [e_mem56]; exact hW53.upJ (by rw [eJ55]; exact va_up_ne _ _ (by decide))
      have kk58 : J55 1 = nI L := by rw [eJ55]; exact kk44
      have kk59 : J55 24 = nI G := by rw [eJ55]; exact kk45
      have kk60 : J55 14 = nI u := by rw [eJ55]; exact kk46
      have kk61 : J55 4 = nI R := by rw [eJ55]; exact kk47
      have kk62 : J55 7 = nI Ec := by rw [eJ55]; exact kk48
      have kk63 : J55 16 = nI a3 := by rw [eJ55]; exact kk50
      have kk64 : J55 18 = nI (1) := by rw [eJ55, va_up_self]
      have bd65 : b12 (J55 17) := by rw [eJ55]; exact hwr37.1
      refine lv_aload_n Bx.1 Bx.2.1 d_Mo_enter_82 rfl (lv_at hl 0 rfl) ?_
      refine f_get Bx hP (by omega) hW57.1 rfl inMo 17 (by decide) kw_673 rfl rfl d_Mo_enter_83 ?_
      refine lv_if_ne Bx.1 Bx.2.1 d_Mo_enter_86 rfl (fun hb66 => ?_) (fun hb66 => ?_)
      · refine lv_aload_n Bx.1 Bx.2.1 d_Mo_enter_119 rfl (lv_at hl 0 rfl) ?_
        refine f_get Bx hP (by omega) hW57.1 rfl inMo 17 (by decide) kw_673 rfl rfl d_Mo_enter_120 ?_
        refine lv_if_ne Bx.1 Bx.2.1 d_Mo_enter_123 rfl (fun hb67 => ?_) (fun hb67 => ?_)
        · refine lv_aload_n Bx.1 Bx.2.1 d_Mo_enter_147 rfl (lv_at hl 0 rfl) ?_
          refine lv_iconst (v := 1) Bx.1 Bx.2.1 d_Mo_enter_148 (by decide) ?_
          refine f_put Bx hP hD hS (by omega) hW57.1 rfl inMo tyMo okMo nmMo 28 (by decide) kw_684 rfl rfl rfl rfl (Nat.le_of_ble_eq_true rfl) d_Mo_enter_149 (fun H locs hP hS => ?_)
          obtain ⟨J68, eJ68⟩ : ∃ z, z = va_up J55 28 (1) := ⟨_, rfl⟩
          obtain ⟨mem69, e_mem69⟩ : ∃ z, z = va_up mem56 224 (moC ad J68) := ⟨_, rfl⟩
          have hP : va_P D vcl (fw n ad mem69) H := by rw [e_mem69, eJ68]; exact hP
          have hD : va_D (Az sz) (fw n ad mem69) := fw_D hD
          have hW70 : MW cy ad J68 A51 nm m0 mem69 := by rw [e_mem69]; exact hW57.upJ (by rw [eJ68]; exact va_up_ne _ _ (by decide))
          have kk71 : J68 1 = nI L := by rw [eJ68]; exact kk58
          have kk72 : J68 24 = nI G := by rw [eJ68]; exact kk59
          have kk73 : J68 14 = nI u := by rw [eJ68]; exact kk60
          have kk74 : J68 4 = nI R := by rw [eJ68]; exact kk61
          have kk75 : J68 7 = nI Ec := by rw [eJ68]; exact kk62
          have kk76 : J68 16 = nI a3 := by rw [eJ68]; exact kk63
          have kk77 : J68 18 = nI (1) := by rw [eJ68]; exact kk64
          have kk78 : J68 28 = 1 := by rw [eJ68, va_up_self]
          have bd79 : b12 (J68 17) := by rw [eJ68]; exact bd65
          exact W.vret hx hb hr (fun t ht hW => ⟨⟨mem69, rfl, ⟨J68, A51, nm, hW70, Or.inl ⟨kk71, kk72, tT54, bd79, _, by omega, kk76⟩⟩, by show va_P _ _ _ t.heap; rw [ht]; exact hP⟩, hS.F ht⟩) hS.2.2 d_Mo_enter_152
        · exact absurd hb67 bd65.ne
      · exact absurd hb66 bd65.ne
    · subst hre43
      obtain ⟨J39, eJ39⟩ : ∃ z, z = va_up J7 7 (nI (Ec + 1)) := ⟨_, rfl⟩
      obtain ⟨A40, eA40⟩ : ∃ z, z = elA A29 (Ec) 0 := ⟨_, rfl⟩
      rw [← eJ39, ← eA40] at hW41
      have kk80 : J39 1 = nI L := (show J39 1 = J7 1 from by rw [eJ39]; rfl).trans kk8
      have kk81 : J39 24 = nI G := (show J39 24 = J7 24 from by rw [eJ39]; rfl).trans kk9
      have kk82 : J39 17 = 0 := (show J39 17 = J7 17 from by rw [eJ39]; rfl).trans kk10
      have kk83 : J39 14 = nI u := (show J39 14 = J7 14 from by rw [eJ39]; rfl).trans kk11
      have kk84 : J39 4 = nI R := (show J39 4 = J7 4 from by rw [eJ39]; rfl).trans kk12
      have kk85 : J39 18 = nI 0 := (show J39 18 = J7 18 from by rw [eJ39]; rfl).trans kk14
      have kk86 : J39 16 = nI a3 := (show J39 16 = J7 16 from by rw [eJ39]; rfl).trans kk15
      have kk87 : J39 7 = nI (Ec + 1) := by rw [eJ39, va_up_self]
      have tT88 : A40 225 = T := by rw [eA40]; exact tT32
      refine f_iast (x := nI Ec) (i := nI (0)) Bx hP hD hS (by omega) (show mem34 237 = .inl (cy 1, 8, .inl (A40 237)) from hW41.2.2.1 237 (by decide) (by decide) (by decide)) (vp_in_nI (n := 0) (by omega) (by decide)) d_Mo_enter_71 (fun H locs hP hS => ?_)
      rw [nI_clamp (n := 0) (by omega)] at hP
      obtain ⟨A89, eA89⟩ : ∃ z, z = va_up A40 237 (upd (A40 237) (0) (nI Ec)) := ⟨_, rfl⟩
      obtain ⟨mem90, e_mem90⟩ : ∃ z, z = va_up mem34 237 (.inl (cy 1, 8, .inl (upd (A40 237) (0) (nI Ec)))) := ⟨_, rfl⟩
      have hP : va_P D vcl (fw n ad mem90) H := by rw [e_mem90]; exact hP
      have hD : va_D (Az sz) (fw n ad mem90) := fw_D hD
      have hW91 : MW cy ad J39 A89 nm m0 mem90 := by rw [e_mem90, eA89]; exact hW41.upA (j := 237) (by decide) (by decide) (by decide) (Or.inl (by decide))
      have tT92 : A89 225 = T := by rw [eA89]; exact tT88
      refine lv_aload_n Bx.1 Bx.2.1 d_Mo_enter_72 rfl (lv_at hl 0 rfl) ?_
      refine lv_dup Bx.1 Bx.2.1 d_Mo_enter_73 rfl ?_
      refine f_get Bx hP (by omega) hW91.1 rfl inMo 18 (by decide) kw_674 rfl rfl d_Mo_enter_74 ?_
      rw [kk85]
      refine lv_iconst (v := 1) Bx.1 Bx.2.1 d_Mo_enter_77 (by decide) ?_
      refine lv_iadd Bx.1 Bx.2.1 d_Mo_enter_78 ?_
      rw [show nI 0 + 1 = nI (1) from nI_add (0) (1)]
      refine f_put Bx hP hD hS (by omega) hW91.1 rfl inMo tyMo okMo nmMo 18 (by decide) kw_674 rfl rfl rfl rfl (Nat.le_of_ble_eq_true rfl) d_Mo_enter_79 (fun H locs hP hS => ?_)
      obtain ⟨J93, eJ93⟩ : ∃ z, z = va_up J39 18 (nI (1)) := ⟨_, rfl⟩
      obtain ⟨mem94, e_mem94⟩ : ∃ z, z = va_up mem90 224 (moC ad J93) := ⟨_, rfl⟩
      have hP : va_P D vcl (fw n ad mem94) H := by rw [e_mem94, eJ93]; exact hP
      have hD : va_D (Az sz) (fw n ad mem94) := fw_D hD
      have hW95 : MW cy ad J93 A89 nm m0 mem94 := by rw [e_mem94]; exact hW91.upJ (by rw [eJ93]; exact va_up_ne _ _ (by decide))
      have kk96 : J93 1 = nI L := by rw [eJ93]; exact kk80
      have kk97 : J93 24 = nI G := by rw [eJ93]; exact kk81
      have kk98 : J93 17 = 0 := by rw [eJ93]; exact kk82
      have kk99 : J93 14 = nI u := by rw [eJ93]; exact kk83
      have kk100 : J93 4 = nI R := by rw [eJ93]; exact kk84
      have kk101 : J93 16 = nI a3 := by rw [eJ93]; exact kk86
      have kk102 : J93 7 = nI (Ec + 1) := by rw [eJ93]; exact kk87
      have kk103 : J93 18 = nI (1) := by rw [eJ93, va_up_self]
      refine lv_aload_n Bx.1 Bx.2.1 d_Mo_enter_82 rfl (lv_at hl 0 rfl) ?_
      refine f_get Bx hP (by omega) hW95.1 rfl inMo 17 (by decide) kw_673 rfl rfl d_Mo_enter_83 ?_
      rw [kk98]
      refine lv_if_ne Bx.1 Bx.2.1 d_Mo_enter_86 rfl (fun hb104 => ?_) (fun hb104 => ?_)
      · exact absurd hb104 (by decide)
      · refine lv_iload_n Bx.1 Bx.2.1 d_Mo_enter_89 rfl (lv_at hl 1 rfl) ?_
        refine lv_if_ne Bx.1 Bx.2.1 d_Mo_enter_90 rfl (fun hb105 => ?_) (fun hb105 => ?_)
        · exact absurd hb105 (by decide)
        · refine lv_aload_n Bx.1 Bx.2.1 d_Mo_enter_93 rfl (lv_at hl 0 rfl) ?_
          refine f_get Bx hP (by omega) hW95.1 rfl inMo 6 (by decide) kw_662 rfl rfl d_Mo_enter_94 ?_
          refine lv_iload_n Bx.1 Bx.2.1 d_Mo_enter_97 rfl (lv_at hl 2 rfl) ?_
          refine f_iald Bx hP (by omega) (show mem94 227 = .inl (cy 1, 12, .inl (A89 227)) from hW95.2.2.1 227 (by decide) (by decide) (by decide)) (vp_in_nI (n := r0) (by omega) (by decide)) d_Mo_enter_98 ?_
          rw [nI_clamp (n := r0) (by omega)]
          have htops : A89 227 (r0) = A 227 r0 := by simp [eA21, eA25, eA29, eA40, eA89, elA, va_up]
          rw [htops]
          rcases (hG.2.1 r0 hr0) with hv | ⟨j, hj, hv⟩
          · rw [hv]
            refine lv_if_lt Bx.1 Bx.2.1 d_Mo_enter_99 rfl (fun hb106 => ?_) (fun hb106 => ?_)
            · refine lv_aload_n Bx.1 Bx.2.1 d_Mo_enter_119 rfl (lv_at hl 0 rfl) ?_
              refine f_get Bx hP (by omega) hW95.1 rfl inMo 17 (by decide) kw_673 rfl rfl d_Mo_enter_120 ?_
              rw [kk98]
              refine lv_if_ne Bx.1 Bx.2.1 d_Mo_enter_123 rfl (fun hb107 => ?_) (fun hb107 => ?_)
              · exact absurd hb107 (by decide)
              · refine lv_iload_n Bx.1 Bx.2.1 d_Mo_enter_126 rfl (lv_at hl 1 rfl) ?_
                refine lv_if_ne Bx.1 Bx.2.1 d_Mo_enter_127 rfl (fun hb108 => ?_) (fun hb108 => ?_)
                · exact absurd hb108 (by decide)
                · refine lv_aload_n Bx.1 Bx.2.1 d_Mo_enter_130 rfl (lv_at hl 0 rfl) ?_
                  refine f_get Bx hP (by omega) hW95.1 rfl inMo 6 (by decide) kw_662 rfl rfl d_Mo_enter_131 ?_
                  refine lv_iload_n Bx.1 Bx.2.1 d_Mo_enter_134 rfl (lv_at hl 2 rfl) ?_
                  refine lv_aload_n Bx.1 Bx.2.1 d_Mo_enter_135 rfl (lv_at hl 0 rfl) ?_
                  refine f_get Bx hP (by omega) hW95.1 rfl inMo 21 (by decide) kw_677 rfl rfl d_Mo_enter_136 ?_
                  refine lv_aload_n Bx.1 Bx.2.1 d_Mo_enter_139 rfl (lv_at hl 0 rfl) ?_
                  refine f_get Bx hP (by omega) hW95.1 rfl inMo 18 (by decide) kw_674 rfl rfl d_Mo_enter_140 ?_
                  rw [kk103]
                  refine lv_iconst (v := 1) Bx.1 Bx.2.1 d_Mo_enter_143 (by decide) ?_
                  refine lv_isub Bx.1 Bx.2.1 d_Mo_enter_144 ?_
                  rw [show nI (1) - 1 = nI (0) from nI_pred (0)]
                  refine f_iald Bx hP (by omega) (show mem94 237 = .inl (cy 1, 8, .inl (A89 237)) from hW95.2.2.1 237 (by decide) (by decide) (by decide)) (vp_in_nI (n := 0) (by omega) (by decide)) d_Mo_enter_145 ?_
                  rw [nI_clamp (n := 0) (by omega)]
                  have hcc9 : A89 237 (0) = nI Ec := by simp [eA21, eA25, eA29, eA40, eA89, elA, va_up, upd]
                  refine f_iast (x := A89 237 (0)) (i := nI (r0)) Bx hP hD hS (by omega) (show mem94 227 = .inl (cy 1, 12, .inl (A89 227)) from hW95.2.2.1 227 (by decide) (by decide) (by decide)) (vp_in_nI (n := r0) (by omega) (by decide)) d_Mo_enter_146 (fun H locs hP hS => ?_)
                  rw [nI_clamp (n := r0) (by omega)] at hP
                  obtain ⟨A109, eA109⟩ : ∃ z, z = va_up A89 227 (upd (A89 227) (r0) (A89 237 (0))) := ⟨_, rfl⟩
                  obtain ⟨mem110, e_mem110⟩ : ∃ z, z = va_up mem94 227 (.inl (cy 1, 12, .inl (upd (A89 227) (r0) (A89 237 (0))))) := ⟨_, rfl⟩
                  have hP : va_P D vcl (fw n ad mem110) H := by rw [e_mem110]; exact hP
                  have hD : va_D (Az sz) (fw n ad mem110) := fw_D hD
                  have hW111 : MW cy ad J93 A109 nm m0 mem110 := by rw [e_mem110, eA109]; exact hW95.upA (j := 227) (by decide) (by decide) (by decide) (Or.inl (by decide))
                  have tT112 : A109 225 = T := by rw [eA109]; exact tT92
                  refine lv_aload_n Bx.1 Bx.2.1 d_Mo_enter_147 rfl (lv_at hl 0 rfl) ?_
                  refine lv_iconst (v := 1) Bx.1 Bx.2.1 d_Mo_enter_148 (by decide) ?_
                  refine f_put Bx hP hD hS (by omega) hW111.1 rfl inMo tyMo okMo nmMo 28 (by decide) kw_684 rfl rfl rfl rfl (Nat.le_of_ble_eq_true rfl) d_Mo_enter_149 (fun H locs hP hS => ?_)
                  obtain ⟨J113, eJ113⟩ : ∃ z, z = va_up J93 28 (1) := ⟨_, rfl⟩
                  obtain ⟨mem114, e_mem114⟩ : ∃ z, z = va_up mem110 224 (moC ad J113) := ⟨_, rfl⟩
                  have hP : va_P D vcl (fw n ad mem114) H := by rw [e_mem114, eJ113]; exact hP
                  have hD : va_D (Az sz) (fw n ad mem114) := fw_D hD
                  have hW115 : MW cy ad J113 A109 nm m0 mem114 := by rw [e_mem114]; exact hW111.upJ (by rw [eJ113]; exact va_up_ne _ _ (by decide))
                  have kk116 : J113 1 = nI L := by rw [eJ113]; exact kk96
                  have kk117 : J113 24 = nI G := by rw [eJ113]; exact kk97
                  have kk118 : J113 17 = 0 := by rw [eJ113]; exact kk98
                  have kk119 : J113 14 = nI u := by rw [eJ113]; exact kk99
                  have kk120 : J113 4 = nI R := by rw [eJ113]; exact kk100
                  have kk121 : J113 16 = nI a3 := by rw [eJ113]; exact kk101
                  have kk122 : J113 7 = nI (Ec + 1) := by rw [eJ113]; exact kk102
                  have kk123 : J113 18 = nI (1) := by rw [eJ113]; exact kk103
                  have kk124 : J113 28 = 1 := by rw [eJ113, va_up_self]
                  have hpu := hG.push (A' := A109) (r := r0) (cc := Ec) hr0 (by omega) (fun j h1 h2 h3 k hk => by
                      have hj : j = 228 ∨ j = 229 ∨ j = 230 ∨ j = 232 ∨ j = 233 := by omega
                      rcases hj with rfl | rfl | rfl | rfl | rfl <;> simp [eA21, eA25, eA29, eA40, eA89, eA109, elA, va_up, upd, Nat.ne_of_lt hk]) (by simp [eA21, eA25, eA29, eA40, eA89, eA109, elA, va_up, upd]) (by simp [eA21, eA25, eA29, eA40, eA89, eA109, elA, va_up, upd]) (by simp [eA21, eA25, eA29, eA40, eA89, eA109, elA, va_up, upd]) (by rw [eA109, va_up_self, hcc9]; simp [eA21, eA25, eA29, eA40, eA89, eA109, elA, va_up]) (by simp [eA21, eA25, eA29, eA40, eA89, eA109, elA, va_up, upd]) (by simp [eA21, eA25, eA29, eA40, eA89, eA109, elA, va_up, upd]) (by simp [eA21, eA25, eA29, eA40, eA89, eA109, elA, va_up, upd])
                  have hk18 : J113 18 = nI (0 + 1) := kk123
                  exact W.vret hx hb hr (fun t ht hW => ⟨⟨mem114, rfl, ⟨J113, A109, nm, hW115, Or.inr ⟨a3, by omega, u, R, Ec + 1, 0, _, _, _, ⟨kk116, kk117, kk121, kk118, kk119, kk120, kk122, hk18⟩, ⟨by omega, by omega, by omega, by omega, by omega, by omega⟩, tT112, Or.inr kk124, Inv.qF (by rw [kk124]; decide) hpu, by simp [eA21, eA25, eA29, eA40, eA89, eA109, elA, va_up, upd]⟩⟩, by show va_P _ _ _ t.heap; rw [ht]; exact hP⟩, hS.F ht⟩) hS.2.2 d_Mo_enter_152
            · exact absurd hb106 (by decide)
          · rw [hv]
            refine lv_if_lt Bx.1 Bx.2.1 d_Mo_enter_99 rfl (fun hb125 => ?_) (fun hb125 => ?_)
            · exact absurd hb125 (by first | exact nI_pos (by omega) | exact fun q9 => q9 (nI_pos' (by omega)))
            · refine lv_aload_n Bx.1 Bx.2.1 d_Mo_enter_102 rfl (lv_at hl 0 rfl) ?_
              refine f_get Bx hP (by omega) hW95.1 rfl inMo 21 (by decide) kw_677 rfl rfl d_Mo_enter_103 ?_
              refine lv_aload_n Bx.1 Bx.2.1 d_Mo_enter_106 rfl (lv_at hl 0 rfl) ?_
              refine f_get Bx hP (by omega) hW95.1 rfl inMo 18 (by decide) kw_674 rfl rfl d_Mo_enter_107 ?_
              rw [kk103]
              refine lv_iconst (v := 1) Bx.1 Bx.2.1 d_Mo_enter_110 (by decide) ?_
              refine lv_isub Bx.1 Bx.2.1 d_Mo_enter_111 ?_
              rw [show nI (1) - 1 = nI (0) from nI_pred (0)]
              refine lv_aload_n Bx.1 Bx.2.1 d_Mo_enter_112 rfl (lv_at hl 0 rfl) ?_
              refine f_get Bx hP (by omega) hW95.1 rfl inMo 6 (by decide) kw_662 rfl rfl d_Mo_enter_113 ?_
              refine lv_iload_n Bx.1 Bx.2.1 d_Mo_enter_116 rfl (lv_at hl 2 rfl) ?_
              refine f_iald Bx hP (by omega) (show mem94 227 = .inl (cy 1, 12, .inl (A89 227)) from hW95.2.2.1 227 (by decide) (by decide) (by decide)) (vp_in_nI (n := r0) (by omega) (by decide)) d_Mo_enter_117 ?_
              rw [nI_clamp (n := r0) (by omega)]
              rw [show A89 227 (r0) = nI j by rw [show A89 227 (r0) = A 227 r0 by simp [eA21, eA25, eA29, eA40, eA89, elA, va_up]]; exact hv]
              refine f_iast (x := nI j) (i := nI (0)) Bx hP hD hS (by omega) (show mem94 237 = .inl (cy 1, 8, .inl (A89 237)) from hW95.2.2.1 237 (by decide) (by decide) (by decide)) (vp_in_nI (n := 0) (by omega) (by decide)) d_Mo_enter_118 (fun H locs hP hS => ?_)
              rw [nI_clamp (n := 0) (by omega)] at hP
              obtain ⟨A126, eA126⟩ : ∃ z, z = va_up A89 237 (upd (A89 237) (0) (nI j)) := ⟨_, rfl⟩
              obtain ⟨mem127, e_mem127⟩ : ∃ z, z = va_up mem94 237 (.inl (cy 1, 8, .inl (upd (A89 237) (0) (nI j)))) := ⟨_, rfl⟩
              have hP : va_P D vcl (fw n ad mem127) H := by rw [e_mem127]; exact hP
              have hD : va_D (Az sz) (fw n ad mem127) := fw_D hD
              have hW128 : MW cy ad J93 A126 nm m0 mem127 := by rw [e_mem127, eA126]; exact hW95.upA (j := 237) (by decide) (by decide) (by decide) (Or.inl (by decide))
              have tT129 : A126 225 = T := by rw [eA126]; exact tT92
              refine lv_aload_n Bx.1 Bx.2.1 d_Mo_enter_119 rfl (lv_at hl 0 rfl) ?_
              refine f_get Bx hP (by omega) hW128.1 rfl inMo 17 (by decide) kw_673 rfl rfl d_Mo_enter_120 ?_
              rw [kk98]
              refine lv_if_ne Bx.1 Bx.2.1 d_Mo_enter_123 rfl (fun hb130 => ?_) (fun hb130 => ?_)
              · exact absurd hb130 (by decide)
              · refine lv_iload_n Bx.1 Bx.2.1 d_Mo_enter_126 rfl (lv_at hl 1 rfl) ?_
                refine lv_if_ne Bx.1 Bx.2.1 d_Mo_enter_127 rfl (fun hb131 => ?_) (fun hb131 => ?_)
                · exact absurd hb131 (by decide)
                · refine lv_aload_n Bx.1 Bx.2.1 d_Mo_enter_130 rfl (lv_at hl 0 rfl) ?_
                  refine f_get Bx hP (by omega) hW128.1 rfl inMo 6 (by decide) kw_662 rfl rfl d_Mo_enter_131 ?_
                  refine lv_iload_n Bx.1 Bx.2.1 d_Mo_enter_134 rfl (lv_at hl 2 rfl) ?_
                  refine lv_aload_n Bx.1 Bx.2.1 d_Mo_enter_135 rfl (lv_at hl 0 rfl) ?_
                  refine f_get Bx hP (by omega) hW128.1 rfl inMo 21 (by decide) kw_677 rfl rfl d_Mo_enter_136 ?_
                  refine lv_aload_n Bx.1 Bx.2.1 d_Mo_enter_139 rfl (lv_at hl 0 rfl) ?_
                  refine f_get Bx hP (by omega) hW128.1 rfl inMo 18 (by decide) kw_674 rfl rfl d_Mo_enter_140 ?_
                  rw [kk103]
                  refine lv_iconst (v := 1) Bx.1 Bx.2.1 d_Mo_enter_143 (by decide) ?_
                  refine lv_isub Bx.1 Bx.2.1 d_Mo_enter_144 ?_
                  rw [show nI (1) - 1 = nI (0) from nI_pred (0)]
                  refine f_iald Bx hP (by omega) (show mem127 237 = .inl (cy 1, 8, .inl (A126 237)) from hW128.2.2.1 237 (by decide) (by decide) (by decide)) (vp_in_nI (n := 0) (by omega) (by decide)) d_Mo_enter_145 ?_
                  rw [nI_clamp (n := 0) (by omega)]
                  have hcc9 : A126 237 (0) = nI j := by simp [eA21, eA25, eA29, eA40, eA89, eA126, elA, va_up, upd, hv]
                  refine f_iast (x := A126 237 (0)) (i := nI (r0)) Bx hP hD hS (by omega) (show mem127 227 = .inl (cy 1, 12, .inl (A126 227)) from hW128.2.2.1 227 (by decide) (by decide) (by decide)) (vp_in_nI (n := r0) (by omega) (by decide)) d_Mo_enter_146 (fun H locs hP hS => ?_)
                  rw [nI_clamp (n := r0) (by omega)] at hP
                  obtain ⟨A132, eA132⟩ : ∃ z, z = va_up A126 227 (upd (A126 227) (r0) (A126 237 (0))) := ⟨_, rfl⟩
                  obtain ⟨mem133, e_mem133⟩ : ∃ z, z = va_up mem127 227 (.inl (cy 1, 12, .inl (upd (A126 227) (r0) (A126 237 (0))))) := ⟨_, rfl⟩
                  have hP : va_P D vcl (fw n ad mem133) H := by rw [e_mem133]; exact hP
                  have hD : va_D (Az sz) (fw n ad mem133) := fw_D hD
                  have hW134 : MW cy ad J93 A132 nm m0 mem133 := by rw [e_mem133, eA132]; exact hW128.upA (j := 227) (by decide) (by decide) (by decide) (Or.inl (by decide))
                  have tT135 : A132 225 = T := by rw [eA132]; exact tT129
                  refine lv_aload_n Bx.1 Bx.2.1 d_Mo_enter_147 rfl (lv_at hl 0 rfl) ?_
                  refine lv_iconst (v := 1) Bx.1 Bx.2.1 d_Mo_enter_148 (by decide) ?_
                  refine f_put Bx hP hD hS (by omega) hW134.1 rfl inMo tyMo okMo nmMo 28 (by decide) kw_684 rfl rfl rfl rfl (Nat.le_of_ble_eq_true rfl) d_Mo_enter_149 (fun H locs hP hS => ?_)
                  obtain ⟨J136, eJ136⟩ : ∃ z, z = va_up J93 28 (1) := ⟨_, rfl⟩
                  obtain ⟨mem137, e_mem137⟩ : ∃ z, z = va_up mem133 224 (moC ad J136) := ⟨_, rfl⟩
                  have hP : va_P D vcl (fw n ad mem137) H := by rw [e_mem137, eJ136]; exact hP
                  have hD : va_D (Az sz) (fw n ad mem137) := fw_D hD
                  have hW138 : MW cy ad J136 A132 nm m0 mem137 := by rw [e_mem137]; exact hW134.upJ (by rw [eJ136]; exact va_up_ne _ _ (by decide))
                  have kk139 : J136 1 = nI L := by rw [eJ136]; exact kk96
                  have kk140 : J136 24 = nI G := by rw [eJ136]; exact kk97
                  have kk141 : J136 17 = 0 := by rw [eJ136]; exact kk98
                  have kk142 : J136 14 = nI u := by rw [eJ136]; exact kk99
                  have kk143 : J136 4 = nI R := by rw [eJ136]; exact kk100
                  have kk144 : J136 16 = nI a3 := by rw [eJ136]; exact kk101
                  have kk145 : J136 7 = nI (Ec + 1) := by rw [eJ136]; exact kk102
                  have kk146 : J136 18 = nI (1) := by rw [eJ136]; exact kk103
                  have kk147 : J136 28 = 1 := by rw [eJ136, va_up_self]
                  have hpu := hG.push (A' := A132) (r := r0) (cc := j) hr0 (by omega) (fun j h1 h2 h3 k hk => by
                      have hj : j = 228 ∨ j = 229 ∨ j = 230 ∨ j = 232 ∨ j = 233 := by omega
                      rcases hj with rfl | rfl | rfl | rfl | rfl <;> simp [eA21, eA25, eA29, eA40, eA89, eA126, eA132, elA, va_up, upd, Nat.ne_of_lt hk]) (by simp [eA21, eA25, eA29, eA40, eA89, eA126, eA132, elA, va_up, upd]) (by simp [eA21, eA25, eA29, eA40, eA89, eA126, eA132, elA, va_up, upd]) (by simp [eA21, eA25, eA29, eA40, eA89, eA126, eA132, elA, va_up, upd]) (by rw [eA132, va_up_self, hcc9]; simp [eA21, eA25, eA29, eA40, eA89, eA126, eA132, elA, va_up]) (by simp [eA21, eA25, eA29, eA40, eA89, eA126, eA132, elA, va_up, upd]) (by simp [eA21, eA25, eA29, eA40, eA89, eA126, eA132, elA, va_up, upd, hv]) (by simp [eA21, eA25, eA29, eA40, eA89, eA126, eA132, elA, va_up, upd])
                  have hk18 : J136 18 = nI (0 + 1) := kk146
                  exact W.vret hx hb hr (fun t ht hW => ⟨⟨mem137, rfl, ⟨J136, A132, nm, hW138, Or.inr ⟨a3, by omega, u, R, Ec + 1, 0, _, _, _, ⟨kk139, kk140, kk144, kk141, kk142, kk143, kk145, hk18⟩, ⟨by omega, by omega, by omega, by omega, by omega, by omega⟩, tT135, Or.inr kk147, Inv.qF (by rw [kk147]; decide) hpu, by simp [eA21, eA25, eA29, eA40, eA89, eA126, eA132, elA, va_up, upd]⟩⟩, by show va_P _ _ _ t.heap; rw [ht]; exact hP⟩, hS.F ht⟩) hS.2.2 d_Mo_enter_152
  · refine lv_aload_n Bx.1 Bx.2.1 d_Mo_enter_14 rfl (lv_at hl 0 rfl) ?_
    refine lv_iconst (v := 1) Bx.1 Bx.2.1 d_Mo_enter_15 (by decide) ?_
    refine lv_aload_n Bx.1 Bx.2.1 d_Mo_enter_16 rfl (lv_at hl 0 rfl) ?_
    refine f_get Bx hP (by omega) hW6.1 rfl inMo 16 (by decide) kw_672 rfl rfl d_Mo_enter_17 ?_
    rw [kk15]
    refine f_callVv (na := 2) (As := [.int (1), .int (nI a3)]) (rest := []) Bx hml E hP hD hS (by omega) hW6.1 rfl (m_Mo_wrong l hn hW6 (Or.inl kk10) (by first | exact Or.inl rfl | exact Or.inr rfl)) kw_799 kw_801 sel_Mo_wrong kw_8 kw_802 (by decide +kernel) ⟨rfl, rfl⟩ ⟨Nat.le_of_ble_eq_true rfl, Nat.le_of_ble_eq_true rfl⟩ rfl hl.1 (Nat.le_of_ble_eq_true rfl) d_Mo_enter_20 ⟨Nat.le_of_ble_eq_true rfl, Nat.le_of_ble_eq_true rfl⟩ (fun mem149 H locs hq hP hS => ?_)
    have hD : va_D (Az sz) (fw n ad mem149) := fw_D hD
    obtain ⟨J150, hW151, hwr152⟩ := hq
    have kk153 : J150 1 = nI L := (show J150 1 = J7 1 from hwr152.2 1 (by decide) (by decide)).trans kk8
    have kk154 : J150 24 = nI G := (show J150 24 = J7 24 from hwr152.2 24 (by decide) (by decide)).trans kk9
    have kk155 : J150 14 = nI u := (show J150 14 = J7 14 from hwr152.2 14 (by decide) (by decide)).trans kk11
    have kk156 : J150 4 = nI R := (show J150 4 = J7 4 from hwr152.2 4 (by decide) (by decide)).trans kk12
    have kk157 : J150 7 = nI Ec := (show J150 7 = J7 7 from hwr152.2 7 (by decide) (by decide)).trans kk13
    have kk158 : J150 18 = nI 0 := (show J150 18 = J7 18 from hwr152.2 18 (by decide) (by decide)).trans kk14
    have kk159 : J150 16 = nI a3 := (show J150 16 = J7 16 from hwr152.2 16 (by decide) (by decide)).trans kk15
    exact W.vret hx hb hr (fun t ht hW => ⟨⟨mem149, rfl, ⟨J150, A, nm, hW151, Or.inl ⟨kk153, kk154, hT, hwr152.1, _, by omega, kk159⟩⟩, by show va_P _ _ _ t.heap; rw [ht]; exact hP⟩, hS.F ht⟩) hS.2.2 d_Mo_enter_23
