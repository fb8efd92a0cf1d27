theorem numsS_n1 {T : Nat → Int32} {L a u e : Nat} {b : Int32} {A : Ro} (h : numS T L a b = none) : numsS T L a u e b A = none := by
  unfold numsS
  rw [h]
theorem numsS_n2 {T : Nat → Int32} {L a u e : Nat} {b : Int32} {A : Ro} {v : Int32} {a2 : Nat} (h1 : numS T L a b = some (v, a2)) (h5 : hereF L T a2 = 45) (h2 : numS T L (a2 + 1) b = none) : numsS T L a u e b A = none := by
  unfold numsS
  rw [h1]
  simp only []
  rw [if_pos h5, h2]
theorem numsS_lt {T : Nat → Int32} {L a u e : Nat} {b : Int32} {A : Ro} {v w : Int32} {a2 a3 : Nat} (h1 : numS T L a b = some (v, a2)) (h5 : hereF L T a2 = 45) (h2 : numS T L (a2 + 1) b = some (w, a3)) (hw : w < v) : numsS T L a u e b A = none := by
  unfold numsS
  rw [h1]
  simp only []
  rw [if_pos h5, h2]
  simp only []
  rw [if_pos hw]
theorem numsS_rg {T : Nat → Int32} {L a u e : Nat} {b : Int32} {A : Ro} {v w : Int32} {a2 a3 : Nat} (h1 : numS T L a b = some (v, a2)) (h5 : hereF L T a2 = 45) (h2 : numS T L (a2 + 1) b = some (w, a3)) (hw : ¬ w < v) : numsS T L a u e b A = some (a3, u + 1, va_up (va_up (va_up (va_up (va_up (va_up A 229 (upd (A 229) e (nI u))) 230 (upd (A 230) e 1)) 234 (upd (A 234) u v)) 228 (upd ((va_up (va_up (va_up A 229 (upd (A 229) e (nI u))) 230 (upd (A 230) e 1)) 234 (upd (A 234) u v)) 228) e 5)) 229 (upd ((va_up (va_up (va_up A 229 (upd (A 229) e (nI u))) 230 (upd (A 230) e 1)) 234 (upd (A 234) u v)) 229) e v)) 230 (upd ((va_up (va_up (va_up A 229 (upd (A 229) e (nI u))) 230 (upd (A 230) e 1)) 234 (upd (A 234) u v)) 230) e w)) := by
  unfold numsS
  rw [h1]
  simp only []
  rw [if_pos h5, h2]
  simp only []
  rw [if_neg hw]
theorem numsS_fu {T : Nat → Int32} {L a u e : Nat} {b : Int32} {A : Ro} {v : Int32} {a2 : Nat} (h1 : numS T L a b = some (v, a2)) (h5 : ¬ hereF L T a2 = 45) : numsS T L a u e b A = furS T L b e 3 a2 (u + 1) (va_up (va_up (va_up A 229 (upd (A 229) e (nI u))) 230 (upd (A 230) e 1)) 234 (upd (A 234) u v)) := by
  unfold numsS
  rw [h1]
  simp only []
  rw [if_neg h5]
theorem furS_no {T : Nat → Int32} {L e r a u : Nat} {b : Int32} {A : Ro} (h : ¬ hereF L T a = 46) : furS T L b e r a u A = some (a, u, A) := by
  cases r with
  | zero => rfl
  | succ r => rw [furS, if_neg h]
theorem furS_bad {T : Nat → Int32} {L e r a u : Nat} {b : Int32} {A : Ro} (h : hereF L T a = 46) (h2 : numS T L (a + 1) b = none) : furS T L b e (r + 1) a u A = none := by
  rw [furS, if_pos h, h2]
theorem furS_on {T : Nat → Int32} {L e r a u a2 : Nat} {b v : Int32} {A : Ro} (h : hereF L T a = 46) (h2 : numS T L (a + 1) b = some (v, a2)) : furS T L b e (r + 1) a u A = furS T L b e r a2 (u + 1) (va_up (va_up A 234 (upd (A 234) u v)) 230 (upd (A 230) e (A 230 e + 1))) := by
  rw [furS, if_pos h, h2]
set_option maxHeartbeats 4000000 in
set_option maxRecDepth 100000 in
theorem m_Mo_numbersX (l : Launch) {D : va_G} {cy : Nat → ClassId} {sz n : Nat} {ad : Nat → Nat} {mem : Nat → va_E} {J : Nat → Int32} {A : Nat → Nat → Int32} {nm : Nat → Int64} {m0 : Nat → va_E} {L G a u R f : Nat} {T : Nat → Int32} {fc fs ft : Nat → Nat} {e9 : Nat} {fro ba : Int32} (hn : 242 ≤ n) (hM : MW cy ad J A nm m0 mem) (hNm : Num L G a u R (e9 + 1) f J) (hBd : L ≤ 240 ∧ a ≤ L ∧ u ≤ a ∧ R ≤ 12 ∧ f ≤ 6) (hEb : e9 + 1 ≤ 100) (hT : A 225 = T) (hp : J 28 = 0) (hI : Inv R (e9 + 1) u f True fc fs ft A (fun _ => False)) (h4 : A 228 e9 = 4) (hC : CL e9 A) (hse : fs f < e9) (hrr : A 239 f = -1 ∨ ∃ r, A 239 f = nI r ∧ fs f < r ∧ r < e9) : MV l D cy sz n ad y_Mo_numbers c_Mo_numbers 6 ({ frames := 4, cells := 0, slots := 0, locals := 120 } : Room) mem [.ref (ad 224), .int (nI e9), .int (fro), .int (ba)] (fun mem' => ∃ J' A' nm', MW cy ad J' A' nm' m0 mem' ∧ Res9 L G T a J' A' nm' (plS R (e9 + 1) f e9 nm (numsS T L a u e9 ba A))) := by
  refine Met.ofW (cc := c_Mo_numbers) (maxL := 6) (ret := none) (by decide) rfl ?_
  intro p e s m args below meth c s₁ B hml hv
  obtain ⟨rfl, E, hP, hD⟩ := hv
  have hx := B.exec
  have hb := B.bytes
  have hr := B.returns
  have hlocks := B.notSynchronized
  have Bx : MB p s m [.ref (ad 224), .int (nI e9), .int (fro), .int (ba)].toArray c c_Mo_numbers "AbnfChartModel" D cy := ⟨hx, hb, tb_all (atoms_spec B.pre) E.2.1, findClass_of_methodNamed B.named, E.1⟩
  have hS : va_S (Az sz) s.heap s.heap [] := va_S.rf
  have hl := lv_entry ([.ref (ad 224), .int (nI e9), .int (fro), .int (ba)]) (n := 6) (Nat.le_of_ble_eq_true rfl)
  rw [lg_entry_eq]
  generalize (lg_sl ([.ref (ad 224), .int (nI e9), .int (fro), .int (ba)]) ++ List.replicate (6 - (lg_sl ([.ref (ad 224), .int (nI e9), .int (fro), .int (ba)])).length) Slot.unset).toArray = ls at hl ⊢
  have hl : lv_has ls 6 [(0, .ref (ad 224)), (1, .int (nI e9)), (2, .int (fro)), (3, .int (ba))] := hl
  obtain ⟨hL, haL, huA, hRb, hfb⟩ := hBd
  obtain ⟨g1, g2, g3, g4, g5, g6, g7, g8⟩ := hNm
  refine lv_aload_n Bx.1 Bx.2.1 d_Mo_numbers_0 rfl (lv_at hl 0 rfl) ?_
  refine lv_iload_n Bx.1 Bx.2.1 d_Mo_numbers_1 rfl (lv_at hl 3 rfl) ?_
  refine lv_iload_n Bx.1 Bx.2.1 d_Mo_numbers_2 rfl (lv_at hl 2 rfl) ?_
  refine f_callVi (na := 2) (As := [.int (ba), .int (fro)]) (rest := []) Bx hml E hP hD hS (by omega) hM.1 rfl (m_Mo_numberX l hn hM g1 hL g3 (by omega) g4) kw_846 kw_848 sel_Mo_number kw_8 kw_849 (by decide +kernel) ⟨rfl, rfl⟩ ⟨Nat.le_of_ble_eq_true rfl, Nat.le_of_ble_eq_true rfl⟩ rfl hl.1 (Nat.le_of_ble_eq_true rfl) d_Mo_numbers_3 ⟨Nat.le_of_ble_eq_true rfl, Nat.le_of_ble_eq_true rfl⟩ (fun r9 mem10 H locs hq hP hS => ?_)
  have hD : va_D (Az sz) (fw n ad mem10) := fw_D hD
  rw [hT] at hq
  obtain ⟨a12, ea20⟩ : ∃ z, z = a + (numN T L ba (if ba = 10 then 3 else 2) (a) 0).2 := ⟨_, rfl⟩
  obtain ⟨v13, ev21⟩ : ∃ z, z = (numN T L ba (if ba = 10 then 3 else 2) (a) 0).1 := ⟨_, rfl⟩
  rw [← ea20, ← ev21] at hq
  obtain ⟨J11, hW14, hg15, hg16, kk17, hfr18, er22, hbd19⟩ := hq
  subst er22
  have kk23 : J11 1 = nI L := (show J11 1 = J 1 from hfr18 1 (by decide) (by decide) (by decide)).trans g1
  have kk24 : J11 24 = nI G := (show J11 24 = J 24 from hfr18 24 (by decide) (by decide) (by decide)).trans g2
  have kk25 : J11 14 = nI u := (show J11 14 = J 14 from hfr18 14 (by decide) (by decide) (by decide)).trans g5
  have kk26 : J11 4 = nI R := (show J11 4 = J 4 from hfr18 4 (by decide) (by decide) (by decide)).trans g6
  have kk27 : J11 7 = nI (e9 + 1) := (show J11 7 = J 7 from hfr18 7 (by decide) (by decide) (by decide)).trans g7
  have kk28 : J11 18 = nI (f + 1) := (show J11 18 = J 18 from hfr18 18 (by decide) (by decide) (by decide)).trans g8
  have kk29 : J11 28 = 0 := (show J11 28 = J 28 from hfr18 28 (by decide) (by decide) (by decide)).trans hp
  rcases hbd19 with ⟨hsp30, hbad31⟩ | ⟨hsp30, kk32, hlt33⟩
  · refine lv_istore (lv' := [(4, .int (r9)), (0, .ref (ad 224)), (1, .int (nI e9)), (2, .int (fro)), (3, .int (ba))]) Bx.1 Bx.2.1 d_Mo_numbers_6 hl (by decide) rfl (fun ls hl => ?_)
    refine lv_aload_n Bx.1 Bx.2.1 d_Mo_numbers_8 rfl (lv_at hl 1 rfl) ?_
    refine f_get Bx hP (by omega) hW14.1 rfl inMo 9 (by decide) kw_665 rfl rfl d_Mo_numbers_9 ?_
    refine lv_iload_n Bx.1 Bx.2.1 d_Mo_numbers_12 rfl (lv_at hl 2 rfl) ?_
    refine lv_aload_n Bx.1 Bx.2.1 d_Mo_numbers_13 rfl (lv_at hl 1 rfl) ?_
    refine f_get Bx hP (by omega) hW14.1 rfl inMo 14 (by decide) kw_670 rfl rfl d_Mo_numbers_14 ?_
    rw [kk25]
    refine f_iast (x := nI u) (i := nI (e9)) Bx hP hD hS (by omega) (show mem10 229 = .inl (cy 1, 100, .inl (A 229)) from hW14.2.2.1 229 (by decide) (by decide) (by decide)) (vp_in_nI (n := e9) (by omega) (by decide)) d_Mo_numbers_17 (fun H locs hP hS => ?_)
    rw [nI_clamp (n := e9) (by omega)] at hP
    obtain ⟨A34, eA34⟩ : ∃ z, z = va_up A 229 (upd (A 229) (e9) (nI u)) := ⟨_, rfl⟩
    obtain ⟨mem35, e_mem35⟩ : ∃ z, z = va_up mem10 229 (.inl (cy 1, 100, .inl (upd (A 229) (e9) (nI u)))) := ⟨_, rfl⟩
    have hP : va_P D vcl (fw n ad mem35) H := by rw [e_mem35]; exact hP
    have hD : va_D (Az sz) (fw n ad mem35) := fw_D hD
    have hW36 : MW cy ad J11 A34 nm m0 mem35 := by rw [e_mem35, eA34]; exact hW14.upA (j := 229) (by decide) (by decide) (by decide) (Or.inl (by decide))
    have tT37 : A34 225 = T := by rw [eA34]; exact hT
    refine lv_aload_n Bx.1 Bx.2.1 d_Mo_numbers_18 rfl (lv_at hl 1 rfl) ?_
    refine f_get Bx hP (by omega) hW36.1 rfl inMo 10 (by decide) kw_666 rfl rfl d_Mo_numbers_19 ?_
    refine lv_iload_n Bx.1 Bx.2.1 d_Mo_numbers_22 rfl (lv_at hl 2 rfl) ?_
    refine lv_iconst (v := 1) Bx.1 Bx.2.1 d_Mo_numbers_23 (by decide) ?_
    refine f_iast (x := 1) (i := nI (e9)) Bx hP hD hS (by omega) (show mem35 230 = .inl (cy 1, 100, .inl (A34 230)) from hW36.2.2.1 230 (by decide) (by decide) (by decide)) (vp_in_nI (n := e9) (by omega) (by decide)) d_Mo_numbers_24 (fun H locs hP hS => ?_)
    rw [nI_clamp (n := e9) (by omega)] at hP
    obtain ⟨A38, eA38⟩ : ∃ z, z = va_up A34 230 (upd (A34 230) (e9) (1)) := ⟨_, rfl⟩
    obtain ⟨mem39, e_mem39⟩ : ∃ z, z = va_up mem35 230 (.inl (cy 1, 100, .inl (upd (A34 230) (e9) (1)))) := ⟨_, rfl⟩
    have hP : va_P D vcl (fw n ad mem39) H := by rw [e_mem39]; exact hP
    have hD : va_D (Az sz) (fw n ad mem39) := fw_D hD
    have hW40 : MW cy ad J11 A38 nm m0 mem39 := by rw [e_mem39, eA38]; exact hW36.upA (j := 230) (by decide) (by decide) (by decide) (Or.inl (by decide))
    have tT41 : A38 225 = T := by rw [eA38]; exact tT37
    refine lv_aload_n Bx.1 Bx.2.1 d_Mo_numbers_25 rfl (lv_at hl 1 rfl) ?_
    refine f_get Bx hP (by omega) hW40.1 rfl inMo 15 (by decide) kw_671 rfl rfl d_Mo_numbers_26 ?_
    refine lv_aload_n Bx.1 Bx.2.1 d_Mo_numbers_29 rfl (lv_at hl 1 rfl) ?_
    refine f_get Bx hP (by omega) hW40.1 rfl inMo 14 (by decide) kw_670 rfl rfl d_Mo_numbers_30 ?_
    rw [kk25]
    refine lv_iload Bx.1 Bx.2.1 d_Mo_numbers_33 (lv_at hl 0 rfl) ?_
    refine f_iast (x := r9) (i := nI (u)) Bx hP hD hS (by omega) (show mem39 234 = .inl (cy 1, 400, .inl (A38 234)) from hW40.2.2.1 234 (by decide) (by decide) (by decide)) (vp_in_nI (n := u) (by omega) (by decide)) d_Mo_numbers_35 (fun H locs hP hS => ?_)
    rw [nI_clamp (n := u) (by omega)] at hP
    obtain ⟨A42, eA42⟩ : ∃ z, z = va_up A38 234 (upd (A38 234) (u) (r9)) := ⟨_, rfl⟩
    obtain ⟨mem43, e_mem43⟩ : ∃ z, z = va_up mem39 234 (.inl (cy 1, 400, .inl (upd (A38 234) (u) (r9)))) := ⟨_, rfl⟩
    have hP : va_P D vcl (fw n ad mem43) H := by rw [e_mem43]; exact hP
    have hD : va_D (Az sz) (fw n ad mem43) := fw_D hD
    have hW44 : MW cy ad J11 A42 nm m0 mem43 := by rw [e_mem43, eA42]; exact hW40.upA (j := 234) (by decide) (by decide) (by decide) (Or.inl (by decide))
    have tT45 : A42 225 = T := by rw [eA42]; exact tT41
    refine lv_aload_n Bx.1 Bx.2.1 d_Mo_numbers_36 rfl (lv_at hl 1 rfl) ?_
    refine lv_dup Bx.1 Bx.2.1 d_Mo_numbers_37 rfl ?_
    refine f_get Bx hP (by omega) hW44.1 rfl inMo 14 (by decide) kw_670 rfl rfl d_Mo_numbers_38 ?_
    rw [kk25]
    refine lv_iconst (v := 1) Bx.1 Bx.2.1 d_Mo_numbers_41 (by decide) ?_
    refine lv_iadd Bx.1 Bx.2.1 d_Mo_numbers_42 ?_
    rw [show nI u + 1 = nI (u + 1) from nI_add (u) (1)]
    refine f_put Bx hP hD hS (by omega) hW44.1 rfl inMo tyMo okMo nmMo 14 (by decide) kw_670 rfl rfl rfl rfl (Nat.le_of_ble_eq_true rfl) d_Mo_numbers_43 (fun H locs hP hS => ?_)
    obtain ⟨J46, eJ46⟩ : ∃ z, z = va_up J11 14 (nI (u + 1)) := ⟨_, rfl⟩
    obtain ⟨mem47, e_mem47⟩ : ∃ z, z = va_up mem43 224 (moC ad J46) := ⟨_, rfl⟩
    have hP : va_P D vcl (fw n ad mem47) H := by rw [e_mem47, eJ46]; exact hP
    have hD : va_D (Az sz) (fw n ad mem47) := fw_D hD
    have hW48 : MW cy ad J46 A42 nm m0 mem47 := by rw [e_mem47]; exact hW44.upJ (by rw [eJ46]; exact va_up_ne _ _ (by decide))
    have kk49 : J46 1 = nI L := by rw [eJ46]; exact kk23
    have kk50 : J46 24 = nI G := by rw [eJ46]; exact kk24
    have kk51 : J46 4 = nI R := by rw [eJ46]; exact kk26
    have kk52 : J46 7 = nI (e9 + 1) := by rw [eJ46]; exact kk27
    have kk53 : J46 18 = nI (f + 1) := by rw [eJ46]; exact kk28
    have kk54 : J46 28 = 0 := by rw [eJ46]; exact kk29
    have kk55 : J46 16 = nI a12 := by rw [eJ46]; exact kk17
    have kk56 : J46 14 = nI (u + 1) := by rw [eJ46, va_up_self]
    have bd57 : b12 (J46 17) := by rw [eJ46]; exact hbad31
    refine lv_aload_n Bx.1 Bx.2.1 d_Mo_numbers_46 rfl (lv_at hl 1 rfl) ?_
    refine f_get Bx hP (by omega) hW48.1 rfl inMo 17 (by decide) kw_673 rfl rfl d_Mo_numbers_47 ?_
    refine lv_if_ne Bx.1 Bx.2.1 d_Mo_numbers_50 rfl (fun hb58 => ?_) (fun hb58 => ?_)
    · refine lv_aload_n Bx.1 Bx.2.1 d_Mo_numbers_116 rfl (lv_at hl 1 rfl) ?_
      refine f_get Bx hP (by omega) hW48.1 rfl inMo 17 (by decide) kw_673 rfl rfl d_Mo_numbers_117 ?_
      refine lv_if_ne Bx.1 Bx.2.1 d_Mo_numbers_120 rfl (fun hb59 => ?_) (fun hb59 => ?_)
      · refine lv_aload_n Bx.1 Bx.2.1 d_Mo_numbers_200 rfl (lv_at hl 1 rfl) ?_
        refine f_get Bx hP (by omega) hW48.1 rfl inMo 17 (by decide) kw_673 rfl rfl d_Mo_numbers_201 ?_
        refine lv_if_ne Bx.1 Bx.2.1 d_Mo_numbers_204 rfl (fun hb60 => ?_) (fun hb60 => ?_)
        · exact W.vret hx hb hr (fun t ht hW => ⟨⟨mem47, rfl, ⟨J46, A42, nm, hW48, Or.inl ⟨⟨kk49, kk50, tT45, bd57, _, by omega, kk55⟩, by rw [numsS_n1 hsp30]; rfl⟩⟩, by show va_P _ _ _ t.heap; rw [ht]; exact hP⟩, hS.F ht⟩) hS.2.2 d_Mo_numbers_212
        · exact absurd hb60 bd57.ne
      · exact absurd hb59 bd57.ne
    · exact absurd hb58 bd57.ne
  · refine lv_istore (lv' := [(4, .int (r9)), (0, .ref (ad 224)), (1, .int (nI e9)), (2, .int (fro)), (3, .int (ba))]) Bx.1 Bx.2.1 d_Mo_numbers_6 hl (by decide) rfl (fun ls hl => ?_)
    refine lv_aload_n Bx.1 Bx.2.1 d_Mo_numbers_8 rfl (lv_at hl 1 rfl) ?_
    refine f_get Bx hP (by omega) hW14.1 rfl inMo 9 (by decide) kw_665 rfl rfl d_Mo_numbers_9 ?_
    refine lv_iload_n Bx.1 Bx.2.1 d_Mo_numbers_12 rfl (lv_at hl 2 rfl) ?_
    refine lv_aload_n Bx.1 Bx.2.1 d_Mo_numbers_13 rfl (lv_at hl 1 rfl) ?_
    refine f_get Bx hP (by omega) hW14.1 rfl inMo 14 (by decide) kw_670 rfl rfl d_Mo_numbers_14 ?_
    rw [kk25]
    refine f_iast (x := nI u) (i := nI (e9)) Bx hP hD hS (by omega) (show mem10 229 = .inl (cy 1, 100, .inl (A 229)) from hW14.2.2.1 229 (by decide) (by decide) (by decide)) (vp_in_nI (n := e9) (by omega) (by decide)) d_Mo_numbers_17 (fun H locs hP hS => ?_)
    rw [nI_clamp (n := e9) (by omega)] at hP
    obtain ⟨A61, eA61⟩ : ∃ z, z = va_up A 229 (upd (A 229) (e9) (nI u)) := ⟨_, rfl⟩
    obtain ⟨mem62, e_mem62⟩ : ∃ z, z = va_up mem10 229 (.inl (cy 1, 100, .inl (upd (A 229) (e9) (nI u)))) := ⟨_, rfl⟩
    have hP : va_P D vcl (fw n ad mem62) H := by rw [e_mem62]; exact hP
    have hD : va_D (Az sz) (fw n ad mem62) := fw_D hD
    have hW63 : MW cy ad J11 A61 nm m0 mem62 := by rw [e_mem62, eA61]; exact hW14.upA (j := 229) (by decide) (by decide) (by decide) (Or.inl (by decide))
    have tT64 : A61 225 = T := by rw [eA61]; exact hT
    refine lv_aload_n Bx.1 Bx.2.1 d_Mo_numbers_18 rfl (lv_at hl 1 rfl) ?_
    refine f_get Bx hP (by omega) hW63.1 rfl inMo 10 (by decide) kw_666 rfl rfl d_Mo_numbers_19 ?_
    refine lv_iload_n Bx.1 Bx.2.1 d_Mo_numbers_22 rfl (lv_at hl 2 rfl) ?_
    refine lv_iconst (v := 1) Bx.1 Bx.2.1 d_Mo_numbers_23 (by decide) ?_
    refine f_iast (x := 1) (i := nI (e9)) Bx hP hD hS (by omega) (show mem62 230 = .inl (cy 1, 100, .inl (A61 230)) from hW63.2.2.1 230 (by decide) (by decide) (by decide)) (vp_in_nI (n := e9) (by omega) (by decide)) d_Mo_numbers_24 (fun H locs hP hS => ?_)
    rw [nI_clamp (n := e9) (by omega)] at hP
    obtain ⟨A65, eA65⟩ : ∃ z, z = va_up A61 230 (upd (A61 230) (e9) (1)) := ⟨_, rfl⟩
    obtain ⟨mem66, e_mem66⟩ : ∃ z, z = va_up mem62 230 (.inl (cy 1, 100, .inl (upd (A61 230) (e9) (1)))) := ⟨_, rfl⟩
    have hP : va_P D vcl (fw n ad mem66) H := by rw [e_mem66]; exact hP
    have hD : va_D (Az sz) (fw n ad mem66) := fw_D hD
    have hW67 : MW cy ad J11 A65 nm m0 mem66 := by rw [e_mem66, eA65]; exact hW63.upA (j := 230) (by decide) (by decide) (by decide) (Or.inl (by decide))
    have tT68 : A65 225 = T := by rw [eA65]; exact tT64
    refine lv_aload_n Bx.1 Bx.2.1 d_Mo_numbers_25 rfl (lv_at hl 1 rfl) ?_
    refine f_get Bx hP (by omega) hW67.1 rfl inMo 15 (by decide) kw_671 rfl rfl d_Mo_numbers_26 ?_
    refine lv_aload_n Bx.1 Bx.2.1 d_Mo_numbers_29 rfl (lv_at hl 1 rfl) ?_
    refine f_get Bx hP (by omega) hW67.1 rfl inMo 14 (by decide) kw_670 rfl rfl d_Mo_numbers_30 ?_
    rw [kk25]
    refine lv_iload Bx.1 Bx.2.1 d_Mo_numbers_33 (lv_at hl 0 rfl) ?_
    refine f_iast (x := r9) (i := nI (u)) Bx hP hD hS (by omega) (show mem66 234 = .inl (cy 1, 400, .inl (A65 234)) from hW67.2.2.1 234 (by decide) (by decide) (by decide)) (vp_in_nI (n := u) (by omega) (by decide)) d_Mo_numbers_35 (fun H locs hP hS => ?_)
    rw [nI_clamp (n := u) (by omega)] at hP
    obtain ⟨A69, eA69⟩ : ∃ z, z = va_up A65 234 (upd (A65 234) (u) (r9)) := ⟨_, rfl⟩
    obtain ⟨mem70, e_mem70⟩ : ∃ z, z = va_up mem66 234 (.inl (cy 1, 400, .inl (upd (A65 234) (u) (r9)))) := ⟨_, rfl⟩
    have hP : va_P D vcl (fw n ad mem70) H := by rw [e_mem70]; exact hP
    have hD : va_D (Az sz) (fw n ad mem70) := fw_D hD
    have hW71 : MW cy ad J11 A69 nm m0 mem70 := by rw [e_mem70, eA69]; exact hW67.upA (j := 234) (by decide) (by decide) (by decide) (Or.inl (by decide))
    have tT72 : A69 225 = T := by rw [eA69]; exact tT68
    refine lv_aload_n Bx.1 Bx.2.1 d_Mo_numbers_36 rfl (lv_at hl 1 rfl) ?_
    refine lv_dup Bx.1 Bx.2.1 d_Mo_numbers_37 rfl ?_
    refine f_get Bx hP (by omega) hW71.1 rfl inMo 14 (by decide) kw_670 rfl rfl d_Mo_numbers_38 ?_
    rw [kk25]
    refine lv_iconst (v := 1) Bx.1 Bx.2.1 d_Mo_numbers_41 (by decide) ?_
    refine lv_iadd Bx.1 Bx.2.1 d_Mo_numbers_42 ?_
    rw [show nI u + 1 = nI (u + 1) from nI_add (u) (1)]
    refine f_put Bx hP hD hS (by omega) hW71.1 rfl inMo tyMo okMo nmMo 14 (by decide) kw_670 rfl rfl rfl rfl (Nat.le_of_ble_eq_true rfl) d_Mo_numbers_43 (fun H locs hP hS => ?_)
    obtain ⟨J73, eJ73⟩ : ∃ z, z = va_up J11 14 (nI (u + 1)) := ⟨_, rfl⟩
    obtain ⟨mem74, e_mem74⟩ : ∃ z, z = va_up mem70 224 (moC ad J73) := ⟨_, rfl⟩
    have hP : va_P D vcl (fw n ad mem74) H := by rw [e_mem74, eJ73]; exact hP
    have hD : va_D (Az sz) (fw n ad mem74) := fw_D hD
    have hW75 : MW cy ad J73 A69 nm m0 mem74 := by rw [e_mem74]; exact hW71.upJ (by rw [eJ73]; exact va_up_ne _ _ (by decide))
    have kk76 : J73 1 = nI L := by rw [eJ73]; exact kk23
    have kk77 : J73 24 = nI G := by rw [eJ73]; exact kk24
    have kk78 : J73 4 = nI R := by rw [eJ73]; exact kk26
    have kk79 : J73 7 = nI (e9 + 1) := by rw [eJ73]; exact kk27
    have kk80 : J73 18 = nI (f + 1) := by rw [eJ73]; exact kk28
    have kk81 : J73 28 = 0 := by rw [eJ73]; exact kk29
    have kk82 : J73 16 = nI a12 := by rw [eJ73]; exact kk17
    have kk83 : J73 17 = 0 := by rw [eJ73]; exact kk32
    have kk84 : J73 14 = nI (u + 1) := by rw [eJ73, va_up_self]
    refine lv_aload_n Bx.1 Bx.2.1 d_Mo_numbers_46 rfl (lv_at hl 1 rfl) ?_
    refine f_get Bx hP (by omega) hW75.1 rfl inMo 17 (by decide) kw_673 rfl rfl d_Mo_numbers_47 ?_
    rw [kk83]
    refine lv_if_ne Bx.1 Bx.2.1 d_Mo_numbers_50 rfl (fun hb85 => ?_) (fun hb85 => ?_)
    · exact absurd hb85 (by decide)
    · refine lv_aload_n Bx.1 Bx.2.1 d_Mo_numbers_53 rfl (lv_at hl 1 rfl) ?_
      refine f_callVi (na := 0) (As := []) (rest := []) Bx hml E hP hD hS (by omega) hW75.1 rfl (m_Mo_here l hn hW75 kk76 hL kk82 (by omega)) kw_778 kw_780 sel_Mo_here kw_8 kw_781 (by decide +kernel) ⟨rfl, rfl⟩ ⟨Nat.le_of_ble_eq_true rfl, Nat.le_of_ble_eq_true rfl⟩ rfl hl.1 (Nat.le_of_ble_eq_true rfl) d_Mo_numbers_54 ⟨Nat.le_of_ble_eq_true rfl, Nat.le_of_ble_eq_true rfl⟩ (fun r86 mem87 H locs hq hP hS => ?_)
      have hD : va_D (Az sz) (fw n ad mem87) := fw_D hD
      obtain ⟨hre, hq⟩ := hq
      rw [hq] at hP hD
      subst hre
      rw [show hereF L (A69 225) (a12) = hereF L T (a12) by rw [tT72]]
      refine lv_bipush (v := 45) Bx.1 Bx.2.1 d_Mo_numbers_57 (by decide) ?_
      refine lv_icmp_ne Bx.1 Bx.2.1 d_Mo_numbers_59 rfl (fun hb88 => ?_) (fun hb88 => ?_)
      · have hA0e : A69 = va_up (va_up (va_up A 229 (upd (A 229) e9 (nI u))) 230 (upd (A 230) e9 1)) 234 (upd (A 234) u r9) := by rw [eA69, eA65, eA61]; rfl
        have hrel : (∀ j, j ≠ 229 → j ≠ 230 → j ≠ 234 → A69 j = A j) ∧ (∀ i, i ≠ e9 → A69 229 i = A 229 i ∧ A69 230 i = A 230 i) ∧ A69 229 e9 = nI u ∧ A69 230 e9 = nI 1 := ⟨fun j q9 q0 q4 => by simp [eA61, eA65, eA69, va_up, q9, q0, q4], fun i hi => by simp [eA61, eA65, eA69, va_up, upd, hi], by simp [eA61, eA65, eA69, va_up, upd], by simp [eA61, eA65, eA69, va_up, upd]; rfl⟩
        have loop89 : ∀ (d90 : Nat) (mem9 : Nat → va_E) (J9 : Nat → Int32) (A9 : Nat → Nat → Int32) (a1 : Nat) (t1 : Nat) (ls : Array Slot) (H : Heap) (locs : List Loc), (4 - t1 < d90) → (Num L G a1 (u + t1) R (e9 + 1) f J9 ∧ J9 28 = 0) → (MW cy ad J9 A9 nm m0 mem9) → ((∀ j, j ≠ 229 → j ≠ 230 → j ≠ 234 → A9 j = A j) ∧ (∀ i, i ≠ e9 → A9 229 i = A 229 i ∧ A9 230 i = A 230 i) ∧ A9 229 e9 = nI u ∧ A9 230 e9 = nI t1) → (a < a1 ∧ a1 ≤ L ∧ u + t1 ≤ a1 ∧ t1 ≤ 4) → (furS T L ba e9 (4 - t1) a1 (u + t1) A9 = furS T L ba e9 3 a12 (u + 1) A69) → (va_P D vcl (fw n ad mem9) H) → (va_D (Az sz) (fw n ad mem9)) → (va_S (Az sz) s.heap H locs) → (lv_has ls 6 [(0, .ref (ad 224)), (1, .int (nI e9)), (2, .int (fro)), (3, .int (ba))]) → W p l e (headSpec (Cond.code y_Mo_numbers c_Mo_numbers 6 none :: tg) ({ frames := 4, cells := 0, slots := 0, locals := 120 } : Room)).room s m [.ref (ad 224), .int (nI e9), .int (fro), .int (ba)].toArray below meth c H locs 0 0 (MQ below (va_Qv (fun mem' => ∃ J' A' nm', MW cy ad J' A' nm' m0 mem' ∧ Res9 L G T a J' A' nm' (plS R (e9 + 1) f e9 nm (numsS T L a u e9 ba A))) (PP D n ad) (Az sz)) [.ref (ad 224), .int (nI e9), .int (fro), .int (ba)].toArray s 0 0 (Az sz)) (F0 m 116 ls []) := by
          intro d90
          induction d90 with
          | zero => intro mem9 J9 A9 a1 t1 ls H locs hmeas97; exact absurd hmeas97 (Nat.not_lt_zero _)
          | succ d90 ih96 =>
            intro mem9 J9 A9 a1 t1 ls H locs hmeas97 hz91 hz92 hz93 hz94 hz95 hP hD hS hl
            obtain ⟨g98, g99, g100, g101, g102, g103, g104, g105⟩ := hz91.1
            obtain ⟨r1, r2, r3, r4⟩ := hz93
            have tT106 : A9 225 = T := (r1 225 (by decide) (by decide) (by decide)).trans hT
            have hr4 : A9 228 (e9) = 4 := by rw [r1 228 (by decide) (by decide) (by decide)]; exact h4
            refine lv_aload_n Bx.1 Bx.2.1 d_Mo_numbers_116 rfl (lv_at hl 0 rfl) ?_
            refine f_get Bx hP (by omega) hz92.1 rfl inMo 17 (by decide) kw_673 rfl rfl d_Mo_numbers_117 ?_
            rw [g101]
            refine lv_if_ne Bx.1 Bx.2.1 d_Mo_numbers_120 rfl (fun hb107 => ?_) (fun hb107 => ?_)
            · exact absurd hb107 (by decide)
            · refine lv_aload_n Bx.1 Bx.2.1 d_Mo_numbers_123 rfl (lv_at hl 0 rfl) ?_
              refine f_get Bx hP (by omega) hz92.1 rfl inMo 8 (by decide) kw_664 rfl rfl d_Mo_numbers_124 ?_
              refine lv_iload_n Bx.1 Bx.2.1 d_Mo_numbers_127 rfl (lv_at hl 1 rfl) ?_
              refine f_iald Bx hP (by omega) (show mem9 228 = .inl (cy 1, 100, .inl (A9 228)) from hz92.2.2.1 228 (by decide) (by decide) (by decide)) (vp_in_nI (n := e9) (by omega) (by decide)) d_Mo_numbers_128 ?_
              rw [nI_clamp (n := e9) (by omega)]
              rw [hr4]
              refine lv_iconst (v := 4) Bx.1 Bx.2.1 d_Mo_numbers_129 (by decide) ?_
              refine lv_icmp_ne Bx.1 Bx.2.1 d_Mo_numbers_130 rfl (fun hb108 => ?_) (fun hb108 => ?_)
              · exact absurd hb108 (by decide)
              · refine lv_aload_n Bx.1 Bx.2.1 d_Mo_numbers_133 rfl (lv_at hl 0 rfl) ?_
                refine f_callVi (na := 0) (As := []) (rest := []) Bx hml E hP hD hS (by omega) hz92.1 rfl (m_Mo_here l hn hz92 g98 hL g100 (by omega)) kw_778 kw_780 sel_Mo_here kw_8 kw_781 (by decide +kernel) ⟨rfl, rfl⟩ ⟨Nat.le_of_ble_eq_true rfl, Nat.le_of_ble_eq_true rfl⟩ rfl hl.1 (Nat.le_of_ble_eq_true rfl) d_Mo_numbers_134 ⟨Nat.le_of_ble_eq_true rfl, Nat.le_of_ble_eq_true rfl⟩ (fun r109 mem110 H locs hq hP hS => ?_)
                have hD : va_D (Az sz) (fw n ad mem110) := fw_D hD
                obtain ⟨hre, hq⟩ := hq
                rw [hq] at hP hD
                subst hre
                rw [show hereF L (A9 225) (a1) = hereF L T (a1) by rw [tT106]]
                refine lv_bipush (v := 46) Bx.1 Bx.2.1 d_Mo_numbers_137 (by decide) ?_
                refine lv_icmp_ne Bx.1 Bx.2.1 d_Mo_numbers_139 rfl (fun hb111 => ?_) (fun hb111 => ?_)
                · refine lv_aload_n Bx.1 Bx.2.1 d_Mo_numbers_200 rfl (lv_at hl 0 rfl) ?_
                  refine f_get Bx hP (by omega) hz92.1 rfl inMo 17 (by decide) kw_673 rfl rfl d_Mo_numbers_201 ?_
                  rw [g101]
                  refine lv_if_ne Bx.1 Bx.2.1 d_Mo_numbers_204 rfl (fun hb112 => ?_) (fun hb112 => ?_)
                  · exact absurd hb112 (by decide)
                  · refine lv_aload_n Bx.1 Bx.2.1 d_Mo_numbers_207 rfl (lv_at hl 0 rfl) ?_
                    refine lv_iload_n Bx.1 Bx.2.1 d_Mo_numbers_208 rfl (lv_at hl 1 rfl) ?_
                    have hno := hI.note (A' := A9) (e := e9) (u' := u + t1) (by omega) (fun j q8 q9 q0 q1 q4 => r1 j q9 q0 q4) (fun i hi => ⟨by rw [r1 228 (by decide) (by decide) (by decide)], (r2 i hi).1, (r2 i hi).2⟩) (Or.inl (by rw [r1 228 (by decide) (by decide) (by decide)])) (by rw [hr4]; decide) (fun _ => ⟨u, t1, r3, r4, by omega⟩)
                    have hrr2 : A9 239 f = -1 ∨ ∃ r, A9 239 f = nI r ∧ fs f < r ∧ r < e9 := by rw [r1 239 (by decide) (by decide) (by decide)]; exact hrr
                    have hC2 : CL e9 A9 := fun i hi => by rw [r1 232 (by decide) (by decide) (by decide), r1 233 (by decide) (by decide) (by decide)]; exact hC i hi
                    refine f_callVv (na := 1) (As := [.int (nI e9)]) (rest := []) Bx hml E hP hD hS (by omega) hz92.1 rfl (m_Mo_placedX l hn hz92 (e9 := e9) g105 (by omega) (by omega) hno (by omega) hse hrr2 hC2) kw_834 kw_836 sel_Mo_placed kw_8 kw_837 (by decide +kernel) ⟨rfl, rfl⟩ ⟨Nat.le_of_ble_eq_true rfl, Nat.le_of_ble_eq_true rfl⟩ rfl hl.1 (Nat.le_of_ble_eq_true rfl) d_Mo_numbers_209 ⟨Nat.le_of_ble_eq_true rfl, Nat.le_of_ble_eq_true rfl⟩ (fun mem114 H locs hq hP hS => ?_)
                    have hD : va_D (Az sz) (fw n ad mem114) := fw_D hD
                    obtain ⟨hW116, hinv117, h39118, hj119⟩ := hq
                    obtain ⟨A115, eA115⟩ : ∃ z, z = plcS A9 (f) (e9) := ⟨_, rfl⟩
                    rw [← eA115] at hW116 hinv117 h39118 hj119
                    have tT120 : A115 225 = T := (hj119 225 (by decide) (by decide) (by decide)).trans tT106
                    exact W.vret hx hb hr (fun t ht hW => ⟨⟨mem114, rfl, ⟨J9, A115, nm, hW116, Or.inr ⟨a1, u + t1, R, e9 + 1, f, false, by omega, by rw [numsS_fu hsp30 hb88, ← hA0e, ← hz95, furS_no hb111, eA115]; rfl, ⟨g98, g99, g100, g101, g102, g103, g104, g105⟩, ⟨by omega, by omega, by omega, by omega, by omega, by omega⟩, tT120, hz91.2, fc, fs, ft, hinv117.qT, h39118⟩⟩, by show va_P _ _ _ t.heap; rw [ht]; exact hP⟩, hS.F ht⟩) hS.2.2 d_Mo_numbers_212
                · have hlt121 := hereF_lt (by rw [hb111]; decide)
                  refine lv_aload_n Bx.1 Bx.2.1 d_Mo_numbers_142 rfl (lv_at hl 0 rfl) ?_
                  refine f_get Bx hP (by omega) hz92.1 rfl inMo 10 (by decide) kw_666 rfl rfl d_Mo_numbers_143 ?_
                  refine lv_iload_n Bx.1 Bx.2.1 d_Mo_numbers_146 rfl (lv_at hl 1 rfl) ?_
                  refine f_iald Bx hP (by omega) (show mem9 230 = .inl (cy 1, 100, .inl (A9 230)) from hz92.2.2.1 230 (by decide) (by decide) (by decide)) (vp_in_nI (n := e9) (by omega) (by decide)) d_Mo_numbers_147 ?_
                  rw [nI_clamp (n := e9) (by omega)]
                  rw [r4]
                  refine lv_iconst (v := 4) Bx.1 Bx.2.1 d_Mo_numbers_148 (by decide) ?_
                  refine lv_icmp_ge Bx.1 Bx.2.1 d_Mo_numbers_149 rfl (fun hb122 => ?_) (fun hb122 => ?_)
                  · have hN123 : 4 ≤ t1 := (nI_leI (by omega) (by omega)).mp (show nI (4) ≤ nI (t1) from hb122)
                    refine lv_aload_n Bx.1 Bx.2.1 d_Mo_numbers_200 rfl (lv_at hl 0 rfl) ?_
                    refine f_get Bx hP (by omega) hz92.1 rfl inMo 17 (by decide) kw_673 rfl rfl d_Mo_numbers_201 ?_
                    rw [g101]
                    refine lv_if_ne Bx.1 Bx.2.1 d_Mo_numbers_204 rfl (fun hb124 => ?_) (fun hb124 => ?_)
                    · exact absurd hb124 (by decide)
                    · refine lv_aload_n Bx.1 Bx.2.1 d_Mo_numbers_207 rfl (lv_at hl 0 rfl) ?_
                      refine lv_iload_n Bx.1 Bx.2.1 d_Mo_numbers_208 rfl (lv_at hl 1 rfl) ?_
                      have hno := hI.note (A' := A9) (e := e9) (u' := u + t1) (by omega) (fun j q8 q9 q0 q1 q4 => r1 j q9 q0 q4) (fun i hi => ⟨by rw [r1 228 (by decide) (by decide) (by decide)], (r2 i hi).1, (r2 i hi).2⟩) (Or.inl (by rw [r1 228 (by decide) (by decide) (by decide)])) (by rw [hr4]; decide) (fun _ => ⟨u, t1, r3, r4, by omega⟩)
                      have hrr2 : A9 239 f = -1 ∨ ∃ r, A9 239 f = nI r ∧ fs f < r ∧ r < e9 := by rw [r1 239 (by decide) (by decide) (by decide)]; exact hrr
                      have hC2 : CL e9 A9 := fun i hi => by rw [r1 232 (by decide) (by decide) (by decide), r1 233 (by decide) (by decide) (by decide)]; exact hC i hi
                      refine f_callVv (na := 1) (As := [.int (nI e9)]) (rest := []) Bx hml E hP hD hS (by omega) hz92.1 rfl (m_Mo_placedX l hn hz92 (e9 := e9) g105 (by omega) (by omega) hno (by omega) hse hrr2 hC2) kw_834 kw_836 sel_Mo_placed kw_8 kw_837 (by decide +kernel) ⟨rfl, rfl⟩ ⟨Nat.le_of_ble_eq_true rfl, Nat.le_of_ble_eq_true rfl⟩ rfl hl.1 (Nat.le_of_ble_eq_true rfl) d_Mo_numbers_209 ⟨Nat.le_of_ble_eq_true rfl, Nat.le_of_ble_eq_true rfl⟩ (fun mem126 H locs hq hP hS => ?_)
                      have hD : va_D (Az sz) (fw n ad mem126) := fw_D hD
                      obtain ⟨hW128, hinv129, h39130, hj131⟩ := hq
                      obtain ⟨A127, eA127⟩ : ∃ z, z = plcS A9 (f) (e9) := ⟨_, rfl⟩
                      rw [← eA127] at hW128 hinv129 h39130 hj131
                      have tT132 : A127 225 = T := (hj131 225 (by decide) (by decide) (by decide)).trans tT106
                      exact W.vret hx hb hr (fun t ht hW => ⟨⟨mem126, rfl, ⟨J9, A127, nm, hW128, Or.inr ⟨a1, u + t1, R, e9 + 1, f, false, by omega, by rw [numsS_fu hsp30 hb88, ← hA0e, ← hz95, (show furS T L ba e9 (4 - t1) a1 (u + t1) A9 = some (a1, u + t1, A9) by rw [show 4 - t1 = 0 by omega]; rfl), eA127]; rfl, ⟨g98, g99, g100, g101, g102, g103, g104, g105⟩, ⟨by omega, by omega, by omega, by omega, by omega, by omega⟩, tT132, hz91.2, fc, fs, ft, hinv129.qT, h39130⟩⟩, by show va_P _ _ _ t.heap; rw [ht]; exact hP⟩, hS.F ht⟩) hS.2.2 d_Mo_numbers_212
                  · have hN133 : ¬ 4 ≤ t1 := fun q9 => hb122 (show nI (4) ≤ nI (t1) from (nI_leI (by omega) (by omega)).mpr q9)
                    refine lv_aload_n Bx.1 Bx.2.1 d_Mo_numbers_152 rfl (lv_at hl 0 rfl) ?_
                    refine lv_dup Bx.1 Bx.2.1 d_Mo_numbers_153 rfl ?_
                    refine f_get Bx hP (by omega) hz92.1 rfl inMo 16 (by decide) kw_672 rfl rfl d_Mo_numbers_154 ?_
                    rw [g100]
                    refine lv_iconst (v := 1) Bx.1 Bx.2.1 d_Mo_numbers_157 (by decide) ?_
                    refine lv_iadd Bx.1 Bx.2.1 d_Mo_numbers_158 ?_
                    rw [show nI a1 + 1 = nI (a1 + 1) from nI_add (a1) (1)]
                    refine f_put Bx hP hD hS (by omega) hz92.1 rfl inMo tyMo okMo nmMo 16 (by decide) kw_672 rfl rfl rfl rfl (Nat.le_of_ble_eq_true rfl) d_Mo_numbers_159 (fun H locs hP hS => ?_)
                    obtain ⟨J134, eJ134⟩ : ∃ z, z = va_up J9 16 (nI (a1 + 1)) := ⟨_, rfl⟩
                    obtain ⟨mem135, e_mem135⟩ : ∃ z, z = va_up mem9 224 (moC ad J134) := ⟨_, rfl⟩
                    have hP : va_P D vcl (fw n ad mem135) H := by rw [e_mem135, eJ134]; exact hP
                    have hD : va_D (Az sz) (fw n ad mem135) := fw_D hD
                    have hW136 : MW cy ad J134 A9 nm m0 mem135 := by rw [e_mem135]; exact hz92.upJ (by rw [eJ134]; exact va_up_ne _ _ (by decide))
                    have kk137 : J134 1 = nI L := by rw [eJ134]; exact g98
                    have kk138 : J134 24 = nI G := by rw [eJ134]; exact g99
                    have kk139 : J134 17 = 0 := by rw [eJ134]; exact g101
                    have kk140 : J134 14 = nI (u + t1) := by rw [eJ134]; exact g102
                    have kk141 : J134 4 = nI R := by rw [eJ134]; exact g103
                    have kk142 : J134 7 = nI (e9 + 1) := by rw [eJ134]; exact g104
                    have kk143 : J134 18 = nI (f + 1) := by rw [eJ134]; exact g105
                    have kk144 : J134 28 = 0 := by rw [eJ134]; exact hz91.2
                    have kk145 : J134 16 = nI (a1 + 1) := by rw [eJ134, va_up_self]
                    refine lv_aload_n Bx.1 Bx.2.1 d_Mo_numbers_162 rfl (lv_at hl 0 rfl) ?_
                    refine f_get Bx hP (by omega) hW136.1 rfl inMo 15 (by decide) kw_671 rfl rfl d_Mo_numbers_163 ?_
                    refine lv_aload_n Bx.1 Bx.2.1 d_Mo_numbers_166 rfl (lv_at hl 0 rfl) ?_
                    refine f_get Bx hP (by omega) hW136.1 rfl inMo 14 (by decide) kw_670 rfl rfl d_Mo_numbers_167 ?_
                    rw [kk140]
                    refine lv_aload_n Bx.1 Bx.2.1 d_Mo_numbers_170 rfl (lv_at hl 0 rfl) ?_
                    refine lv_iload_n Bx.1 Bx.2.1 d_Mo_numbers_171 rfl (lv_at hl 3 rfl) ?_
                    refine lv_iload_n Bx.1 Bx.2.1 d_Mo_numbers_172 rfl (lv_at hl 2 rfl) ?_
                    refine f_callVi (na := 2) (As := [.int (ba), .int (fro)]) (rest := [.int (nI (u + t1)), .ref (ad 234)]) Bx hml E hP hD hS (by omega) hW136.1 rfl (m_Mo_numberX l hn hW136 kk137 hL kk145 (by omega) kk139) kw_846 kw_848 sel_Mo_number kw_8 kw_849 (by decide +kernel) ⟨rfl, rfl⟩ ⟨Nat.le_of_ble_eq_true rfl, Nat.le_of_ble_eq_true rfl⟩ rfl hl.1 (Nat.le_of_ble_eq_true rfl) d_Mo_numbers_173 ⟨Nat.le_of_ble_eq_true rfl, Nat.le_of_ble_eq_true rfl⟩ (fun r146 mem147 H locs hq hP hS => ?_)
                    have hD : va_D (Az sz) (fw n ad mem147) := fw_D hD
                    rw [tT106] at hq
                    obtain ⟨a149, ea157⟩ : ∃ z, z = a1 + 1 + (numN T L ba (if ba = 10 then 3 else 2) (a1 + 1) 0).2 := ⟨_, rfl⟩
                    obtain ⟨v150, ev158⟩ : ∃ z, z = (numN T L ba (if ba = 10 then 3 else 2) (a1 + 1) 0).1 := ⟨_, rfl⟩
                    rw [← ea157, ← ev158] at hq
                    obtain ⟨J148, hW151, hg152, hg153, kk154, hfr155, er159, hbd156⟩ := hq
                    subst er159
                    have kk160 : J148 1 = nI L := (show J148 1 = J134 1 from hfr155 1 (by decide) (by decide) (by decide)).trans kk137
                    have kk161 : J148 24 = nI G := (show J148 24 = J134 24 from hfr155 24 (by decide) (by decide) (by decide)).trans kk138
                    have kk162 : J148 14 = nI (u + t1) := (show J148 14 = J134 14 from hfr155 14 (by decide) (by decide) (by decide)).trans kk140
                    have kk163 : J148 4 = nI R := (show J148 4 = J134 4 from hfr155 4 (by decide) (by decide) (by decide)).trans kk141
                    have kk164 : J148 7 = nI (e9 + 1) := (show J148 7 = J134 7 from hfr155 7 (by decide) (by decide) (by decide)).trans kk142
                    have kk165 : J148 18 = nI (f + 1) := (show J148 18 = J134 18 from hfr155 18 (by decide) (by decide) (by decide)).trans kk143
                    have kk166 : J148 28 = 0 := (show J148 28 = J134 28 from hfr155 28 (by decide) (by decide) (by decide)).trans kk144
                    rcases hbd156 with ⟨hsp167, hbad168⟩ | ⟨hsp167, kk169, hlt170⟩
                    · refine f_iast (x := r146) (i := nI (u + t1)) Bx hP hD hS (by omega) (show mem147 234 = .inl (cy 1, 400, .inl (A9 234)) from hW151.2.2.1 234 (by decide) (by decide) (by decide)) (vp_in_nI (n := u + t1) (by omega) (by decide)) d_Mo_numbers_176 (fun H locs hP hS => ?_)
                      rw [nI_clamp (n := u + t1) (by omega)] at hP
                      obtain ⟨A171, eA171⟩ : ∃ z, z = va_up A9 234 (upd (A9 234) (u + t1) (r146)) := ⟨_, rfl⟩
                      obtain ⟨mem172, e_mem172⟩ : ∃ z, z = va_up mem147 234 (.inl (cy 1, 400, .inl (upd (A9 234) (u + t1) (r146)))) := ⟨_, rfl⟩
                      have hP : va_P D vcl (fw n ad mem172) H := by rw [e_mem172]; exact hP
                      have hD : va_D (Az sz) (fw n ad mem172) := fw_D hD
                      have hW173 : MW cy ad J148 A171 nm m0 mem172 := by rw [e_mem172, eA171]; exact hW151.upA (j := 234) (by decide) (by decide) (by decide) (Or.inl (by decide))
                      have tT174 : A171 225 = T := by rw [eA171]; exact tT106
                      refine lv_aload_n Bx.1 Bx.2.1 d_Mo_numbers_177 rfl (lv_at hl 0 rfl) ?_
                      refine lv_dup Bx.1 Bx.2.1 d_Mo_numbers_178 rfl ?_
                      refine f_get Bx hP (by omega) hW173.1 rfl inMo 14 (by decide) kw_670 rfl rfl d_Mo_numbers_179 ?_
                      rw [kk162]
                      refine lv_iconst (v := 1) Bx.1 Bx.2.1 d_Mo_numbers_182 (by decide) ?_
                      refine lv_iadd Bx.1 Bx.2.1 d_Mo_numbers_183 ?_
                      rw [show nI (u + t1) + 1 = nI (u + t1 + 1) from nI_add (u + t1) (1)]
                      refine f_put Bx hP hD hS (by omega) hW173.1 rfl inMo tyMo okMo nmMo 14 (by decide) kw_670 rfl rfl rfl rfl (Nat.le_of_ble_eq_true rfl) d_Mo_numbers_184 (fun H locs hP hS => ?_)
                      obtain ⟨J175, eJ175⟩ : ∃ z, z = va_up J148 14 (nI (u + t1 + 1)) := ⟨_, rfl⟩
                      obtain ⟨mem176, e_mem176⟩ : ∃ z, z = va_up mem172 224 (moC ad J175) := ⟨_, rfl⟩
                      have hP : va_P D vcl (fw n ad mem176) H := by rw [e_mem176, eJ175]; exact hP
                      have hD : va_D (Az sz) (fw n ad mem176) := fw_D hD
                      have hW177 : MW cy ad J175 A171 nm m0 mem176 := by rw [e_mem176]; exact hW173.upJ (by rw [eJ175]; exact va_up_ne _ _ (by decide))
                      have kk178 : J175 1 = nI L := by rw [eJ175]; exact kk160
                      have kk179 : J175 24 = nI G := by rw [eJ175]; exact kk161
                      have kk180 : J175 4 = nI R := by rw [eJ175]; exact kk163
                      have kk181 : J175 7 = nI (e9 + 1) := by rw [eJ175]; exact kk164
                      have kk182 : J175 18 = nI (f + 1) := by rw [eJ175]; exact kk165
                      have kk183 : J175 28 = 0 := by rw [eJ175]; exact kk166
                      have kk184 : J175 16 = nI a149 := by rw [eJ175]; exact kk154
                      have kk185 : J175 14 = nI (u + t1 + 1) := by rw [eJ175, va_up_self]
                      have bd186 : b12 (J175 17) := by rw [eJ175]; exact hbad168
                      refine lv_aload_n Bx.1 Bx.2.1 d_Mo_numbers_187 rfl (lv_at hl 0 rfl) ?_
                      refine f_get Bx hP (by omega) hW177.1 rfl inMo 10 (by decide) kw_666 rfl rfl d_Mo_numbers_188 ?_
                      refine lv_iload_n Bx.1 Bx.2.1 d_Mo_numbers_191 rfl (lv_at hl 1 rfl) ?_
                      refine lv_dup2_11 Bx.1 Bx.2.1 d_Mo_numbers_192 rfl rfl ?_
                      refine f_iald Bx hP (by omega) (show mem176 230 = .inl (cy 1, 100, .inl (A171 230)) from hW177.2.2.1 230 (by decide) (by decide) (by decide)) (vp_in_nI (n := e9) (by omega) (by decide)) d_Mo_numbers_193 ?_
                      rw [nI_clamp (n := e9) (by omega)]
                      rw [show A171 230 (e9) = nI t1 by simp [eA171, va_up, r4]]
                      refine lv_iconst (v := 1) Bx.1 Bx.2.1 d_Mo_numbers_194 (by decide) ?_
                      refine lv_iadd Bx.1 Bx.2.1 d_Mo_numbers_195 ?_
                      rw [show nI t1 + 1 = nI (t1 + 1) from nI_add (t1) (1)]
                      refine f_iast (x := nI (t1 + 1)) (i := nI (e9)) Bx hP hD hS (by omega) (show mem176 230 = .inl (cy 1, 100, .inl (A171 230)) from hW177.2.2.1 230 (by decide) (by decide) (by decide)) (vp_in_nI (n := e9) (by omega) (by decide)) d_Mo_numbers_196 (fun H locs hP hS => ?_)
                      rw [nI_clamp (n := e9) (by omega)] at hP
                      obtain ⟨A187, eA187⟩ : ∃ z, z = va_up A171 230 (upd (A171 230) (e9) (nI (t1 + 1))) := ⟨_, rfl⟩
                      obtain ⟨mem188, e_mem188⟩ : ∃ z, z = va_up mem176 230 (.inl (cy 1, 100, .inl (upd (A171 230) (e9) (nI (t1 + 1))))) := ⟨_, rfl⟩
                      have hP : va_P D vcl (fw n ad mem188) H := by rw [e_mem188]; exact hP
                      have hD : va_D (Az sz) (fw n ad mem188) := fw_D hD
                      have hW189 : MW cy ad J175 A187 nm m0 mem188 := by rw [e_mem188, eA187]; exact hW177.upA (j := 230) (by decide) (by decide) (by decide) (Or.inl (by decide))
                      have tT190 : A187 225 = T := by rw [eA187]; exact tT174
                      refine lv_goto Bx.1 Bx.2.1 d_Mo_numbers_197 rfl ?_
                      refine lv_aload_n Bx.1 Bx.2.1 d_Mo_numbers_116 rfl (lv_at hl 0 rfl) ?_
                      refine f_get Bx hP (by omega) hW189.1 rfl inMo 17 (by decide) kw_673 rfl rfl d_Mo_numbers_117 ?_
                      refine lv_if_ne Bx.1 Bx.2.1 d_Mo_numbers_120 rfl (fun hb191 => ?_) (fun hb191 => ?_)
                      · refine lv_aload_n Bx.1 Bx.2.1 d_Mo_numbers_200 rfl (lv_at hl 0 rfl) ?_
                        refine f_get Bx hP (by omega) hW189.1 rfl inMo 17 (by decide) kw_673 rfl rfl d_Mo_numbers_201 ?_
                        refine lv_if_ne Bx.1 Bx.2.1 d_Mo_numbers_204 rfl (fun hb192 => ?_) (fun hb192 => ?_)
                        · exact W.vret hx hb hr (fun t ht hW => ⟨⟨mem188, rfl, ⟨J175, A187, nm, hW189, Or.inl ⟨⟨kk178, kk179, tT190, bd186, _, by omega, kk184⟩, by rw [numsS_fu hsp30 hb88, ← hA0e, ← hz95, show 4 - t1 = (4 - (t1 + 1)) + 1 by omega, furS_bad hb111 hsp167]; rfl⟩⟩, by show va_P _ _ _ t.heap; rw [ht]; exact hP⟩, hS.F ht⟩) hS.2.2 d_Mo_numbers_212
                        · exact absurd hb192 bd186.ne
                      · exact absurd hb191 bd186.ne
                    · refine f_iast (x := r146) (i := nI (u + t1)) Bx hP hD hS (by omega) (show mem147 234 = .inl (cy 1, 400, .inl (A9 234)) from hW151.2.2.1 234 (by decide) (by decide) (by decide)) (vp_in_nI (n := u + t1) (by omega) (by decide)) d_Mo_numbers_176 (fun H locs hP hS => ?_)
                      rw [nI_clamp (n := u + t1) (by omega)] at hP
                      obtain ⟨A193, eA193⟩ : ∃ z, z = va_up A9 234 (upd (A9 234) (u + t1) (r146)) := ⟨_, rfl⟩
                      obtain ⟨mem194, e_mem194⟩ : ∃ z, z = va_up mem147 234 (.inl (cy 1, 400, .inl (upd (A9 234) (u + t1) (r146)))) := ⟨_, rfl⟩
                      have hP : va_P D vcl (fw n ad mem194) H := by rw [e_mem194]; exact hP
                      have hD : va_D (Az sz) (fw n ad mem194) := fw_D hD
                      have hW195 : MW cy ad J148 A193 nm m0 mem194 := by rw [e_mem194, eA193]; exact hW151.upA (j := 234) (by decide) (by decide) (by decide) (Or.inl (by decide))
                      have tT196 : A193 225 = T := by rw [eA193]; exact tT106
                      refine lv_aload_n Bx.1 Bx.2.1 d_Mo_numbers_177 rfl (lv_at hl 0 rfl) ?_
                      refine lv_dup Bx.1 Bx.2.1 d_Mo_numbers_178 rfl ?_
                      refine f_get Bx hP (by omega) hW195.1 rfl inMo 14 (by decide) kw_670 rfl rfl d_Mo_numbers_179 ?_
                      rw [kk162]
                      refine lv_iconst (v := 1) Bx.1 Bx.2.1 d_Mo_numbers_182 (by decide) ?_
                      refine lv_iadd Bx.1 Bx.2.1 d_Mo_numbers_183 ?_
                      rw [show nI (u + t1) + 1 = nI (u + t1 + 1) from nI_add (u + t1) (1)]
                      refine f_put Bx hP hD hS (by omega) hW195.1 rfl inMo tyMo okMo nmMo 14 (by decide) kw_670 rfl rfl rfl rfl (Nat.le_of_ble_eq_true rfl) d_Mo_numbers_184 (fun H locs hP hS => ?_)
                      obtain ⟨J197, eJ197⟩ : ∃ z, z = va_up J148 14 (nI (u + t1 + 1)) := ⟨_, rfl⟩
                      obtain ⟨mem198, e_mem198⟩ : ∃ z, z = va_up mem194 224 (moC ad J197) := ⟨_, rfl⟩
                      have hP : va_P D vcl (fw n ad mem198) H := by rw [e_mem198, eJ197]; exact hP
                      have hD : va_D (Az sz) (fw n ad mem198) := fw_D hD
                      have hW199 : MW cy ad J197 A193 nm m0 mem198 := by rw [e_mem198]; exact hW195.upJ (by rw [eJ197]; exact va_up_ne _ _ (by decide))
                      have kk200 : J197 1 = nI L := by rw [eJ197]; exact kk160
                      have kk201 : J197 24 = nI G := by rw [eJ197]; exact kk161
                      have kk202 : J197 4 = nI R := by rw [eJ197]; exact kk163
                      have kk203 : J197 7 = nI (e9 + 1) := by rw [eJ197]; exact kk164
                      have kk204 : J197 18 = nI (f + 1) := by rw [eJ197]; exact kk165
                      have kk205 : J197 28 = 0 := by rw [eJ197]; exact kk166
                      have kk206 : J197 16 = nI a149 := by rw [eJ197]; exact kk154
                      have kk207 : J197 17 = 0 := by rw [eJ197]; exact kk169
                      have kk208 : J197 14 = nI (u + t1 + 1) := by rw [eJ197, va_up_self]
                      refine lv_aload_n Bx.1 Bx.2.1 d_Mo_numbers_187 rfl (lv_at hl 0 rfl) ?_
                      refine f_get Bx hP (by omega) hW199.1 rfl inMo 10 (by decide) kw_666 rfl rfl d_Mo_numbers_188 ?_
                      refine lv_iload_n Bx.1 Bx.2.1 d_Mo_numbers_191 rfl (lv_at hl 1 rfl) ?_
                      refine lv_dup2_11 Bx.1 Bx.2.1 d_Mo_numbers_192 rfl rfl ?_
                      refine f_iald Bx hP (by omega) (show mem198 230 = .inl (cy 1, 100, .inl (A193 230)) from hW199.2.2.1 230 (by decide) (by decide) (by decide)) (vp_in_nI (n := e9) (by omega) (by decide)) d_Mo_numbers_193 ?_
                      rw [nI_clamp (n := e9) (by omega)]
                      rw [show A193 230 (e9) = nI t1 by simp [eA193, va_up, r4]]
                      refine lv_iconst (v := 1) Bx.1 Bx.2.1 d_Mo_numbers_194 (by decide) ?_
                      refine lv_iadd Bx.1 Bx.2.1 d_Mo_numbers_195 ?_
                      rw [show nI t1 + 1 = nI (t1 + 1) from nI_add (t1) (1)]
                      refine f_iast (x := nI (t1 + 1)) (i := nI (e9)) Bx hP hD hS (by omega) (show mem198 230 = .inl (cy 1, 100, .inl (A193 230)) from hW199.2.2.1 230 (by decide) (by decide) (by decide)) (vp_in_nI (n := e9) (by omega) (by decide)) d_Mo_numbers_196 (fun H locs hP hS => ?_)
                      rw [nI_clamp (n := e9) (by omega)] at hP
                      obtain ⟨A209, eA209⟩ : ∃ z, z = va_up A193 230 (upd (A193 230) (e9) (nI (t1 + 1))) := ⟨_, rfl⟩
                      obtain ⟨mem210, e_mem210⟩ : ∃ z, z = va_up mem198 230 (.inl (cy 1, 100, .inl (upd (A193 230) (e9) (nI (t1 + 1))))) := ⟨_, rfl⟩
                      have hP : va_P D vcl (fw n ad mem210) H := by rw [e_mem210]; exact hP
                      have hD : va_D (Az sz) (fw n ad mem210) := fw_D hD
                      have hW211 : MW cy ad J197 A209 nm m0 mem210 := by rw [e_mem210, eA209]; exact hW199.upA (j := 230) (by decide) (by decide) (by decide) (Or.inl (by decide))
                      have tT212 : A209 225 = T := by rw [eA209]; exact tT196
                      refine lv_goto Bx.1 Bx.2.1 d_Mo_numbers_197 rfl ?_
                      have hrel : (∀ j, j ≠ 229 → j ≠ 230 → j ≠ 234 → A209 j = A j) ∧ (∀ i, i ≠ e9 → A209 229 i = A 229 i ∧ A209 230 i = A 230 i) ∧ A209 229 e9 = nI u ∧ A209 230 e9 = nI (t1 + 1) := ⟨fun j q9 q0 q4 => by simp [eA193, eA209, va_up, q9, q0, q4, r1], fun i hi => by simp [eA193, eA209, va_up, upd, hi, r2], by simp [eA193, eA209, va_up, upd, r3], by simp [eA193, eA209, va_up, upd]⟩
                      have hn14 : J197 14 = nI (u + (t1 + 1)) := kk208
                      have hfu2 : furS T L ba e9 (4 - (t1 + 1)) a149 (u + (t1 + 1)) A209 = furS T L ba e9 3 a12 (u + 1) A69 := by
                        have q9 : A209 = va_up (va_up A9 234 (upd (A9 234) (u + t1) r146)) 230 (upd (A9 230) e9 (A9 230 e9 + 1)) := by rw [eA209, eA193, r4, nI_1]; rfl
                        rw [← hz95, show 4 - t1 = (4 - (t1 + 1)) + 1 by omega, furS_on hb111 hsp167, q9]; rfl
                      exact ih96 mem210 (J197) (A209) (a149) (t1 + 1) _ _ _ (by have := hmeas97; omega) (⟨⟨kk200, kk201, kk206, kk207, hn14, kk202, kk203, kk204⟩, kk205⟩) (hW211) (hrel) (⟨by omega, by omega, by omega, by omega⟩) (hfu2) hP hD hS (lv_sub hl [0, 1, 2, 3] rfl)
        exact loop89 _ mem74 (J73) (A69) (a12) (1) _ _ _ (Nat.lt_succ_self _) (⟨⟨kk76, kk77, kk82, kk83, kk84, kk78, kk79, kk80⟩, kk81⟩) (hW75) (hrel) (⟨by omega, by omega, by omega, by omega⟩) (rfl) hP hD hS (lv_sub hl [1, 2, 3, 4] rfl)
      · have hlt213 := hereF_lt (by rw [hb88]; decide)
        refine lv_aload_n Bx.1 Bx.2.1 d_Mo_numbers_62 rfl (lv_at hl 1 rfl) ?_
        refine lv_dup Bx.1 Bx.2.1 d_Mo_numbers_63 rfl ?_
        refine f_get Bx hP (by omega) hW75.1 rfl inMo 16 (by decide) kw_672 rfl rfl d_Mo_numbers_64 ?_
        rw [kk82]
        refine lv_iconst (v := 1) Bx.1 Bx.2.1 d_Mo_numbers_67 (by decide) ?_
        refine lv_iadd Bx.1 Bx.2.1 d_Mo_numbers_68 ?_
        rw [show nI a12 + 1 = nI (a12 + 1) from nI_add (a12) (1)]
        refine f_put Bx hP hD hS (by omega) hW75.1 rfl inMo tyMo okMo nmMo 16 (by decide) kw_672 rfl rfl rfl rfl (Nat.le_of_ble_eq_true rfl) d_Mo_numbers_69 (fun H locs hP hS => ?_)
        obtain ⟨J214, eJ214⟩ : ∃ z, z = va_up J73 16 (nI (a12 + 1)) := ⟨_, rfl⟩
        obtain ⟨mem215, e_mem215⟩ : ∃ z, z = va_up mem74 224 (moC ad J214) := ⟨_, rfl⟩
        have hP : va_P D vcl (fw n ad mem215) H := by rw [e_mem215, eJ214]; exact hP
        have hD : va_D (Az sz) (fw n ad mem215) := fw_D hD
        have hW216 : MW cy ad J214 A69 nm m0 mem215 := by rw [e_mem215]; exact hW75.upJ (by rw [eJ214]; exact va_up_ne _ _ (by decide))
        have kk217 : J214 1 = nI L := by rw [eJ214]; exact kk76
        have kk218 : J214 24 = nI G := by rw [eJ214]; exact kk77
        have kk219 : J214 4 = nI R := by rw [eJ214]; exact kk78
        have kk220 : J214 7 = nI (e9 + 1) := by rw [eJ214]; exact kk79
        have kk221 : J214 18 = nI (f + 1) := by rw [eJ214]; exact kk80
        have kk222 : J214 28 = 0 := by rw [eJ214]; exact kk81
        have kk223 : J214 17 = 0 := by rw [eJ214]; exact kk83
        have kk224 : J214 14 = nI (u + 1) := by rw [eJ214]; exact kk84
        have kk225 : J214 16 = nI (a12 + 1) := by rw [eJ214, va_up_self]
        refine lv_aload_n Bx.1 Bx.2.1 d_Mo_numbers_72 rfl (lv_at hl 1 rfl) ?_
        refine lv_iload_n Bx.1 Bx.2.1 d_Mo_numbers_73 rfl (lv_at hl 4 rfl) ?_
        refine lv_iload_n Bx.1 Bx.2.1 d_Mo_numbers_74 rfl (lv_at hl 3 rfl) ?_
        refine f_callVi (na := 2) (As := [.int (ba), .int (fro)]) (rest := []) Bx hml E hP hD hS (by omega) hW216.1 rfl (m_Mo_numberX l hn hW216 kk217 hL kk225 (by omega) kk223) kw_846 kw_848 sel_Mo_number kw_8 kw_849 (by decide +kernel) ⟨rfl, rfl⟩ ⟨Nat.le_of_ble_eq_true rfl, Nat.le_of_ble_eq_true rfl⟩ rfl hl.1 (Nat.le_of_ble_eq_true rfl) d_Mo_numbers_75 ⟨Nat.le_of_ble_eq_true rfl, Nat.le_of_ble_eq_true rfl⟩ (fun r226 mem227 H locs hq hP hS => ?_)
        have hD : va_D (Az sz) (fw n ad mem227) := fw_D hD
        rw [tT72] at hq
        obtain ⟨a229, ea237⟩ : ∃ z, z = a12 + 1 + (numN T L ba (if ba = 10 then 3 else 2) (a12 + 1) 0).2 := ⟨_, rfl⟩
        obtain ⟨v230, ev238⟩ : ∃ z, z = (numN T L ba (if ba = 10 then 3 else 2) (a12 + 1) 0).1 := ⟨_, rfl⟩
        rw [← ea237, ← ev238] at hq
        obtain ⟨J228, hW231, hg232, hg233, kk234, hfr235, er239, hbd236⟩ := hq
        subst er239
        have kk240 : J228 1 = nI L := (show J228 1 = J214 1 from hfr235 1 (by decide) (by decide) (by decide)).trans kk217
        have kk241 : J228 24 = nI G := (show J228 24 = J214 24 from hfr235 24 (by decide) (by decide) (by decide)).trans kk218
        have kk242 : J228 4 = nI R := (show J228 4 = J214 4 from hfr235 4 (by decide) (by decide) (by decide)).trans kk219
        have kk243 : J228 7 = nI (e9 + 1) := (show J228 7 = J214 7 from hfr235 7 (by decide) (by decide) (by decide)).trans kk220
        have kk244 : J228 18 = nI (f + 1) := (show J228 18 = J214 18 from hfr235 18 (by decide) (by decide) (by decide)).trans kk221
        have kk245 : J228 28 = 0 := (show J228 28 = J214 28 from hfr235 28 (by decide) (by decide) (by decide)).trans kk222
        have kk246 : J228 14 = nI (u + 1) := (show J228 14 = J214 14 from hfr235 14 (by decide) (by decide) (by decide)).trans kk224
        rcases hbd236 with ⟨hsp247, hbad248⟩ | ⟨hsp247, kk249, hlt250⟩
        · refine lv_istore (lv' := [(5, .int (r226)), (4, .int (r9)), (0, .ref (ad 224)), (1, .int (nI e9)), (2, .int (fro)), (3, .int (ba))]) Bx.1 Bx.2.1 d_Mo_numbers_78 hl (by decide) rfl (fun ls hl => ?_)
          refine lv_iload Bx.1 Bx.2.1 d_Mo_numbers_80 (lv_at hl 1 rfl) ?_
          refine lv_iload Bx.1 Bx.2.1 d_Mo_numbers_82 (lv_at hl 0 rfl) ?_
          refine lv_icmp_le Bx.1 Bx.2.1 d_Mo_numbers_84 rfl (fun hb251 => ?_) (fun hb251 => ?_)
          · refine lv_aload_n Bx.1 Bx.2.1 d_Mo_numbers_93 rfl (lv_at hl 2 rfl) ?_
            refine f_get Bx hP (by omega) hW231.1 rfl inMo 8 (by decide) kw_664 rfl rfl d_Mo_numbers_94 ?_
            refine lv_iload_n Bx.1 Bx.2.1 d_Mo_numbers_97 rfl (lv_at hl 3 rfl) ?_
            refine lv_iconst (v := 5) Bx.1 Bx.2.1 d_Mo_numbers_98 (by decide) ?_
            refine f_iast (x := 5) (i := nI (e9)) Bx hP hD hS (by omega) (show mem227 228 = .inl (cy 1, 100, .inl (A69 228)) from hW231.2.2.1 228 (by decide) (by decide) (by decide)) (vp_in_nI (n := e9) (by omega) (by decide)) d_Mo_numbers_99 (fun H locs hP hS => ?_)
            rw [nI_clamp (n := e9) (by omega)] at hP
            obtain ⟨A252, eA252⟩ : ∃ z, z = va_up A69 228 (upd (A69 228) (e9) (5)) := ⟨_, rfl⟩
            obtain ⟨mem253, e_mem253⟩ : ∃ z, z = va_up mem227 228 (.inl (cy 1, 100, .inl (upd (A69 228) (e9) (5)))) := ⟨_, rfl⟩
            have hP : va_P D vcl (fw n ad mem253) H := by rw [e_mem253]; exact hP
            have hD : va_D (Az sz) (fw n ad mem253) := fw_D hD
            have hW254 : MW cy ad J228 A252 nm m0 mem253 := by rw [e_mem253, eA252]; exact hW231.upA (j := 228) (by decide) (by decide) (by decide) (Or.inl (by decide))
            have tT255 : A252 225 = T := by rw [eA252]; exact tT72
            refine lv_aload_n Bx.1 Bx.2.1 d_Mo_numbers_100 rfl (lv_at hl 2 rfl) ?_
            refine f_get Bx hP (by omega) hW254.1 rfl inMo 9 (by decide) kw_665 rfl rfl d_Mo_numbers_101 ?_
            refine lv_iload_n Bx.1 Bx.2.1 d_Mo_numbers_104 rfl (lv_at hl 3 rfl) ?_
            refine lv_iload Bx.1 Bx.2.1 d_Mo_numbers_105 (lv_at hl 1 rfl) ?_
            refine f_iast (x := r9) (i := nI (e9)) Bx hP hD hS (by omega) (show mem253 229 = .inl (cy 1, 100, .inl (A252 229)) from hW254.2.2.1 229 (by decide) (by decide) (by decide)) (vp_in_nI (n := e9) (by omega) (by decide)) d_Mo_numbers_107 (fun H locs hP hS => ?_)
            rw [nI_clamp (n := e9) (by omega)] at hP
            obtain ⟨A256, eA256⟩ : ∃ z, z = va_up A252 229 (upd (A252 229) (e9) (r9)) := ⟨_, rfl⟩
            obtain ⟨mem257, e_mem257⟩ : ∃ z, z = va_up mem253 229 (.inl (cy 1, 100, .inl (upd (A252 229) (e9) (r9)))) := ⟨_, rfl⟩
            have hP : va_P D vcl (fw n ad mem257) H := by rw [e_mem257]; exact hP
            have hD : va_D (Az sz) (fw n ad mem257) := fw_D hD
            have hW258 : MW cy ad J228 A256 nm m0 mem257 := by rw [e_mem257, eA256]; exact hW254.upA (j := 229) (by decide) (by decide) (by decide) (Or.inl (by decide))
            have tT259 : A256 225 = T := by rw [eA256]; exact tT255
            refine lv_aload_n Bx.1 Bx.2.1 d_Mo_numbers_108 rfl (lv_at hl 2 rfl) ?_
            refine f_get Bx hP (by omega) hW258.1 rfl inMo 10 (by decide) kw_666 rfl rfl d_Mo_numbers_109 ?_
            refine lv_iload_n Bx.1 Bx.2.1 d_Mo_numbers_112 rfl (lv_at hl 3 rfl) ?_
            refine lv_iload Bx.1 Bx.2.1 d_Mo_numbers_113 (lv_at hl 0 rfl) ?_
            refine f_iast (x := r226) (i := nI (e9)) Bx hP hD hS (by omega) (show mem257 230 = .inl (cy 1, 100, .inl (A256 230)) from hW258.2.2.1 230 (by decide) (by decide) (by decide)) (vp_in_nI (n := e9) (by omega) (by decide)) d_Mo_numbers_115 (fun H locs hP hS => ?_)
            rw [nI_clamp (n := e9) (by omega)] at hP
            obtain ⟨A260, eA260⟩ : ∃ z, z = va_up A256 230 (upd (A256 230) (e9) (r226)) := ⟨_, rfl⟩
            obtain ⟨mem261, e_mem261⟩ : ∃ z, z = va_up mem257 230 (.inl (cy 1, 100, .inl (upd (A256 230) (e9) (r226)))) := ⟨_, rfl⟩
            have hP : va_P D vcl (fw n ad mem261) H := by rw [e_mem261]; exact hP
            have hD : va_D (Az sz) (fw n ad mem261) := fw_D hD
            have hW262 : MW cy ad J228 A260 nm m0 mem261 := by rw [e_mem261, eA260]; exact hW258.upA (j := 230) (by decide) (by decide) (by decide) (Or.inl (by decide))
            have tT263 : A260 225 = T := by rw [eA260]; exact tT259
            refine lv_aload_n Bx.1 Bx.2.1 d_Mo_numbers_116 rfl (lv_at hl 2 rfl) ?_
            refine f_get Bx hP (by omega) hW262.1 rfl inMo 17 (by decide) kw_673 rfl rfl d_Mo_numbers_117 ?_
            refine lv_if_ne Bx.1 Bx.2.1 d_Mo_numbers_120 rfl (fun hb264 => ?_) (fun hb264 => ?_)
            · refine lv_aload_n Bx.1 Bx.2.1 d_Mo_numbers_200 rfl (lv_at hl 2 rfl) ?_
              refine f_get Bx hP (by omega) hW262.1 rfl inMo 17 (by decide) kw_673 rfl rfl d_Mo_numbers_201 ?_
              refine lv_if_ne Bx.1 Bx.2.1 d_Mo_numbers_204 rfl (fun hb265 => ?_) (fun hb265 => ?_)
              · exact W.vret hx hb hr (fun t ht hW => ⟨⟨mem261, rfl, ⟨J228, A260, nm, hW262, Or.inl ⟨⟨kk240, kk241, tT263, hbad248, _, by omega, kk234⟩, by rw [numsS_n2 hsp30 hb88 hsp247]; rfl⟩⟩, by show va_P _ _ _ t.heap; rw [ht]; exact hP⟩, hS.F ht⟩) hS.2.2 d_Mo_numbers_212
              · exact absurd hb265 hbad248.ne
            · exact absurd hb264 hbad248.ne
          · refine lv_aload_n Bx.1 Bx.2.1 d_Mo_numbers_87 rfl (lv_at hl 2 rfl) ?_
            refine lv_iconst (v := 1) Bx.1 Bx.2.1 d_Mo_numbers_88 (by decide) ?_
            refine lv_iload_n Bx.1 Bx.2.1 d_Mo_numbers_89 rfl (lv_at hl 4 rfl) ?_
            refine f_callVv (na := 2) (As := [.int (1), .int (fro)]) (rest := []) Bx hml E hP hD hS (by omega) hW231.1 rfl (m_Mo_wrong l hn hW231 (Or.inr hbad248) (by first | exact Or.inl rfl | exact Or.inr rfl)) kw_799 kw_801 sel_Mo_wrong kw_8 kw_802 (by decide +kernel) ⟨rfl, rfl⟩ ⟨Nat.le_of_ble_eq_true rfl, Nat.le_of_ble_eq_true rfl⟩ rfl hl.1 (Nat.le_of_ble_eq_true rfl) d_Mo_numbers_90 ⟨Nat.le_of_ble_eq_true rfl, Nat.le_of_ble_eq_true rfl⟩ (fun mem267 H locs hq hP hS => ?_)
            have hD : va_D (Az sz) (fw n ad mem267) := fw_D hD
            obtain ⟨J268, hW269, hwr270⟩ := hq
            have kk271 : J268 1 = nI L := (show J268 1 = J228 1 from hwr270.2 1 (by decide) (by decide)).trans kk240
            have kk272 : J268 24 = nI G := (show J268 24 = J228 24 from hwr270.2 24 (by decide) (by decide)).trans kk241
            have kk273 : J268 4 = nI R := (show J268 4 = J228 4 from hwr270.2 4 (by decide) (by decide)).trans kk242
            have kk274 : J268 7 = nI (e9 + 1) := (show J268 7 = J228 7 from hwr270.2 7 (by decide) (by decide)).trans kk243
            have kk275 : J268 18 = nI (f + 1) := (show J268 18 = J228 18 from hwr270.2 18 (by decide) (by decide)).trans kk244
            have kk276 : J268 28 = 0 := (show J268 28 = J228 28 from hwr270.2 28 (by decide) (by decide)).trans kk245
            have kk277 : J268 14 = nI (u + 1) := (show J268 14 = J228 14 from hwr270.2 14 (by decide) (by decide)).trans kk246
            have kk278 : J268 16 = nI a229 := (show J268 16 = J228 16 from hwr270.2 16 (by decide) (by decide)).trans kk234
            refine lv_aload_n Bx.1 Bx.2.1 d_Mo_numbers_93 rfl (lv_at hl 2 rfl) ?_
            refine f_get Bx hP (by omega) hW269.1 rfl inMo 8 (by decide) kw_664 rfl rfl d_Mo_numbers_94 ?_
            refine lv_iload_n Bx.1 Bx.2.1 d_Mo_numbers_97 rfl (lv_at hl 3 rfl) ?_
            refine lv_iconst (v := 5) Bx.1 Bx.2.1 d_Mo_numbers_98 (by decide) ?_
            refine f_iast (x := 5) (i := nI (e9)) Bx hP hD hS (by omega) (show mem267 228 = .inl (cy 1, 100, .inl (A69 228)) from hW269.2.2.1 228 (by decide) (by decide) (by decide)) (vp_in_nI (n := e9) (by omega) (by decide)) d_Mo_numbers_99 (fun H locs hP hS => ?_)
            rw [nI_clamp (n := e9) (by omega)] at hP
            obtain ⟨A279, eA279⟩ : ∃ z, z = va_up A69 228 (upd (A69 228) (e9) (5)) := ⟨_, rfl⟩
            obtain ⟨mem280, e_mem280⟩ : ∃ z, z = va_up mem267 228 (.inl (cy 1, 100, .inl (upd (A69 228) (e9) (5)))) := ⟨_, rfl⟩
            have hP : va_P D vcl (fw n ad mem280) H := by rw [e_mem280]; exact hP
            have hD : va_D (Az sz) (fw n ad mem280) := fw_D hD
            have hW281 : MW cy ad J268 A279 nm m0 mem280 := by rw [e_mem280, eA279]; exact hW269.upA (j := 228) (by decide) (by decide) (by decide) (Or.inl (by decide))
            have tT282 : A279 225 = T := by rw [eA279]; exact tT72
            refine lv_aload_n Bx.1 Bx.2.1 d_Mo_numbers_100 rfl (lv_at hl 2 rfl) ?_
            refine f_get Bx hP (by omega) hW281.1 rfl inMo 9 (by decide) kw_665 rfl rfl d_Mo_numbers_101 ?_
            refine lv_iload_n Bx.1 Bx.2.1 d_Mo_numbers_104 rfl (lv_at hl 3 rfl) ?_
            refine lv_iload Bx.1 Bx.2.1 d_Mo_numbers_105 (lv_at hl 1 rfl) ?_
            refine f_iast (x := r9) (i := nI (e9)) Bx hP hD hS (by omega) (show mem280 229 = .inl (cy 1, 100, .inl (A279 229)) from hW281.2.2.1 229 (by decide) (by decide) (by decide)) (vp_in_nI (n := e9) (by omega) (by decide)) d_Mo_numbers_107 (fun H locs hP hS => ?_)
            rw [nI_clamp (n := e9) (by omega)] at hP
            obtain ⟨A283, eA283⟩ : ∃ z, z = va_up A279 229 (upd (A279 229) (e9) (r9)) := ⟨_, rfl⟩
            obtain ⟨mem284, e_mem284⟩ : ∃ z, z = va_up mem280 229 (.inl (cy 1, 100, .inl (upd (A279 229) (e9) (r9)))) := ⟨_, rfl⟩
            have hP : va_P D vcl (fw n ad mem284) H := by rw [e_mem284]; exact hP
            have hD : va_D (Az sz) (fw n ad mem284) := fw_D hD
            have hW285 : MW cy ad J268 A283 nm m0 mem284 := by rw [e_mem284, eA283]; exact hW281.upA (j := 229) (by decide) (by decide) (by decide) (Or.inl (by decide))
            have tT286 : A283 225 = T := by rw [eA283]; exact tT282
            refine lv_aload_n Bx.1 Bx.2.1 d_Mo_numbers_108 rfl (lv_at hl 2 rfl) ?_
            refine f_get Bx hP (by omega) hW285.1 rfl inMo 10 (by decide) kw_666 rfl rfl d_Mo_numbers_109 ?_
            refine lv_iload_n Bx.1 Bx.2.1 d_Mo_numbers_112 rfl (lv_at hl 3 rfl) ?_
            refine lv_iload Bx.1 Bx.2.1 d_Mo_numbers_113 (lv_at hl 0 rfl) ?_
            refine f_iast (x := r226) (i := nI (e9)) Bx hP hD hS (by omega) (show mem284 230 = .inl (cy 1, 100, .inl (A283 230)) from hW285.2.2.1 230 (by decide) (by decide) (by decide)) (vp_in_nI (n := e9) (by omega) (by decide)) d_Mo_numbers_115 (fun H locs hP hS => ?_)
            rw [nI_clamp (n := e9) (by omega)] at hP
            obtain ⟨A287, eA287⟩ : ∃ z, z = va_up A283 230 (upd (A283 230) (e9) (r226)) := ⟨_, rfl⟩
            obtain ⟨mem288, e_mem288⟩ : ∃ z, z = va_up mem284 230 (.inl (cy 1, 100, .inl (upd (A283 230) (e9) (r226)))) := ⟨_, rfl⟩
            have hP : va_P D vcl (fw n ad mem288) H := by rw [e_mem288]; exact hP
            have hD : va_D (Az sz) (fw n ad mem288) := fw_D hD
            have hW289 : MW cy ad J268 A287 nm m0 mem288 := by rw [e_mem288, eA287]; exact hW285.upA (j := 230) (by decide) (by decide) (by decide) (Or.inl (by decide))
            have tT290 : A287 225 = T := by rw [eA287]; exact tT286
            refine lv_aload_n Bx.1 Bx.2.1 d_Mo_numbers_116 rfl (lv_at hl 2 rfl) ?_
            refine f_get Bx hP (by omega) hW289.1 rfl inMo 17 (by decide) kw_673 rfl rfl d_Mo_numbers_117 ?_
            refine lv_if_ne Bx.1 Bx.2.1 d_Mo_numbers_120 rfl (fun hb291 => ?_) (fun hb291 => ?_)
            · refine lv_aload_n Bx.1 Bx.2.1 d_Mo_numbers_200 rfl (lv_at hl 2 rfl) ?_
              refine f_get Bx hP (by omega) hW289.1 rfl inMo 17 (by decide) kw_673 rfl rfl d_Mo_numbers_201 ?_
              refine lv_if_ne Bx.1 Bx.2.1 d_Mo_numbers_204 rfl (fun hb292 => ?_) (fun hb292 => ?_)
              · exact W.vret hx hb hr (fun t ht hW => ⟨⟨mem288, rfl, ⟨J268, A287, nm, hW289, Or.inl ⟨⟨kk271, kk272, tT290, hwr270.1, _, by omega, kk278⟩, by rw [numsS_n2 hsp30 hb88 hsp247]; rfl⟩⟩, by show va_P _ _ _ t.heap; rw [ht]; exact hP⟩, hS.F ht⟩) hS.2.2 d_Mo_numbers_212
              · exact absurd hb292 hwr270.1.ne
            · exact absurd hb291 hwr270.1.ne
        · refine lv_istore (lv' := [(5, .int (r226)), (4, .int (r9)), (0, .ref (ad 224)), (1, .int (nI e9)), (2, .int (fro)), (3, .int (ba))]) Bx.1 Bx.2.1 d_Mo_numbers_78 hl (by decide) rfl (fun ls hl => ?_)
          refine lv_iload Bx.1 Bx.2.1 d_Mo_numbers_80 (lv_at hl 1 rfl) ?_
          refine lv_iload Bx.1 Bx.2.1 d_Mo_numbers_82 (lv_at hl 0 rfl) ?_
          refine lv_icmp_le Bx.1 Bx.2.1 d_Mo_numbers_84 rfl (fun hb293 => ?_) (fun hb293 => ?_)
          · refine lv_aload_n Bx.1 Bx.2.1 d_Mo_numbers_93 rfl (lv_at hl 2 rfl) ?_
            refine f_get Bx hP (by omega) hW231.1 rfl inMo 8 (by decide) kw_664 rfl rfl d_Mo_numbers_94 ?_
            refine lv_iload_n Bx.1 Bx.2.1 d_Mo_numbers_97 rfl (lv_at hl 3 rfl) ?_
            refine lv_iconst (v := 5) Bx.1 Bx.2.1 d_Mo_numbers_98 (by decide) ?_
            refine f_iast (x := 5) (i := nI (e9)) Bx hP hD hS (by omega) (show mem227 228 = .inl (cy 1, 100, .inl (A69 228)) from hW231.2.2.1 228 (by decide) (by decide) (by decide)) (vp_in_nI (n := e9) (by omega) (by decide)) d_Mo_numbers_99 (fun H locs hP hS => ?_)
            rw [nI_clamp (n := e9) (by omega)] at hP
            obtain ⟨A294, eA294⟩ : ∃ z, z = va_up A69 228 (upd (A69 228) (e9) (5)) := ⟨_, rfl⟩
            obtain ⟨mem295, e_mem295⟩ : ∃ z, z = va_up mem227 228 (.inl (cy 1, 100, .inl (upd (A69 228) (e9) (5)))) := ⟨_, rfl⟩
            have hP : va_P D vcl (fw n ad mem295) H := by rw [e_mem295]; exact hP
            have hD : va_D (Az sz) (fw n ad mem295) := fw_D hD
            have hW296 : MW cy ad J228 A294 nm m0 mem295 := by rw [e_mem295, eA294]; exact hW231.upA (j := 228) (by decide) (by decide) (by decide) (Or.inl (by decide))
            have tT297 : A294 225 = T := by rw [eA294]; exact tT72
            refine lv_aload_n Bx.1 Bx.2.1 d_Mo_numbers_100 rfl (lv_at hl 2 rfl) ?_
            refine f_get Bx hP (by omega) hW296.1 rfl inMo 9 (by decide) kw_665 rfl rfl d_Mo_numbers_101 ?_
            refine lv_iload_n Bx.1 Bx.2.1 d_Mo_numbers_104 rfl (lv_at hl 3 rfl) ?_
            refine lv_iload Bx.1 Bx.2.1 d_Mo_numbers_105 (lv_at hl 1 rfl) ?_
            refine f_iast (x := r9) (i := nI (e9)) Bx hP hD hS (by omega) (show mem295 229 = .inl (cy 1, 100, .inl (A294 229)) from hW296.2.2.1 229 (by decide) (by decide) (by decide)) (vp_in_nI (n := e9) (by omega) (by decide)) d_Mo_numbers_107 (fun H locs hP hS => ?_)
            rw [nI_clamp (n := e9) (by omega)] at hP
            obtain ⟨A298, eA298⟩ : ∃ z, z = va_up A294 229 (upd (A294 229) (e9) (r9)) := ⟨_, rfl⟩
            obtain ⟨mem299, e_mem299⟩ : ∃ z, z = va_up mem295 229 (.inl (cy 1, 100, .inl (upd (A294 229) (e9) (r9)))) := ⟨_, rfl⟩
            have hP : va_P D vcl (fw n ad mem299) H := by rw [e_mem299]; exact hP
            have hD : va_D (Az sz) (fw n ad mem299) := fw_D hD
            have hW300 : MW cy ad J228 A298 nm m0 mem299 := by rw [e_mem299, eA298]; exact hW296.upA (j := 229) (by decide) (by decide) (by decide) (Or.inl (by decide))
            have tT301 : A298 225 = T := by rw [eA298]; exact tT297
            refine lv_aload_n Bx.1 Bx.2.1 d_Mo_numbers_108 rfl (lv_at hl 2 rfl) ?_
            refine f_get Bx hP (by omega) hW300.1 rfl inMo 10 (by decide) kw_666 rfl rfl d_Mo_numbers_109 ?_
            refine lv_iload_n Bx.1 Bx.2.1 d_Mo_numbers_112 rfl (lv_at hl 3 rfl) ?_
            refine lv_iload Bx.1 Bx.2.1 d_Mo_numbers_113 (lv_at hl 0 rfl) ?_
            refine f_iast (x := r226) (i := nI (e9)) Bx hP hD hS (by omega) (show mem299 230 = .inl (cy 1, 100, .inl (A298 230)) from hW300.2.2.1 230 (by decide) (by decide) (by decide)) (vp_in_nI (n := e9) (by omega) (by decide)) d_Mo_numbers_115 (fun H locs hP hS => ?_)
            rw [nI_clamp (n := e9) (by omega)] at hP
            obtain ⟨A302, eA302⟩ : ∃ z, z = va_up A298 230 (upd (A298 230) (e9) (r226)) := ⟨_, rfl⟩
            obtain ⟨mem303, e_mem303⟩ : ∃ z, z = va_up mem299 230 (.inl (cy 1, 100, .inl (upd (A298 230) (e9) (r226)))) := ⟨_, rfl⟩
            have hP : va_P D vcl (fw n ad mem303) H := by rw [e_mem303]; exact hP
            have hD : va_D (Az sz) (fw n ad mem303) := fw_D hD
            have hW304 : MW cy ad J228 A302 nm m0 mem303 := by rw [e_mem303, eA302]; exact hW300.upA (j := 230) (by decide) (by decide) (by decide) (Or.inl (by decide))
            have tT305 : A302 225 = T := by rw [eA302]; exact tT301
            refine lv_aload_n Bx.1 Bx.2.1 d_Mo_numbers_116 rfl (lv_at hl 2 rfl) ?_
            refine f_get Bx hP (by omega) hW304.1 rfl inMo 17 (by decide) kw_673 rfl rfl d_Mo_numbers_117 ?_
            rw [kk249]
            refine lv_if_ne Bx.1 Bx.2.1 d_Mo_numbers_120 rfl (fun hb306 => ?_) (fun hb306 => ?_)
            · exact absurd hb306 (by decide)
            · refine lv_aload_n Bx.1 Bx.2.1 d_Mo_numbers_123 rfl (lv_at hl 2 rfl) ?_
              refine f_get Bx hP (by omega) hW304.1 rfl inMo 8 (by decide) kw_664 rfl rfl d_Mo_numbers_124 ?_
              refine lv_iload_n Bx.1 Bx.2.1 d_Mo_numbers_127 rfl (lv_at hl 3 rfl) ?_
              refine f_iald Bx hP (by omega) (show mem303 228 = .inl (cy 1, 100, .inl (A302 228)) from hW304.2.2.1 228 (by decide) (by decide) (by decide)) (vp_in_nI (n := e9) (by omega) (by decide)) d_Mo_numbers_128 ?_
              rw [nI_clamp (n := e9) (by omega)]
              rw [show A302 228 (e9) = 5 by simp [eA61, eA65, eA69, eA294, eA298, eA302, va_up, upd]]
              refine lv_iconst (v := 4) Bx.1 Bx.2.1 d_Mo_numbers_129 (by decide) ?_
              refine lv_icmp_ne Bx.1 Bx.2.1 d_Mo_numbers_130 rfl (fun hb307 => ?_) (fun hb307 => ?_)
              · refine lv_aload_n Bx.1 Bx.2.1 d_Mo_numbers_200 rfl (lv_at hl 2 rfl) ?_
                refine f_get Bx hP (by omega) hW304.1 rfl inMo 17 (by decide) kw_673 rfl rfl d_Mo_numbers_201 ?_
                rw [kk249]
                refine lv_if_ne Bx.1 Bx.2.1 d_Mo_numbers_204 rfl (fun hb308 => ?_) (fun hb308 => ?_)
                · exact absurd hb308 (by decide)
                · refine lv_aload_n Bx.1 Bx.2.1 d_Mo_numbers_207 rfl (lv_at hl 2 rfl) ?_
                  refine lv_iload_n Bx.1 Bx.2.1 d_Mo_numbers_208 rfl (lv_at hl 3 rfl) ?_
                  have hno := hI.note (A' := A302) (e := e9) (u' := u + 1) (by omega) (fun j q8 q9 q0 q1 q4 => by simp [eA61, eA65, eA69, eA294, eA298, eA302, va_up, q8, q9, q0, q4]) (fun i hi => by simp [eA61, eA65, eA69, eA294, eA298, eA302, va_up, upd, hi]) (Or.inr (by simp [eA61, eA65, eA69, eA294, eA298, eA302, va_up, upd])) (by simp [eA61, eA65, eA69, eA294, eA298, eA302, va_up, upd, h4]) (fun z => absurd z (by simp [eA61, eA65, eA69, eA294, eA298, eA302, va_up, upd]))
                  have hrr2 : A302 239 f = -1 ∨ ∃ r, A302 239 f = nI r ∧ fs f < r ∧ r < e9 := by simp only [eA61, eA65, eA69, eA294, eA298, eA302, va_up]; exact hrr
                  have hC2 : CL e9 A302 := fun i hi => by simp only [eA61, eA65, eA69, eA294, eA298, eA302, va_up]; exact hC i hi
                  refine f_callVv (na := 1) (As := [.int (nI e9)]) (rest := []) Bx hml E hP hD hS (by omega) hW304.1 rfl (m_Mo_placedX l hn hW304 (e9 := e9) kk244 (by omega) (by omega) hno (by omega) hse hrr2 hC2) kw_834 kw_836 sel_Mo_placed kw_8 kw_837 (by decide +kernel) ⟨rfl, rfl⟩ ⟨Nat.le_of_ble_eq_true rfl, Nat.le_of_ble_eq_true rfl⟩ rfl hl.1 (Nat.le_of_ble_eq_true rfl) d_Mo_numbers_209 ⟨Nat.le_of_ble_eq_true rfl, Nat.le_of_ble_eq_true rfl⟩ (fun mem310 H locs hq hP hS => ?_)
                  have hD : va_D (Az sz) (fw n ad mem310) := fw_D hD
                  obtain ⟨hW312, hinv313, h39314, hj315⟩ := hq
                  obtain ⟨A311, eA311⟩ : ∃ z, z = plcS A302 (f) (e9) := ⟨_, rfl⟩
                  rw [← eA311] at hW312 hinv313 h39314 hj315
                  have tT316 : A311 225 = T := (hj315 225 (by decide) (by decide) (by decide)).trans tT305
                  exact W.vret hx hb hr (fun t ht hW => ⟨⟨mem310, rfl, ⟨J228, A311, nm, hW312, Or.inr ⟨a229, u + 1, R, e9 + 1, f, false, by omega, by rw [numsS_rg hsp30 hb88 hsp247 (Int32.not_lt.mpr hb293), eA311, eA302, eA298, eA294, eA69, eA65, eA61]; rfl, ⟨kk240, kk241, kk234, kk249, kk246, kk242, kk243, kk244⟩, ⟨by omega, by omega, by omega, by omega, by omega, by omega⟩, tT316, kk245, fc, fs, ft, hinv313.qT, h39314⟩⟩, by show va_P _ _ _ t.heap; rw [ht]; exact hP⟩, hS.F ht⟩) hS.2.2 d_Mo_numbers_212
              · exact absurd hb307 (by decide)
          · refine lv_aload_n Bx.1 Bx.2.1 d_Mo_numbers_87 rfl (lv_at hl 2 rfl) ?_
            refine lv_iconst (v := 1) Bx.1 Bx.2.1 d_Mo_numbers_88 (by decide) ?_
            refine lv_iload_n Bx.1 Bx.2.1 d_Mo_numbers_89 rfl (lv_at hl 4 rfl) ?_
            refine f_callVv (na := 2) (As := [.int (1), .int (fro)]) (rest := []) Bx hml E hP hD hS (by omega) hW231.1 rfl (m_Mo_wrong l hn hW231 (Or.inl kk249) (by first | exact Or.inl rfl | exact Or.inr rfl)) kw_799 kw_801 sel_Mo_wrong kw_8 kw_802 (by decide +kernel) ⟨rfl, rfl⟩ ⟨Nat.le_of_ble_eq_true rfl, Nat.le_of_ble_eq_true rfl⟩ rfl hl.1 (Nat.le_of_ble_eq_true rfl) d_Mo_numbers_90 ⟨Nat.le_of_ble_eq_true rfl, Nat.le_of_ble_eq_true rfl⟩ (fun mem318 H locs hq hP hS => ?_)
            have hD : va_D (Az sz) (fw n ad mem318) := fw_D hD
            obtain ⟨J319, hW320, hwr321⟩ := hq
            have kk322 : J319 1 = nI L := (show J319 1 = J228 1 from hwr321.2 1 (by decide) (by decide)).trans kk240
            have kk323 : J319 24 = nI G := (show J319 24 = J228 24 from hwr321.2 24 (by decide) (by decide)).trans kk241
            have kk324 : J319 4 = nI R := (show J319 4 = J228 4 from hwr321.2 4 (by decide) (by decide)).trans kk242
            have kk325 : J319 7 = nI (e9 + 1) := (show J319 7 = J228 7 from hwr321.2 7 (by decide) (by decide)).trans kk243
            have kk326 : J319 18 = nI (f + 1) := (show J319 18 = J228 18 from hwr321.2 18 (by decide) (by decide)).trans kk244
            have kk327 : J319 28 = 0 := (show J319 28 = J228 28 from hwr321.2 28 (by decide) (by decide)).trans kk245
            have kk328 : J319 14 = nI (u + 1) := (show J319 14 = J228 14 from hwr321.2 14 (by decide) (by decide)).trans kk246
            have kk329 : J319 16 = nI a229 := (show J319 16 = J228 16 from hwr321.2 16 (by decide) (by decide)).trans kk234
            refine lv_aload_n Bx.1 Bx.2.1 d_Mo_numbers_93 rfl (lv_at hl 2 rfl) ?_
            refine f_get Bx hP (by omega) hW320.1 rfl inMo 8 (by decide) kw_664 rfl rfl d_Mo_numbers_94 ?_
            refine lv_iload_n Bx.1 Bx.2.1 d_Mo_numbers_97 rfl (lv_at hl 3 rfl) ?_
            refine lv_iconst (v := 5) Bx.1 Bx.2.1 d_Mo_numbers_98 (by decide) ?_
            refine f_iast (x := 5) (i := nI (e9)) Bx hP hD hS (by omega) (show mem318 228 = .inl (cy 1, 100, .inl (A69 228)) from hW320.2.2.1 228 (by decide) (by decide) (by decide)) (vp_in_nI (n := e9) (by omega) (by decide)) d_Mo_numbers_99 (fun H locs hP hS => ?_)
            rw [nI_clamp (n := e9) (by omega)] at hP
            obtain ⟨A330, eA330⟩ : ∃ z, z = va_up A69 228 (upd (A69 228) (e9) (5)) := ⟨_, rfl⟩
            obtain ⟨mem331, e_mem331⟩ : ∃ z, z = va_up mem318 228 (.inl (cy 1, 100, .inl (upd (A69 228) (e9) (5)))) := ⟨_, rfl⟩
            have hP : va_P D vcl (fw n ad mem331) H := by rw [e_mem331]; exact hP
            have hD : va_D (Az sz) (fw n ad mem331) := fw_D hD
            have hW332 : MW cy ad J319 A330 nm m0 mem331 := by rw [e_mem331, eA330]; exact hW320.upA (j := 228) (by decide) (by decide) (by decide) (Or.inl (by decide))
            have tT333 : A330 225 = T := by rw [eA330]; exact tT72
            refine lv_aload_n Bx.1 Bx.2.1 d_Mo_numbers_100 rfl (lv_at hl 2 rfl) ?_
            refine f_get Bx hP (by omega) hW332.1 rfl inMo 9 (by decide) kw_665 rfl rfl d_Mo_numbers_101 ?_
            refine lv_iload_n Bx.1 Bx.2.1 d_Mo_numbers_104 rfl (lv_at hl 3 rfl) ?_
            refine lv_iload Bx.1 Bx.2.1 d_Mo_numbers_105 (lv_at hl 1 rfl) ?_
            refine f_iast (x := r9) (i := nI (e9)) Bx hP hD hS (by omega) (show mem331 229 = .inl (cy 1, 100, .inl (A330 229)) from hW332.2.2.1 229 (by decide) (by decide) (by decide)) (vp_in_nI (n := e9) (by omega) (by decide)) d_Mo_numbers_107 (fun H locs hP hS => ?_)
            rw [nI_clamp (n := e9) (by omega)] at hP
            obtain ⟨A334, eA334⟩ : ∃ z, z = va_up A330 229 (upd (A330 229) (e9) (r9)) := ⟨_, rfl⟩
            obtain ⟨mem335, e_mem335⟩ : ∃ z, z = va_up mem331 229 (.inl (cy 1, 100, .inl (upd (A330 229) (e9) (r9)))) := ⟨_, rfl⟩
            have hP : va_P D vcl (fw n ad mem335) H := by rw [e_mem335]; exact hP
            have hD : va_D (Az sz) (fw n ad mem335) := fw_D hD
            have hW336 : MW cy ad J319 A334 nm m0 mem335 := by rw [e_mem335, eA334]; exact hW332.upA (j := 229) (by decide) (by decide) (by decide) (Or.inl (by decide))
            have tT337 : A334 225 = T := by rw [eA334]; exact tT333
            refine lv_aload_n Bx.1 Bx.2.1 d_Mo_numbers_108 rfl (lv_at hl 2 rfl) ?_
            refine f_get Bx hP (by omega) hW336.1 rfl inMo 10 (by decide) kw_666 rfl rfl d_Mo_numbers_109 ?_
            refine lv_iload_n Bx.1 Bx.2.1 d_Mo_numbers_112 rfl (lv_at hl 3 rfl) ?_
            refine lv_iload Bx.1 Bx.2.1 d_Mo_numbers_113 (lv_at hl 0 rfl) ?_
            refine f_iast (x := r226) (i := nI (e9)) Bx hP hD hS (by omega) (show mem335 230 = .inl (cy 1, 100, .inl (A334 230)) from hW336.2.2.1 230 (by decide) (by decide) (by decide)) (vp_in_nI (n := e9) (by omega) (by decide)) d_Mo_numbers_115 (fun H locs hP hS => ?_)
            rw [nI_clamp (n := e9) (by omega)] at hP
            obtain ⟨A338, eA338⟩ : ∃ z, z = va_up A334 230 (upd (A334 230) (e9) (r226)) := ⟨_, rfl⟩
            obtain ⟨mem339, e_mem339⟩ : ∃ z, z = va_up mem335 230 (.inl (cy 1, 100, .inl (upd (A334 230) (e9) (r226)))) := ⟨_, rfl⟩
            have hP : va_P D vcl (fw n ad mem339) H := by rw [e_mem339]; exact hP
            have hD : va_D (Az sz) (fw n ad mem339) := fw_D hD
            have hW340 : MW cy ad J319 A338 nm m0 mem339 := by rw [e_mem339, eA338]; exact hW336.upA (j := 230) (by decide) (by decide) (by decide) (Or.inl (by decide))
            have tT341 : A338 225 = T := by rw [eA338]; exact tT337
            refine lv_aload_n Bx.1 Bx.2.1 d_Mo_numbers_116 rfl (lv_at hl 2 rfl) ?_
            refine f_get Bx hP (by omega) hW340.1 rfl inMo 17 (by decide) kw_673 rfl rfl d_Mo_numbers_117 ?_
            refine lv_if_ne Bx.1 Bx.2.1 d_Mo_numbers_120 rfl (fun hb342 => ?_) (fun hb342 => ?_)
            · refine lv_aload_n Bx.1 Bx.2.1 d_Mo_numbers_200 rfl (lv_at hl 2 rfl) ?_
              refine f_get Bx hP (by omega) hW340.1 rfl inMo 17 (by decide) kw_673 rfl rfl d_Mo_numbers_201 ?_
              refine lv_if_ne Bx.1 Bx.2.1 d_Mo_numbers_204 rfl (fun hb343 => ?_) (fun hb343 => ?_)
              · exact W.vret hx hb hr (fun t ht hW => ⟨⟨mem339, rfl, ⟨J319, A338, nm, hW340, Or.inl ⟨⟨kk322, kk323, tT341, hwr321.1, _, by omega, kk329⟩, by rw [numsS_lt hsp30 hb88 hsp247 (Int32.not_le.mp hb293)]; rfl⟩⟩, by show va_P _ _ _ t.heap; rw [ht]; exact hP⟩, hS.F ht⟩) hS.2.2 d_Mo_numbers_212
              · exact absurd hb343 hwr321.1.ne
            · exact absurd hb342 hwr321.1.ne
