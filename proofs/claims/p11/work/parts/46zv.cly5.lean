/-- the rules' cells: names, first and last alternatives -/
def RC (ad : Nat → Nat) (R : Nat) (nm : Nat → Int64) (fi la : Nat → Int32) (mem : Nat → va_E) : Prop := ∀ i, i < R → mem (7 + i) = .inr (5, [.long (nm i), vE ad (fi i), vE ad (la i)])
theorem rc_ext {cy : Nat → ClassId} {ad : Nat → Nat} {lim a R R1 E : Nat} {to1 fi la : Nat → Int32} {nm nm1 : Nat → Int64} {m0 mem mem1 : Nat → va_E} (hX : RX cy ad lim a R1 E to1 nm1 m0 mem1) (h : RC ad R nm fi la mem) (hf : ∀ i, i < R → mem1 (7 + i) = mem (7 + i)) (hn : ∀ i, R ≤ i → i < R1 → to1 i < 0) : RC ad R1 nm1 (extN R fi) (extN R la) mem1 := by
  intro i hi
  obtain ⟨v, w, e, o1, o2⟩ := hX.2.2 i hi
  by_cases q : i < R
  · have e2 := (hf i q).trans (h i q)
    have hnm : nm1 i = nm i := by
      have := e.symm.trans e2
      injection this with p
      injection p with _ p
      injection p with p _
      injection p
    rw [extN_lt q, extN_lt q, hnm]; exact e2
  · rw [extN_ge (by omega), extN_ge (by omega), vE_m, e, o1.mpr (hn i (by omega) hi), o2.mpr (hn i (by omega) hi)]
theorem rule_finU {T : Nat → Int32} {Z a u R E g R1 E1 a' u' R' E' : Nat} {A A0 A' : Ro} {nm nm1 nm' : Nat → Int64} {K S : Nat → Int32} (hr : ruleS T Z a u R E A nm = some (g, u, R1, E1, 0, A0, nm1, true)) (h : SucU T Z (seqS T Z g u R1 E1 0 A0 nm1) 0 R1 K S a' u' R' E' A' nm') (hK : K 0 = 0) (h47 : ¬ hereF Z T (gapF T Z a') = 47) (hb : ¬ (bgF (hereF Z T (gapF T Z a')) = true ∧ a' < gapF T Z a')) : ((hereF Z T (gapF T Z a') = 10 ∨ hereF Z T (gapF T Z a') < 0) → RuleR T Z a u R E A nm (some (gapF T Z a', u', R', E', 0, A', nm', false))) ∧ (¬ (hereF Z T (gapF T Z a') = 10 ∨ hereF Z T (gapF T Z a') < 0) → RuleR T Z a u R E A nm none) := by
  obtain ⟨c1, ho, hg, hk, hs⟩ := h
  have hA : A' 235 0 = 0 := (hk 0 (Nat.le_refl _)).trans hK
  have hb2 : bgF (hereF Z T (gapF T Z a')) = false ∨ gapF T Z a' ≤ a' := by
    by_cases q : bgF (hereF Z T (gapF T Z a')) = true
    · exact Or.inr (Nat.not_lt.mp (fun z => hb ⟨q, z⟩))
    · exact Or.inl (by simpa using q)
  have hgo := (Goes9.one (show turnS T Z (g, u, R1, E1, 0, A0, nm1, true) = some (true, c1) by show (seqS T Z g u R1 E1 0 A0 nm1).map _ = _; rw [ho]; rfl)).trans hg
  have n1 : ¬ A' 235 0 = 1 := by rw [hA]; decide
  have n2 : ¬ A' 235 0 = 2 := by rw [hA]; decide
  exact ⟨fun he => Or.inr ⟨_, hr, Term.fin hgo (go_end h47 (Or.inr n1) (Or.inr n2) hb2 hA he)⟩, fun he => Or.inr ⟨_, hr, Term.bad hgo (go_bad h47 (Or.inr n1) (Or.inr n2) hb2 (Or.inr ⟨fun z => he (Or.inl z), fun z => he (Or.inr z)⟩))⟩⟩
set_option maxHeartbeats 4000000 in
set_option maxRecDepth 100000 in
theorem m_Ru_tellY0 (l : Launch) {D : va_G} {cy : Nat → ClassId} {sz n : Nat} {ad : Nat → Nat} {mem : Nat → va_E} {Z a R Ec lim : Nat} {f T : Nat → Int32} {to : Nat → Int32} {nm : Nat → Int64} {m0 : Nat → va_E} {i k : Nat} (hn : 224 ≤ n) (hT : TX cy ad Z f m0) (hf : ∀ k, k < Z → f k = T k) (hRX : RX cy ad lim a R Ec to nm m0 mem) (haB : a ≤ 300) (hi : i < R) (hk : lim ≤ k ∧ k < Ec) (hru : mem (7 + i) = .inr (5, [.long (nm i), .null, .null])) : MV l D cy sz n ad y_Ru_tell c_Ru_tell 2 ({ frames := 0, cells := 0, slots := 0, locals := 0 } : Room) mem [.ref (ad (7 + i)), .ref (ad (20 + 2 * k))] (fun mem' => RX cy ad Ec a R Ec (upd to i 0) nm m0 mem' ∧ mem' (7 + i) = .inr (5, [.long (nm i), .ref (ad (20 + 2 * k)), .ref (ad (20 + 2 * k))]) ∧ ∀ j, j ≠ 7 + i → mem' j = mem j) := by
  refine Met.ofW (cc := c_Ru_tell) (maxL := 2) (ret := none) (by decide) rfl ?_
  intro p e s m args below meth c s₁ B hml hv
  obtain ⟨rfl, E, hP, hD⟩ := hv
  have hx := B.exec
  have hb := B.bytes
  have hr := B.returns
  have hlocks := B.notSynchronized
  have Bx : MB p s m [.ref (ad (7 + i)), .ref (ad (20 + 2 * k))].toArray c c_Ru_tell "AbnfChart$Rule" D cy := ⟨hx, hb, tb_all (atoms_spec B.pre) E.2.1, findClass_of_methodNamed B.named, E.1⟩
  have hS : va_S (Az sz) s.heap s.heap [] := va_S.rf
  have hl := lv_entry ([.ref (ad (7 + i)), .ref (ad (20 + 2 * k))]) (n := 2) (Nat.le_of_ble_eq_true rfl)
  rw [lg_entry_eq]
  generalize (lg_sl ([.ref (ad (7 + i)), .ref (ad (20 + 2 * k))]) ++ List.replicate (2 - (lg_sl ([.ref (ad (7 + i)), .ref (ad (20 + 2 * k))])).length) Slot.unset).toArray = ls at hl ⊢
  have hl : lv_has ls 2 [(0, .ref (ad (7 + i))), (1, .ref (ad (20 + 2 * k)))] := hl
  have hZ9 := hT.2.1
  have hbd9 := hRX.1.1.1
  obtain ⟨ft1, h9_2⟩ := hRX.2.1
  have h1_3 : mem 1 = .inr (0, [.ref (ad 2), .int (nI Z)]) := (hRX.1.2.2 1 (by omega)).trans hT.1
  have h2_4 : mem 2 = .inl (cy 0, 240, .inl f) := (hRX.1.2.2 2 (by omega)).trans hT.2.2
  have h5_5 := hRX.1.1.2.1
  have hbd11 := hRX.1.1.1
  obtain ⟨S6, g7, hS_8, h220_9, h221_10⟩ := hRX.1.1.2.2.2.2.2.2
  refine lv_aload_n Bx.1 Bx.2.1 d_Ru_tell_0 rfl (lv_at hl 0 rfl) ?_
  refine f_get Bx hP (by omega) hru rfl inRu 2 (by decide) kw_59 rfl rfl d_Ru_tell_1 ?_
  refine lv_ifnonnullN Bx.1 Bx.2.1 d_Ru_tell_4 ?_
  refine lv_aload_n Bx.1 Bx.2.1 d_Ru_tell_7 rfl (lv_at hl 0 rfl) ?_
  refine lv_aload_n Bx.1 Bx.2.1 d_Ru_tell_8 rfl (lv_at hl 1 rfl) ?_
  refine f_put Bx hP hD hS (by omega) hru rfl inRu tyRu okRu nmRu 1 (by decide) kw_57 rfl rfl rfl rfl (Nat.le_of_ble_eq_true rfl) d_Ru_tell_9 (fun H locs hP hS => ?_)
  obtain ⟨mem12, e_mem12⟩ : ∃ z, z = va_up mem ((7 + i)) (.inr (5, [.long (nm i), .ref (ad (20 + 2 * k)), .null])) := ⟨_, rfl⟩
  have hP : va_P D vcl (fw n ad mem12) H := by rw [e_mem12]; exact hP
  have hD : va_D (Az sz) (fw n ad mem12) := fw_D hD
  have h_mem12 : mem12 ((7 + i)) = .inr (5, [.long (nm i), .ref (ad (20 + 2 * k)), .null]) := by rw [e_mem12, va_up_self]
  have hh13 := (va_up_ne mem (.inr (5, [.long (nm i), .ref (ad (20 + 2 * k)), .null])) (show (222 : Nat) ≠ (7 + i) by first | decide | assumption | omega)).trans h9_2
  rw [← e_mem12] at hh13
  have hh14 := (va_up_ne mem (.inr (5, [.long (nm i), .ref (ad (20 + 2 * k)), .null])) (show (1 : Nat) ≠ (7 + i) by first | decide | assumption | omega)).trans h1_3
  rw [← e_mem12] at hh14
  have hh15 := (va_up_ne mem (.inr (5, [.long (nm i), .ref (ad (20 + 2 * k)), .null])) (show (5 : Nat) ≠ (7 + i) by first | decide | assumption | omega)).trans h5_5
  rw [← e_mem12] at hh15
  have hh16 := (va_up_ne mem (.inr (5, [.long (nm i), .ref (ad (20 + 2 * k)), .null])) (show (220 : Nat) ≠ (7 + i) by first | decide | assumption | omega)).trans h220_9
  rw [← e_mem12] at hh16
  refine lv_goto Bx.1 Bx.2.1 d_Ru_tell_12 rfl ?_
  refine lv_aload_n Bx.1 Bx.2.1 d_Ru_tell_23 rfl (lv_at hl 0 rfl) ?_
  refine lv_aload_n Bx.1 Bx.2.1 d_Ru_tell_24 rfl (lv_at hl 1 rfl) ?_
  refine f_put Bx hP hD hS (by omega) h_mem12 rfl inRu tyRu okRu nmRu 2 (by decide) kw_59 rfl rfl rfl rfl (Nat.le_of_ble_eq_true rfl) d_Ru_tell_25 (fun H locs hP hS => ?_)
  obtain ⟨mem17, e_mem17⟩ : ∃ z, z = va_up mem12 ((7 + i)) (.inr (5, [.long (nm i), .ref (ad (20 + 2 * k)), .ref (ad (20 + 2 * k))])) := ⟨_, rfl⟩
  have hP : va_P D vcl (fw n ad mem17) H := by rw [e_mem17]; exact hP
  have hD : va_D (Az sz) (fw n ad mem17) := fw_D hD
  have h_mem17 : mem17 ((7 + i)) = .inr (5, [.long (nm i), .ref (ad (20 + 2 * k)), .ref (ad (20 + 2 * k))]) := by rw [e_mem17, va_up_self]
  have hh18 := (va_up_ne mem12 (.inr (5, [.long (nm i), .ref (ad (20 + 2 * k)), .ref (ad (20 + 2 * k))])) (show (222 : Nat) ≠ (7 + i) by first | decide | assumption | omega)).trans hh13
  rw [← e_mem17] at hh18
  have hh19 := (va_up_ne mem12 (.inr (5, [.long (nm i), .ref (ad (20 + 2 * k)), .ref (ad (20 + 2 * k))])) (show (1 : Nat) ≠ (7 + i) by first | decide | assumption | omega)).trans hh14
  rw [← e_mem17] at hh19
  have hh20 := (va_up_ne mem12 (.inr (5, [.long (nm i), .ref (ad (20 + 2 * k)), .ref (ad (20 + 2 * k))])) (show (5 : Nat) ≠ (7 + i) by first | decide | assumption | omega)).trans hh15
  rw [← e_mem17] at hh20
  have hh21 := (va_up_ne mem12 (.inr (5, [.long (nm i), .ref (ad (20 + 2 * k)), .ref (ad (20 + 2 * k))])) (show (220 : Nat) ≠ (7 + i) by first | decide | assumption | omega)).trans hh16
  rw [← e_mem17] at hh21
  exact W.vret hx hb hr (fun t ht hW => ⟨⟨mem17, rfl, ⟨by rw [e_mem17, e_mem12, up_up]; exact hRX.tell hi (hRX.1.grow.mk (by omega) (hRX.1.grow.1.upRu (by omega) (fun _ => ⟨Or.inr ⟨k, by omega, by omega, rfl⟩, Or.inr ⟨k, by omega, by omega, rfl⟩⟩))) (fun x9 _ hne9 => va_up_ne _ _ hne9) (va_up_self _ _ _), by rw [e_mem17, va_up_self], fun j hj => by rw [e_mem17, va_up_ne _ _ hj, e_mem12, va_up_ne _ _ hj]⟩, by show va_P _ _ _ t.heap; rw [ht]; exact hP⟩, hS.F ht⟩) hS.2.2 d_Ru_tell_28
set_option maxHeartbeats 4000000 in
set_option maxRecDepth 100000 in
theorem m_Ru_tellY1 (l : Launch) {D : va_G} {cy : Nat → ClassId} {sz n : Nat} {ad : Nat → Nat} {mem : Nat → va_E} {Z a R Ec lim : Nat} {f T : Nat → Int32} {to : Nat → Int32} {nm : Nat → Int64} {m0 : Nat → va_E} {i k j p9 : Nat} {ka kb kc : Int32} {q1 q2 q3 : Value} (hn : 224 ≤ n) (hT : TX cy ad Z f m0) (hf : ∀ k, k < Z → f k = T k) (hRX : RX cy ad lim a R Ec to nm m0 mem) (haB : a ≤ 300) (hi : i < R) (hk : lim ≤ k ∧ k < Ec) (hj : j < k) (hru : mem (7 + i) = .inr (5, [.long (nm i), .ref p9, .ref (ad (20 + 2 * j))])) (hel : mem (20 + 2 * j) = eCl ad j ka kb kc q1 q2 q3) : MV l D cy sz n ad y_Ru_tell c_Ru_tell 2 ({ frames := 0, cells := 0, slots := 0, locals := 0 } : Room) mem [.ref (ad (7 + i)), .ref (ad (20 + 2 * k))] (fun mem' => RX cy ad Ec a R Ec (upd to i 0) nm m0 mem' ∧ mem' (7 + i) = .inr (5, [.long (nm i), .ref p9, .ref (ad (20 + 2 * k))]) ∧ mem' (20 + 2 * j) = eCl ad j ka kb kc q1 q2 (.ref (ad (20 + 2 * k))) ∧ ∀ z, z ≠ 7 + i → z ≠ 20 + 2 * j → mem' z = mem z) := by
  refine Met.ofW (cc := c_Ru_tell) (maxL := 2) (ret := none) (by decide) rfl ?_
  intro p e s m args below meth c s₁ B hml hv
  obtain ⟨rfl, E, hP, hD⟩ := hv
  have hx := B.exec
  have hb := B.bytes
  have hr := B.returns
  have hlocks := B.notSynchronized
  have Bx : MB p s m [.ref (ad (7 + i)), .ref (ad (20 + 2 * k))].toArray c c_Ru_tell "AbnfChart$Rule" D cy := ⟨hx, hb, tb_all (atoms_spec B.pre) E.2.1, findClass_of_methodNamed B.named, E.1⟩
  have hS : va_S (Az sz) s.heap s.heap [] := va_S.rf
  have hl := lv_entry ([.ref (ad (7 + i)), .ref (ad (20 + 2 * k))]) (n := 2) (Nat.le_of_ble_eq_true rfl)
  rw [lg_entry_eq]
  generalize (lg_sl ([.ref (ad (7 + i)), .ref (ad (20 + 2 * k))]) ++ List.replicate (2 - (lg_sl ([.ref (ad (7 + i)), .ref (ad (20 + 2 * k))])).length) Slot.unset).toArray = ls at hl ⊢
  have hl : lv_has ls 2 [(0, .ref (ad (7 + i))), (1, .ref (ad (20 + 2 * k)))] := hl
  have hZ9 := hT.2.1
  have hbd9 := hRX.1.1.1
  obtain ⟨ft1, h9_2⟩ := hRX.2.1
  have h1_3 : mem 1 = .inr (0, [.ref (ad 2), .int (nI Z)]) := (hRX.1.2.2 1 (by omega)).trans hT.1
  have h2_4 : mem 2 = .inl (cy 0, 240, .inl f) := (hRX.1.2.2 2 (by omega)).trans hT.2.2
  have h5_5 := hRX.1.1.2.1
  have hbd11 := hRX.1.1.1
  obtain ⟨S6, g7, hS_8, h220_9, h221_10⟩ := hRX.1.1.2.2.2.2.2.2
  obtain ⟨ho1, ho2⟩ := rx_w hRX hi hru
  obtain ⟨k12, lo13, hi14, as15, pa16, ne17, he_18, ho_19⟩ := (hRX.1.1.2.2.2.2.2.1 j (by omega)).1
  obtain ⟨rfl, rfl, rfl, rfl, rfl⟩ : k12 = ka ∧ lo13 = kb ∧ hi14 = kc ∧ as15 = q1 ∧ pa16 = q2 := by
    have p := he_18.symm.trans hel
    injection p with p
    injection p with _ p
    injection p with p1 p
    injection p with p2 p
    injection p with p3 p
    injection p with p4 p
    injection p with p5 p
    injection p1 with p1
    injection p2 with p2
    injection p3 with p3
    exact ⟨p1, p2, p3, p4, p5⟩
  refine lv_aload_n Bx.1 Bx.2.1 d_Ru_tell_0 rfl (lv_at hl 0 rfl) ?_
  refine f_get Bx hP (by omega) hru rfl inRu 2 (by decide) kw_59 rfl rfl d_Ru_tell_1 ?_
  refine lv_ifnonnull Bx.1 Bx.2.1 d_Ru_tell_4 rfl ?_
  refine lv_aload_n Bx.1 Bx.2.1 d_Ru_tell_15 rfl (lv_at hl 0 rfl) ?_
  refine f_get Bx hP (by omega) hru rfl inRu 2 (by decide) kw_59 rfl rfl d_Ru_tell_16 ?_
  refine lv_aload_n Bx.1 Bx.2.1 d_Ru_tell_19 rfl (lv_at hl 1 rfl) ?_
  refine f_putN Bx hP hD hS (by omega) he_18 rfl inEl tyEl okEl nmEl 5 (by decide) kw_90 rfl rfl rfl rfl (Nat.le_of_ble_eq_true rfl) d_Ru_tell_20 (fun H locs hP hS => ?_)
  obtain ⟨mem20, e_mem20⟩ : ∃ z, z = va_up mem ((20 + 2 * j)) (.inr (2, [.int (k12), .int (lo13), .int (hi14), as15, pa16, .ref (ad (20 + 2 * k)), .ref (ad (21 + 2 * j))])) := ⟨_, rfl⟩
  have hP : va_P D vcl (fw n ad mem20) H := by rw [e_mem20]; exact hP
  have hD : va_D (Az sz) (fw n ad mem20) := fw_D hD
  have h_mem20 : mem20 ((20 + 2 * j)) = .inr (2, [.int (k12), .int (lo13), .int (hi14), as15, pa16, .ref (ad (20 + 2 * k)), .ref (ad (21 + 2 * j))]) := by rw [e_mem20, va_up_self]
  have hh21 := (va_up_ne mem (.inr (2, [.int (k12), .int (lo13), .int (hi14), as15, pa16, .ref (ad (20 + 2 * k)), .ref (ad (21 + 2 * j))])) (show (222 : Nat) ≠ (20 + 2 * j) by first | decide | assumption | omega)).trans h9_2
  rw [← e_mem20] at hh21
  have hh22 := (va_up_ne mem (.inr (2, [.int (k12), .int (lo13), .int (hi14), as15, pa16, .ref (ad (20 + 2 * k)), .ref (ad (21 + 2 * j))])) (show (1 : Nat) ≠ (20 + 2 * j) by first | decide | assumption | omega)).trans h1_3
  rw [← e_mem20] at hh22
  have hh23 := (va_up_ne mem (.inr (2, [.int (k12), .int (lo13), .int (hi14), as15, pa16, .ref (ad (20 + 2 * k)), .ref (ad (21 + 2 * j))])) (show (5 : Nat) ≠ (20 + 2 * j) by first | decide | assumption | omega)).trans h5_5
  rw [← e_mem20] at hh23
  have hh24 := (va_up_ne mem (.inr (2, [.int (k12), .int (lo13), .int (hi14), as15, pa16, .ref (ad (20 + 2 * k)), .ref (ad (21 + 2 * j))])) (show (220 : Nat) ≠ (20 + 2 * j) by first | decide | assumption | omega)).trans h220_9
  rw [← e_mem20] at hh24
  have hh25 := (va_up_ne mem (.inr (2, [.int (k12), .int (lo13), .int (hi14), as15, pa16, .ref (ad (20 + 2 * k)), .ref (ad (21 + 2 * j))])) (show ((7 + i) : Nat) ≠ (20 + 2 * j) by first | decide | assumption | omega)).trans hru
  rw [← e_mem20] at hh25
  have hRX26 : RX cy ad lim (a) (R) (Ec) (to) (nm) m0 mem20 := by rw [e_mem20]; exact hRX.el (by omega) (hRX.1.mk (by omega) (hRX.1.1.upEl (by omega) (fun q9 => ⟨(ho_19 q9).1, (ho_19 q9).2.1, Or.inr ⟨k, by omega, by omega, rfl⟩⟩)))
  refine lv_aload_n Bx.1 Bx.2.1 d_Ru_tell_23 rfl (lv_at hl 0 rfl) ?_
  refine lv_aload_n Bx.1 Bx.2.1 d_Ru_tell_24 rfl (lv_at hl 1 rfl) ?_
  refine f_put Bx hP hD hS (by omega) hh25 rfl inRu tyRu okRu nmRu 2 (by decide) kw_59 rfl rfl rfl rfl (Nat.le_of_ble_eq_true rfl) d_Ru_tell_25 (fun H locs hP hS => ?_)
  obtain ⟨mem27, e_mem27⟩ : ∃ z, z = va_up mem20 ((7 + i)) (.inr (5, [.long (nm i), .ref p9, .ref (ad (20 + 2 * k))])) := ⟨_, rfl⟩
  have hP : va_P D vcl (fw n ad mem27) H := by rw [e_mem27]; exact hP
  have hD : va_D (Az sz) (fw n ad mem27) := fw_D hD
  have h_mem27 : mem27 ((7 + i)) = .inr (5, [.long (nm i), .ref p9, .ref (ad (20 + 2 * k))]) := by rw [e_mem27, va_up_self]
  have hh28 := (va_up_ne mem20 (.inr (5, [.long (nm i), .ref p9, .ref (ad (20 + 2 * k))])) (show (222 : Nat) ≠ (7 + i) by first | decide | assumption | omega)).trans hh21
  rw [← e_mem27] at hh28
  have hh29 := (va_up_ne mem20 (.inr (5, [.long (nm i), .ref p9, .ref (ad (20 + 2 * k))])) (show (1 : Nat) ≠ (7 + i) by first | decide | assumption | omega)).trans hh22
  rw [← e_mem27] at hh29
  have hh30 := (va_up_ne mem20 (.inr (5, [.long (nm i), .ref p9, .ref (ad (20 + 2 * k))])) (show (5 : Nat) ≠ (7 + i) by first | decide | assumption | omega)).trans hh23
  rw [← e_mem27] at hh30
  have hh31 := (va_up_ne mem20 (.inr (5, [.long (nm i), .ref p9, .ref (ad (20 + 2 * k))])) (show (220 : Nat) ≠ (7 + i) by first | decide | assumption | omega)).trans hh24
  rw [← e_mem27] at hh31
  have hh32 := (va_up_ne mem20 (.inr (5, [.long (nm i), .ref p9, .ref (ad (20 + 2 * k))])) (show ((20 + 2 * j) : Nat) ≠ (7 + i) by first | decide | assumption | omega)).trans h_mem20
  rw [← e_mem27] at hh32
  exact W.vret hx hb hr (fun t ht hW => ⟨⟨mem27, rfl, ⟨by rw [e_mem27]; exact hRX26.tell hi (hRX26.1.grow.mk (by omega) (hRX26.1.grow.1.upRu (by omega) (fun _ => ⟨ho1.mono (by omega) (by omega), Or.inr ⟨k, by omega, by omega, rfl⟩⟩))) (fun x9 _ hne9 => va_up_ne _ _ hne9) (va_up_self _ _ _), by rw [e_mem27, va_up_self], by rw [e_mem27, va_up_ne _ _ (by omega)]; exact h_mem20, fun z q1 q2 => by rw [e_mem27, va_up_ne _ _ q1, e_mem20, va_up_ne _ _ q2]⟩, by show va_P _ _ _ t.heap; rw [ht]; exact hP⟩, hS.F ht⟩) hS.2.2 d_Ru_tell_28
set_option maxHeartbeats 4000000 in
set_option maxRecDepth 100000 in
theorem m_Rd_readRuleY (l : Launch) {D : va_G} {cy : Nat → ClassId} {sz n : Nat} {ad : Nat → Nat} {mem : Nat → va_E} {Z a R Ec lim : Nat} {f T : Nat → Int32} {nm : Nat → Int64} {m0 : Nat → va_E} {u S : Nat} {A Bw : Ro} {fi la : Nat → Int32} (hlt : l.stackTraces = false) (hn : 224 ≤ n) (hT : TX cy ad Z f m0) (hf : ∀ k, k < Z → f k = T k) (hRX : RX cy ad lim a R Ec (A 227) nm m0 mem) (haB : a ≤ 300) (haZ : a ≤ Z) (hT0 : ∀ k, k < Z → ¬ T k < 0) (hSa : S ≤ a) (hER : ER ad R Ec Bw mem) (hSR : SR cy ad S Bw mem) (hRC : RC ad R nm fi la mem) (hPI : PI R Ec S u A Bw fi la) : NXv l D cy sz n ad y_Rd_readRule c_Rd_readRule 4 ({ frames := 60, cells := 1, slots := 6, locals := 1500 } : Room) mem [.ref (ad 222)] (fun mem' => ∃ (a' u' R' E' lim' S' : Nat) (A' Bw' : Ro) (fi' la' : Nat → Int32) (nm' : Nat → Int64), ¬ ltF (hereF Z T a) = 0 ∧ RuleR T Z a u R Ec A nm (some (a', u', R', E', 0, A', nm', false)) ∧ a < a' ∧ a' ≤ Z ∧ RX cy ad lim' (lineF T Z (a' + 1)) R' E' (A' 227) nm' m0 mem' ∧ S' ≤ a' ∧ ER ad R' E' Bw' mem' ∧ SR cy ad S' Bw' mem' ∧ RC ad R' nm' fi' la' mem' ∧ PI R' E' S' u' A' Bw' fi' la') (fun X mem' => ((X = cIA ∨ X = cIS) ∧ ∃ lim' rc' ec' : Nat, RS cy ad lim' rc' ec' m0 mem') ∧ (ltF (hereF Z T a) = 0 ∨ RuleR T Z a u R Ec A nm none)) := by
  refine vx_ofW (cc := c_Rd_readRule) (maxL := 4) (ret := none) (by decide) rfl ?_
  intro p e s m args below meth c s₁ B hml hno hv
  obtain ⟨rfl, E, hP, hD⟩ := hv
  have hx := B.exec
  have hb := B.bytes
  have hr := B.returns
  have hlocks := B.notSynchronized
  have Bx : MB p s m [.ref (ad 222)].toArray c c_Rd_readRule "AbnfChart$Reader" D cy := ⟨hx, hb, tb_all (atoms_spec B.pre) E.2.1, findClass_of_methodNamed B.named, E.1⟩
  have hS : va_S (Az sz) s.heap s.heap [] := va_S.rf
  have hl := lv_entry ([.ref (ad 222)]) (n := 4) (Nat.le_of_ble_eq_true rfl)
  rw [lg_entry_eq]
  generalize (lg_sl ([.ref (ad 222)]) ++ List.replicate (4 - (lg_sl ([.ref (ad 222)])).length) Slot.unset).toArray = ls at hl ⊢
  have hl : lv_has ls 4 [(0, .ref (ad 222))] := hl
  have hZ9 := hT.2.1
  have hbd9 := hRX.1.1.1
  have hfr0 : ∀ i, 7 ≤ i ∧ i < 222 ∧ (i < 7 + R ∨ 19 ≤ i) → mem i = mem i := fun _ _ => rfl
  obtain ⟨ft1, h9_2⟩ := hRX.2.1
  have h1_3 : mem 1 = .inr (0, [.ref (ad 2), .int (nI Z)]) := (hRX.1.2.2 1 (by omega)).trans hT.1
  have h2_4 : mem 2 = .inl (cy 0, 240, .inl f) := (hRX.1.2.2 2 (by omega)).trans hT.2.2
  have h5_5 := hRX.1.1.2.1
  have hbd11 := hRX.1.1.1
  obtain ⟨S6, g7, hS_8, h220_9, h221_10⟩ := hRX.1.1.2.2.2.2.2.2
  refine lv_aload_n Bx.1 Bx.2.1 d_Rd_readRule_0 rfl (lv_at hl 0 rfl) ?_
  refine f_get Bx hP (by omega) h9_2 rfl inRd 2 (by decide) kw_146 rfl rfl d_Rd_readRule_1 ?_
  refine lv_istore_n (lv' := [(1, .int (nI a)), (0, .ref (ad 222))]) Bx.1 Bx.2.1 d_Rd_readRule_4 rfl hl (by decide) rfl (fun ls hl => ?_)
  refine lv_aload_n Bx.1 Bx.2.1 d_Rd_readRule_5 rfl (lv_at hl 1 rfl) ?_
  refine f_xVr (na := 0) (As := []) (rest := []) Bx hml E hP hD hS (by omega) h9_2 rfl (m_Rd_readNameY l hlt hn hT hf hRX (by omega) (A := A) (by omega)) kw_349 kw_351 sel_Rd_readName kw_6 kw_352 (by decide +kernel) ⟨rfl, rfl⟩ ⟨Nat.le_of_ble_eq_true rfl, Nat.le_of_ble_eq_true rfl⟩ rfl hl.1 (Nat.le_of_ble_eq_true rfl) d_Rd_readRule_6 ⟨Nat.le_of_ble_eq_true rfl, Nat.le_of_ble_eq_true rfl⟩ (fun X ce q9 memx H locs hx9 hP hS g1 g2 g3 => f_out hlocks hno hP hS g1 g2 g3 ⟨Nat.le_of_ble_eq_true rfl, Nat.le_of_ble_eq_true rfl⟩ ⟨⟨hx9.1.1, hx9.1.2.elim (fun a9 q9 => q9.elim (fun b9 q9 => ⟨_, a9, b9, q9⟩))⟩, hx9.2.elim Or.inl (fun z => Or.inr (Or.inl ⟨rule_n z, rfl⟩))⟩) (fun r12 mem13 H locs hq hP hS => ?_)
  have hD : va_D (Az sz) (fw n ad mem13) := fw_D hD
  obtain ⟨i, a1, R1, A1, nm1, hsn, hr9, hi, hR1, ha1, ha2, hA1, htk, ⟨to1, htk1, hRXn⟩, hle, hfn⟩ := hq
  subst hr9
  have hRXm : RX cy ad lim a1 R1 Ec (A1 227) nm1 m0 mem13 := hRXn.iff (fun x hx => by
    by_cases q : x < R
    · rw [htk.1 x q, htk1.1 x q]
    · rw [htk.2 x (by omega) hx, htk1.2 x (by omega) hx])
  have hfr14 : ∀ i, 7 ≤ i ∧ i < 222 ∧ (i < 7 + R ∨ 19 ≤ i) → mem13 i = mem i := fun i q => (hfn i (by omega)).trans (hfr0 i q)
  obtain ⟨ft15, h9_16⟩ := hRXm.2.1
  have h1_17 : mem13 1 = .inr (0, [.ref (ad 2), .int (nI Z)]) := (hRXm.1.2.2 1 (by omega)).trans hT.1
  have h2_18 : mem13 2 = .inl (cy 0, 240, .inl f) := (hRXm.1.2.2 2 (by omega)).trans hT.2.2
  have h5_19 := hRXm.1.1.2.1
  have hbd25 := hRXm.1.1.1
  obtain ⟨S20, g21, hS_22, h220_23, h221_24⟩ := hRXm.1.1.2.2.2.2.2.2
  refine lv_astore_n (lv' := [(2, .ref (ad (7 + i))), (1, .int (nI a)), (0, .ref (ad 222))]) Bx.1 Bx.2.1 d_Rd_readRule_9 rfl hl (by decide) rfl (fun ls hl => ?_)
  refine lv_aload_n Bx.1 Bx.2.1 d_Rd_readRule_10 rfl (lv_at hl 2 rfl) ?_
  refine f_callVi (na := 0) (As := []) (rest := []) Bx hml E hP hD hS (by omega) h9_16 rfl (m_Rd_readGapY l hn hT hf hRXm (by omega) (by omega)) kw_397 kw_399 sel_Rd_readGap kw_6 kw_400 (by decide +kernel) ⟨rfl, rfl⟩ ⟨Nat.le_of_ble_eq_true rfl, Nat.le_of_ble_eq_true rfl⟩ rfl hl.1 (Nat.le_of_ble_eq_true rfl) d_Rd_readRule_11 ⟨Nat.le_of_ble_eq_true rfl, Nat.le_of_ble_eq_true rfl⟩ (fun r26 mem27 H locs hq hP hS => ?_)
  have hD : va_D (Az sz) (fw n ad mem27) := fw_D hD
  obtain ⟨g28, eg29⟩ : ∃ z, z = gapF T Z (a1) := ⟨_, rfl⟩
  rw [← eg29] at hq
  obtain ⟨hRX30, hgc31, hfa32⟩ := hq
  have hg33 : a1 ≤ g28 := by rw [eg29]; exact gapF_ge T Z _
  have hg34 : g28 ≤ Z := by rw [eg29]; exact gapF_le T (by omega)
  have hfr35 : ∀ i, 7 ≤ i ∧ i < 222 ∧ (i < 7 + R ∨ 19 ≤ i) → mem27 i = mem i := fun i q => (hfa32 i (by omega)).trans (hfr14 i q)
  obtain ⟨ft36, h9_37⟩ := hRX30.2.1
  have h1_38 : mem27 1 = .inr (0, [.ref (ad 2), .int (nI Z)]) := (hRX30.1.2.2 1 (by omega)).trans hT.1
  have h2_39 : mem27 2 = .inl (cy 0, 240, .inl f) := (hRX30.1.2.2 2 (by omega)).trans hT.2.2
  have h5_40 := hRX30.1.1.2.1
  have hbd46 := hRX30.1.1.1
  obtain ⟨S41, g42, hS_43, h220_44, h221_45⟩ := hRX30.1.1.2.2.2.2.2.2
  refine lv_pop Bx.1 Bx.2.1 d_Rd_readRule_14 rfl ?_
  refine lv_aload_n Bx.1 Bx.2.1 d_Rd_readRule_15 rfl (lv_at hl 2 rfl) ?_
  refine lv_aload_n Bx.1 Bx.2.1 d_Rd_readRule_16 rfl (lv_at hl 2 rfl) ?_
  refine f_callVi (na := 0) (As := []) (rest := [.ref (ad 222)]) Bx hml E hP hD hS (by omega) h9_37 rfl (m_Rd_peekX l hn hT hf hRX30 (by omega)) kw_353 kw_355 sel_Rd_peek kw_6 kw_356 (by decide +kernel) ⟨rfl, rfl⟩ ⟨Nat.le_of_ble_eq_true rfl, Nat.le_of_ble_eq_true rfl⟩ rfl hl.1 (Nat.le_of_ble_eq_true rfl) d_Rd_readRule_17 ⟨Nat.le_of_ble_eq_true rfl, Nat.le_of_ble_eq_true rfl⟩ (fun r48 mem49 H locs hq hP hS => ?_)
  have hD : va_D (Az sz) (fw n ad mem49) := fw_D hD
  obtain ⟨hqe, hpk47⟩ := hq
  rw [hqe] at hP hD
  subst hpk47
  refine lv_bipush (v := 61) Bx.1 Bx.2.1 d_Rd_readRule_20 (by decide) ?_
  refine lv_icmp_ne Bx.1 Bx.2.1 d_Rd_readRule_22 rfl (fun hb51 => ?_) (fun hb51 => ?_)
  · refine lv_iconst (v := 0) Bx.1 Bx.2.1 d_Rd_readRule_29 (by decide) ?_
    refine lv_aload_n Bx.1 Bx.2.1 d_Rd_readRule_30 rfl (lv_at hl 2 rfl) ?_
    refine f_get Bx hP (by omega) h9_37 rfl inRd 2 (by decide) kw_146 rfl rfl d_Rd_readRule_31 ?_
    refine f_xVv (na := 2) (As := [.int (0), .int (nI g28)]) (rest := []) Bx hml E hP hD hS (by omega) h9_37 rfl (m_Rd_needReadableX l hlt hn hT hf hRX30 (by omega)) kw_360 kw_362 sel_Rd_needReadable kw_6 kw_363 (by decide +kernel) ⟨rfl, rfl⟩ ⟨Nat.le_of_ble_eq_true rfl, Nat.le_of_ble_eq_true rfl⟩ rfl hl.1 (Nat.le_of_ble_eq_true rfl) d_Rd_readRule_34 ⟨Nat.le_of_ble_eq_true rfl, Nat.le_of_ble_eq_true rfl⟩ (fun X ce q9 memx H locs hx9 hP hS g1 g2 g3 => f_out hlocks hno hP hS g1 g2 g3 ⟨Nat.le_of_ble_eq_true rfl, Nat.le_of_ble_eq_true rfl⟩ ⟨⟨hx9.1.1, hx9.1.2.elim (fun a9 q9 => q9.elim (fun b9 q9 => ⟨_, a9, b9, q9⟩))⟩, Or.inr (Or.inl ⟨rule_e hsn (by rw [← eg29]; exact hb51), rfl⟩)⟩) (fun mem53 H locs hq hP hS => ?_)
    have hD : va_D (Az sz) (fw n ad mem53) := fw_D hD
    obtain ⟨hqe, hg54⟩ := hq
    rw [hqe] at hP hD
    exact absurd rfl hg54
  · have hlt55 := hereF_lt (by rw [hb51]; decide)
    refine lv_iconst (v := 1) Bx.1 Bx.2.1 d_Rd_readRule_25 (by decide) ?_
    refine lv_goto Bx.1 Bx.2.1 d_Rd_readRule_26 rfl ?_
    refine lv_aload_n Bx.1 Bx.2.1 d_Rd_readRule_30 rfl (lv_at hl 2 rfl) ?_
    refine f_get Bx hP (by omega) h9_37 rfl inRd 2 (by decide) kw_146 rfl rfl d_Rd_readRule_31 ?_
    refine f_xVv (na := 2) (As := [.int (1), .int (nI g28)]) (rest := []) Bx hml E hP hD hS (by omega) h9_37 rfl (m_Rd_needReadableX l hlt hn hT hf hRX30 (by omega)) kw_360 kw_362 sel_Rd_needReadable kw_6 kw_363 (by decide +kernel) ⟨rfl, rfl⟩ ⟨Nat.le_of_ble_eq_true rfl, Nat.le_of_ble_eq_true rfl⟩ rfl hl.1 (Nat.le_of_ble_eq_true rfl) d_Rd_readRule_34 ⟨Nat.le_of_ble_eq_true rfl, Nat.le_of_ble_eq_true rfl⟩ (fun X ce q9 memx H locs hx9 hP hS g1 g2 g3 => f_out hlocks hno hP hS g1 g2 g3 ⟨Nat.le_of_ble_eq_true rfl, Nat.le_of_ble_eq_true rfl⟩ ⟨⟨hx9.1.1, hx9.1.2.elim (fun a9 q9 => q9.elim (fun b9 q9 => ⟨_, a9, b9, q9⟩))⟩, absurd hx9.2 (by decide)⟩) (fun mem57 H locs hq hP hS => ?_)
    have hD : va_D (Az sz) (fw n ad mem57) := fw_D hD
    obtain ⟨hqe, hg58⟩ := hq
    rw [hqe] at hP hD
    refine lv_aload_n Bx.1 Bx.2.1 d_Rd_readRule_37 rfl (lv_at hl 2 rfl) ?_
    refine lv_dup Bx.1 Bx.2.1 d_Rd_readRule_38 rfl ?_
    refine f_get Bx hP (by omega) h9_37 rfl inRd 2 (by decide) kw_146 rfl rfl d_Rd_readRule_39 ?_
    refine lv_iconst (v := 1) Bx.1 Bx.2.1 d_Rd_readRule_42 (by decide) ?_
    refine lv_iadd Bx.1 Bx.2.1 d_Rd_readRule_43 ?_
    rw [show nI g28 + 1 = nI (g28 + 1) from nI_add (g28) (1)]
    refine f_put Bx hP hD hS (by omega) h9_37 rfl inRd tyRd okRd nmRd 2 (by decide) kw_146 rfl rfl rfl rfl (Nat.le_of_ble_eq_true rfl) d_Rd_readRule_44 (fun H locs hP hS => ?_)
    obtain ⟨mem59, e_mem59⟩ : ∃ z, z = va_up mem27 (222) (.inr (4, [.ref (ad 1), .ref (ad 5), .int (nI (g28 + 1)), .int (ft36)])) := ⟨_, rfl⟩
    have hP : va_P D vcl (fw n ad mem59) H := by rw [e_mem59]; exact hP
    have hD : va_D (Az sz) (fw n ad mem59) := fw_D hD
    have h_mem59 : mem59 (222) = .inr (4, [.ref (ad 1), .ref (ad 5), .int (nI (g28 + 1)), .int (ft36)]) := by rw [e_mem59, va_up_self]
    have hh60 := (va_up_ne mem27 (.inr (4, [.ref (ad 1), .ref (ad 5), .int (nI (g28 + 1)), .int (ft36)])) (show (1 : Nat) ≠ 222 by first | decide | assumption | omega)).trans h1_38
    rw [← e_mem59] at hh60
    have hh61 := (va_up_ne mem27 (.inr (4, [.ref (ad 1), .ref (ad 5), .int (nI (g28 + 1)), .int (ft36)])) (show (5 : Nat) ≠ 222 by first | decide | assumption | omega)).trans h5_40
    rw [← e_mem59] at hh61
    have hh62 := (va_up_ne mem27 (.inr (4, [.ref (ad 1), .ref (ad 5), .int (nI (g28 + 1)), .int (ft36)])) (show (220 : Nat) ≠ 222 by first | decide | assumption | omega)).trans h220_44
    rw [← e_mem59] at hh62
    have hfr63 : ∀ i, 7 ≤ i ∧ i < 222 ∧ (i < 7 + R ∨ 19 ≤ i) → mem59 i = mem i := fun i q => (show mem59 i = mem27 i by rw [e_mem59]; exact va_up_ne _ _ (by omega)).trans (hfr35 i q)
    have hRX64 : RX cy ad lim (g28 + 1) (R1) (Ec) (A1 227) (nm1) m0 mem59 := by rw [e_mem59]; exact hRX30.at
    refine lv_aload_n Bx.1 Bx.2.1 d_Rd_readRule_47 rfl (lv_at hl 2 rfl) ?_
    refine f_callVi (na := 0) (As := []) (rest := []) Bx hml E hP hD hS (by omega) h_mem59 rfl (m_Rd_peekX l hn hT hf hRX64 (by omega)) kw_353 kw_355 sel_Rd_peek kw_6 kw_356 (by decide +kernel) ⟨rfl, rfl⟩ ⟨Nat.le_of_ble_eq_true rfl, Nat.le_of_ble_eq_true rfl⟩ rfl hl.1 (Nat.le_of_ble_eq_true rfl) d_Rd_readRule_48 ⟨Nat.le_of_ble_eq_true rfl, Nat.le_of_ble_eq_true rfl⟩ (fun r66 mem67 H locs hq hP hS => ?_)
    have hD : va_D (Az sz) (fw n ad mem67) := fw_D hD
    obtain ⟨hqe, hpk65⟩ := hq
    rw [hqe] at hP hD
    subst hpk65
    refine lv_bipush (v := 47) Bx.1 Bx.2.1 d_Rd_readRule_51 (by decide) ?_
    refine lv_icmp_ne Bx.1 Bx.2.1 d_Rd_readRule_53 rfl (fun hb69 => ?_) (fun hb69 => ?_)
    · refine lv_iconst (v := 0) Bx.1 Bx.2.1 d_Rd_readRule_60 (by decide) ?_
      refine lv_istore_n (lv' := [(3, .int (0)), (2, .ref (ad (7 + i))), (1, .int (nI a)), (0, .ref (ad 222))]) Bx.1 Bx.2.1 d_Rd_readRule_61 rfl hl (by decide) rfl (fun ls hl => ?_)
      refine lv_iload_n Bx.1 Bx.2.1 d_Rd_readRule_62 rfl (lv_at hl 0 rfl) ?_
      refine lv_if_eq Bx.1 Bx.2.1 d_Rd_readRule_63 rfl (fun hb70 => ?_) (fun hb70 => ?_)
      · refine lv_aload_n Bx.1 Bx.2.1 d_Rd_readRule_76 rfl (lv_at hl 3 rfl) ?_
        refine lv_aload_n Bx.1 Bx.2.1 d_Rd_readRule_77 rfl (lv_at hl 1 rfl) ?_
        obtain ⟨fi71, la72, hru73, hro74, hro75⟩ := hRX64.2.2 i (by omega)
        refine f_callVi (na := 0) (As := []) (rest := [.ref (ad 222)]) Bx hml E hP hD hS (by omega) hru73 rfl (m_Ru_isToldX l hn hT hf hRX64 (by omega) hi) kw_401 kw_402 kw_403 kw_4 kw_404 (by decide +kernel) ⟨rfl, rfl⟩ ⟨Nat.le_of_ble_eq_true rfl, Nat.le_of_ble_eq_true rfl⟩ rfl hl.1 (Nat.le_of_ble_eq_true rfl) d_Rd_readRule_78 ⟨Nat.le_of_ble_eq_true rfl, Nat.le_of_ble_eq_true rfl⟩ (fun r76 mem77 H locs hq hP hS => ?_)
        have hD : va_D (Az sz) (fw n ad mem77) := fw_D hD
        obtain ⟨hqe, hto⟩ := hq
        rw [hqe] at hP hD
        rcases hto with ⟨hr79, hto80⟩ | ⟨hr79, hto80⟩
        · subst hr79
          refine lv_iload_n Bx.1 Bx.2.1 d_Rd_readRule_81 rfl (lv_at hl 0 rfl) ?_
          refine lv_icmp_ne Bx.1 Bx.2.1 d_Rd_readRule_82 rfl (fun hb81 => ?_) (fun hb81 => ?_)
          · exact absurd hb81 (by decide)
          · refine lv_iconst (v := 1) Bx.1 Bx.2.1 d_Rd_readRule_85 (by decide) ?_
            refine lv_goto Bx.1 Bx.2.1 d_Rd_readRule_86 rfl ?_
            refine lv_iload_n Bx.1 Bx.2.1 d_Rd_readRule_90 rfl (lv_at hl 2 rfl) ?_
            refine f_xVv (na := 2) (As := [.int (1), .int (nI a)]) (rest := []) Bx hml E hP hD hS (by omega) h_mem59 rfl (m_Rd_needReadableX l hlt hn hT hf hRX64 (by omega)) kw_360 kw_362 sel_Rd_needReadable kw_6 kw_363 (by decide +kernel) ⟨rfl, rfl⟩ ⟨Nat.le_of_ble_eq_true rfl, Nat.le_of_ble_eq_true rfl⟩ rfl hl.1 (Nat.le_of_ble_eq_true rfl) d_Rd_readRule_91 ⟨Nat.le_of_ble_eq_true rfl, Nat.le_of_ble_eq_true rfl⟩ (fun X ce q9 memx H locs hx9 hP hS g1 g2 g3 => f_out hlocks hno hP hS g1 g2 g3 ⟨Nat.le_of_ble_eq_true rfl, Nat.le_of_ble_eq_true rfl⟩ ⟨⟨hx9.1.1, hx9.1.2.elim (fun a9 q9 => q9.elim (fun b9 q9 => ⟨_, a9, b9, q9⟩))⟩, absurd hx9.2 (by decide)⟩) (fun mem83 H locs hq hP hS => ?_)
            have hD : va_D (Az sz) (fw n ad mem83) := fw_D hD
            obtain ⟨hqe, hg84⟩ := hq
            rw [hqe] at hP hD
            refine lv_aload_n Bx.1 Bx.2.1 d_Rd_readRule_94 rfl (lv_at hl 3 rfl) ?_
            refine f_callVi (na := 0) (As := []) (rest := []) Bx hml E hP hD hS (by omega) h_mem59 rfl (m_Rd_readGapY l hn hT hf hRX64 (by omega) (by omega)) kw_397 kw_399 sel_Rd_readGap kw_6 kw_400 (by decide +kernel) ⟨rfl, rfl⟩ ⟨Nat.le_of_ble_eq_true rfl, Nat.le_of_ble_eq_true rfl⟩ rfl hl.1 (Nat.le_of_ble_eq_true rfl) d_Rd_readRule_95 ⟨Nat.le_of_ble_eq_true rfl, Nat.le_of_ble_eq_true rfl⟩ (fun r85 mem86 H locs hq hP hS => ?_)
            have hD : va_D (Az sz) (fw n ad mem86) := fw_D hD
            obtain ⟨g87, eg88⟩ : ∃ z, z = gapF T Z (g28 + 1) := ⟨_, rfl⟩
            rw [← eg88] at hq
            obtain ⟨hRX89, hgc90, hfa91⟩ := hq
            have hg92 : g28 + 1 ≤ g87 := by rw [eg88]; exact gapF_ge T Z _
            have hg93 : g87 ≤ Z := by rw [eg88]; exact gapF_le T (by omega)
            have hfr94 : ∀ i, 7 ≤ i ∧ i < 222 ∧ (i < 7 + R ∨ 19 ≤ i) → mem86 i = mem i := fun i q => (hfa91 i (by omega)).trans (hfr63 i q)
            obtain ⟨ft95, h9_96⟩ := hRX89.2.1
            have h1_97 : mem86 1 = .inr (0, [.ref (ad 2), .int (nI Z)]) := (hRX89.1.2.2 1 (by omega)).trans hT.1
            have h2_98 : mem86 2 = .inl (cy 0, 240, .inl f) := (hRX89.1.2.2 2 (by omega)).trans hT.2.2
            have h5_99 := hRX89.1.1.2.1
            have hbd105 := hRX89.1.1.1
            obtain ⟨S100, g101, hS_102, h220_103, h221_104⟩ := hRX89.1.1.2.2.2.2.2.2
            refine lv_pop Bx.1 Bx.2.1 d_Rd_readRule_98 rfl ?_
            refine lv_aload_n Bx.1 Bx.2.1 d_Rd_readRule_99 rfl (lv_at hl 1 rfl) ?_
            refine lv_aload_n Bx.1 Bx.2.1 d_Rd_readRule_100 rfl (lv_at hl 3 rfl) ?_
            refine lv_iconst (v := 0) Bx.1 Bx.2.1 d_Rd_readRule_101 (by decide) ?_
            have hrs : ruleS T Z a u R Ec A nm = ent0S T Z (g28 + 1) u R1 Ec i A1 nm1 := by rw [rule_s hsn (by rw [← eg29]; exact hb51) (by rw [← eg29]; exact hb69) hto80, ← eg29]
            have her1 : ER ad R1 Ec Bw mem86 := hER.fr hR1 (fun k9 hk9 => hfr94 (20 + 2 * k9) (by omega))
            have hsr1 : SR cy ad S Bw mem86 := ⟨(hfr94 220 (by omega)).trans hSR.1, (hfr94 221 (by omega)).trans hSR.2⟩
            have hRC1 : RC ad R1 nm1 (extN R fi) (extN R la) mem86 := rc_ext hRX89 hRC (fun i9 hi9 => hfr94 (7 + i9) (by omega)) (fun i9 h1 h2 => by rw [htk.2 i9 h1 h2]; decide)
            have hPI1 := hPI.name hA1 htk hR1
            refine f_xVr (na := 1) (As := [.int (0)]) (rest := [.ref (ad (7 + i))]) Bx hml E hP hD hS (by omega) h9_96 rfl (m_Rd_readAlternatives_0Y l hlt hn hT hf hRX89 (by omega) (u := u) (A := ent0A A1 Ec i) her1 hsr1 (by omega) (by omega) (ent0_lka hPI1.lka) (cq := Ec) (ent0_new hto80).2 (by omega) ent0_39) kw_405 kw_407 sel_Rd_readAlternatives kw_6 kw_408 (by decide +kernel) ⟨rfl, rfl⟩ ⟨Nat.le_of_ble_eq_true rfl, Nat.le_of_ble_eq_true rfl⟩ rfl hl.1 (Nat.le_of_ble_eq_true rfl) d_Rd_readRule_102 ⟨Nat.le_of_ble_eq_true rfl, Nat.le_of_ble_eq_true rfl⟩ (fun X ce q9 memx H locs hx9 hP hS g1 g2 g3 => f_out hlocks hno hP hS g1 g2 g3 ⟨Nat.le_of_ble_eq_true rfl, Nat.le_of_ble_eq_true rfl⟩ ⟨⟨hx9.1.1, hx9.1.2.elim (fun a9 q9 => q9.elim (fun b9 q9 => ⟨_, a9, b9, q9⟩))⟩, Or.inr (RuleR.fai (by rw [hrs]; exact hx9.2.elim (fun z => Or.inl (ent0S_no (Or.inl (by rw [← eg88]; exact z)))) (fun z => z.elim (fun z => Or.inl (ent0S_no (Or.inr z))) (fun z => Fai.br0 (by rw [ent0_ok (by rw [← eg88]; exact z.1) z.2.1, ← eg88]) z.2.2))))⟩) (fun r106 mem107 H locs hq hP hS => ?_)
            have hD : va_D (Az sz) (fw n ad mem107) := fw_D hD
            obtain ⟨la108, ax109, ux110, Rx111, Ex112, Sx113, Ax114, Bx_115, nx116, tox117, hr9118, h1119, h2120, h3121, h4122, htk123, hrk124, hRX125, ali126, hbg127, hE128, h47129, hnb130⟩ := hq
            subst hr9118
            obtain ⟨g131, eg132⟩ : ∃ z, z = gapF T Z ax109 := ⟨_, rfl⟩
            have hg133 : ax109 ≤ g131 := by rw [eg132]; exact gapF_ge T Z _
            have hg134 : g131 ≤ Z := by rw [eg132]; exact gapF_le T (by omega)
            rw [← eg132] at hRX125
            obtain ⟨ft135, h9_136⟩ := hRX125.2.1
            have h1_137 : mem107 1 = .inr (0, [.ref (ad 2), .int (nI Z)]) := (hRX125.1.2.2 1 (by omega)).trans hT.1
            have h2_138 : mem107 2 = .inl (cy 0, 240, .inl f) := (hRX125.1.2.2 2 (by omega)).trans hT.2.2
            have h5_139 := hRX125.1.1.2.1
            have hbd145 := hRX125.1.1.1
            obtain ⟨S140, g141, hS_142, h220_143, h221_144⟩ := hRX125.1.1.2.2.2.2.2.2
            have hbd146 := hRX125.1.1.1
            obtain ⟨v9, hv9, hv0⟩ := ent0A_7 (A := A1) (r := i) hE128
            have hrs2 : ruleS T Z a u R Ec A nm = some (g87, u, R1, Ec + 1, 0, ent0A A1 Ec i, nm1, true) := by rw [hrs, ent0_ok (by rw [← eg88]; exact hbg127) hE128, ← eg88]
            have hfin := rule_finU hrs2 ali126.1 (by rw [ent0A_5, upd_self]) h47129 hnb130
            have htk9 : TOK R1 Rx111 (ent0A A1 Ec i 227) (Ax114 227) := by
              obtain ⟨_, _, _, _, hs⟩ := ali126.1
              exact hs
            have hRC2 : RC ad Rx111 nx116 (extN R1 (extN R fi)) (extN R1 (extN R la)) mem107 := rc_ext hRX125 hRC1 hrk124 (fun i9 h1 h2 => by rw [htk123.2 i9 h1 h2]; decide)
            obtain ⟨-, ef1, el1⟩ := hPI1.untold hi (by omega) hto80
            have hru0 : mem107 (7 + i) = .inr (5, [.long (nx116 i), .null, .null]) := by rw [hRC2 i (by omega), extN_lt hi, extN_lt hi, ef1, el1, vE_m]
            refine f_callVv (na := 1) (As := [.ref (ad (20 + 2 * Ec))]) (rest := []) Bx hml E hP hD hS (by omega) hru0 rfl (m_Ru_tellY0 l hn hT hf hRX125 (by omega) (i := i) (k := Ec) (by omega) ⟨by omega, by omega⟩ hru0) kw_490 kw_491 kw_492 kw_4 kw_493 (by decide +kernel) ⟨rfl, rfl⟩ ⟨Nat.le_of_ble_eq_true rfl, Nat.le_of_ble_eq_true rfl⟩ rfl hl.1 (Nat.le_of_ble_eq_true rfl) d_Rd_readRule_105 ⟨Nat.le_of_ble_eq_true rfl, Nat.le_of_ble_eq_true rfl⟩ (fun mem148 H locs hq hP hS => ?_)
            have hD : va_D (Az sz) (fw n ad mem148) := fw_D hD
            obtain ⟨hqt, hqc, hqf⟩ := hq
            have her3 : ER ad Rx111 Ex112 Bx_115 mem148 := ali126.2.1.fr (Nat.le_refl _) (fun k9 hk9 => hqf (20 + 2 * k9) (by omega))
            have hsr3 : SR cy ad Sx113 Bx_115 mem148 := ⟨(hqf 220 (by omega)).trans ali126.2.2.1.1, (hqf 221 (by omega)).trans ali126.2.2.1.2⟩
            have hrc3 : RC ad Rx111 nx116 (upd (extN R1 (extN R fi)) i (nI Ec)) (upd (extN R1 (extN R la)) i (nI Ec)) mem148 := fun z hz => by
              by_cases q : z = i
              · subst q; rw [upd_self, upd_self, vE_n ad (show Ec < 2 ^ 31 by omega)]; exact hqc
              · rw [upd_ne q, upd_ne q]; exact (hqf (7 + z) (by omega)).trans (hRC2 z hz)
            have hpi3 : PI Rx111 Ex112 Sx113 ux110 Ax114 Bx_115 (upd (extN R1 (extN R fi)) i (nI Ec)) (upd (extN R1 (extN R la)) i (nI Ec)) := pi_one hPI1 hi hE128 hto80 ali126 ⟨by omega, by omega, by omega⟩ hER.lka
            have hRX149 : RX cy ad Ex112 (g131) (Rx111) (Ex112) (Ax114 227) (nx116) m0 mem148 := hqt.iff (fun x hx => tell_iff hi htk123 htk9 hv9 hv0 x hx)
            have hfr150 : ∀ i, i ≠ 222 → mem148 i = mem148 i := fun _ _ => rfl
            obtain ⟨ft151, h9_152⟩ := hRX149.2.1
            have h1_153 : mem148 1 = .inr (0, [.ref (ad 2), .int (nI Z)]) := (hRX149.1.2.2 1 (by omega)).trans hT.1
            have h2_154 : mem148 2 = .inl (cy 0, 240, .inl f) := (hRX149.1.2.2 2 (by omega)).trans hT.2.2
            have h5_155 := hRX149.1.1.2.1
            have hbd161 := hRX149.1.1.1
            obtain ⟨S156, g157, hS_158, h220_159, h221_160⟩ := hRX149.1.1.2.2.2.2.2.2
            refine lv_aload_n Bx.1 Bx.2.1 d_Rd_readRule_108 rfl (lv_at hl 3 rfl) ?_
            refine lv_aload_n Bx.1 Bx.2.1 d_Rd_readRule_109 rfl (lv_at hl 3 rfl) ?_
            refine f_callVi (na := 0) (As := []) (rest := [.ref (ad 222)]) Bx hml E hP hD hS (by omega) h9_152 rfl (m_Rd_peekX l hn hT hf hRX149 (by omega)) kw_353 kw_355 sel_Rd_peek kw_6 kw_356 (by decide +kernel) ⟨rfl, rfl⟩ ⟨Nat.le_of_ble_eq_true rfl, Nat.le_of_ble_eq_true rfl⟩ rfl hl.1 (Nat.le_of_ble_eq_true rfl) d_Rd_readRule_110 ⟨Nat.le_of_ble_eq_true rfl, Nat.le_of_ble_eq_true rfl⟩ (fun r163 mem164 H locs hq hP hS => ?_)
            have hD : va_D (Az sz) (fw n ad mem164) := fw_D hD
            obtain ⟨hqe, hpk162⟩ := hq
            rw [hqe] at hP hD
            subst hpk162
            refine lv_iconst (v := -1) Bx.1 Bx.2.1 d_Rd_readRule_113 (by decide) ?_
            refine lv_icmp_eq Bx.1 Bx.2.1 d_Rd_readRule_114 rfl (fun hb166 => ?_) (fun hb166 => ?_)
            · refine lv_iconst (v := 1) Bx.1 Bx.2.1 d_Rd_readRule_126 (by decide) ?_
              refine lv_goto Bx.1 Bx.2.1 d_Rd_readRule_127 rfl ?_
              refine lv_aload_n Bx.1 Bx.2.1 d_Rd_readRule_131 rfl (lv_at hl 3 rfl) ?_
              refine f_get Bx hP (by omega) h9_152 rfl inRd 2 (by decide) kw_146 rfl rfl d_Rd_readRule_132 ?_
              refine f_xVv (na := 2) (As := [.int (1), .int (nI g131)]) (rest := []) Bx hml E hP hD hS (by omega) h9_152 rfl (m_Rd_needReadableX l hlt hn hT hf hRX149 (by omega)) kw_360 kw_362 sel_Rd_needReadable kw_6 kw_363 (by decide +kernel) ⟨rfl, rfl⟩ ⟨Nat.le_of_ble_eq_true rfl, Nat.le_of_ble_eq_true rfl⟩ rfl hl.1 (Nat.le_of_ble_eq_true rfl) d_Rd_readRule_135 ⟨Nat.le_of_ble_eq_true rfl, Nat.le_of_ble_eq_true rfl⟩ (fun X ce q9 memx H locs hx9 hP hS g1 g2 g3 => f_out hlocks hno hP hS g1 g2 g3 ⟨Nat.le_of_ble_eq_true rfl, Nat.le_of_ble_eq_true rfl⟩ ⟨⟨hx9.1.1, hx9.1.2.elim (fun a9 q9 => q9.elim (fun b9 q9 => ⟨_, a9, b9, q9⟩))⟩, absurd hx9.2 (by decide)⟩) (fun mem168 H locs hq hP hS => ?_)
              have hD : va_D (Az sz) (fw n ad mem168) := fw_D hD
              obtain ⟨hqe, hg169⟩ := hq
              rw [hqe] at hP hD
              refine lv_aload_n Bx.1 Bx.2.1 d_Rd_readRule_138 rfl (lv_at hl 3 rfl) ?_
              refine lv_aload_n Bx.1 Bx.2.1 d_Rd_readRule_139 rfl (lv_at hl 3 rfl) ?_
              refine lv_aload_n Bx.1 Bx.2.1 d_Rd_readRule_140 rfl (lv_at hl 3 rfl) ?_
              refine f_get Bx hP (by omega) h9_152 rfl inRd 2 (by decide) kw_146 rfl rfl d_Rd_readRule_141 ?_
              refine lv_iconst (v := 1) Bx.1 Bx.2.1 d_Rd_readRule_144 (by decide) ?_
              refine lv_iadd Bx.1 Bx.2.1 d_Rd_readRule_145 ?_
              rw [show nI g131 + 1 = nI (g131 + 1) from nI_add (g131) (1)]
              refine f_callVi (na := 1) (As := [.int (nI (g131 + 1))]) (rest := [.ref (ad 222)]) Bx hml E hP hD hS (by omega) h9_152 rfl (m_Rd_fullLineFromX l hn hT hf hRX149 (k0 := g131 + 1) (by omega)) kw_337 kw_339 sel_Rd_fullLineFrom kw_6 kw_340 (by decide +kernel) ⟨rfl, rfl⟩ ⟨Nat.le_of_ble_eq_true rfl, Nat.le_of_ble_eq_true rfl⟩ rfl hl.1 (Nat.le_of_ble_eq_true rfl) d_Rd_readRule_146 ⟨Nat.le_of_ble_eq_true rfl, Nat.le_of_ble_eq_true rfl⟩ (fun r171 mem172 H locs hq hP hS => ?_)
              have hD : va_D (Az sz) (fw n ad mem172) := fw_D hD
              obtain ⟨hqe, hfl170⟩ := hq
              rw [hqe] at hP hD
              obtain ⟨li174, ea175⟩ : ∃ z, z = lineF T Z (g131 + 1) := ⟨_, rfl⟩
              rw [← ea175] at hfl170
              subst hfl170
              have hb176 : li174 ≤ Z := by rw [ea175]; exact lineF_le T Z _
              refine f_put Bx hP hD hS (by omega) h9_152 rfl inRd tyRd okRd nmRd 2 (by decide) kw_146 rfl rfl rfl rfl (Nat.le_of_ble_eq_true rfl) d_Rd_readRule_149 (fun H locs hP hS => ?_)
              obtain ⟨mem177, e_mem177⟩ : ∃ z, z = va_up mem148 (222) (.inr (4, [.ref (ad 1), .ref (ad 5), .int (nI li174), .int (ft151)])) := ⟨_, rfl⟩
              have hP : va_P D vcl (fw n ad mem177) H := by rw [e_mem177]; exact hP
              have hD : va_D (Az sz) (fw n ad mem177) := fw_D hD
              have h_mem177 : mem177 (222) = .inr (4, [.ref (ad 1), .ref (ad 5), .int (nI li174), .int (ft151)]) := by rw [e_mem177, va_up_self]
              have hh178 := (va_up_ne mem148 (.inr (4, [.ref (ad 1), .ref (ad 5), .int (nI li174), .int (ft151)])) (show (1 : Nat) ≠ 222 by first | decide | assumption | omega)).trans h1_153
              rw [← e_mem177] at hh178
              have hh179 := (va_up_ne mem148 (.inr (4, [.ref (ad 1), .ref (ad 5), .int (nI li174), .int (ft151)])) (show (5 : Nat) ≠ 222 by first | decide | assumption | omega)).trans h5_155
              rw [← e_mem177] at hh179
              have hh180 := (va_up_ne mem148 (.inr (4, [.ref (ad 1), .ref (ad 5), .int (nI li174), .int (ft151)])) (show (220 : Nat) ≠ 222 by first | decide | assumption | omega)).trans h220_159
              rw [← e_mem177] at hh180
              have hfr181 : ∀ i, i ≠ 222 → mem177 i = mem148 i := fun i q => (show mem177 i = mem148 i by rw [e_mem177]; exact va_up_ne _ _ (by omega)).trans (hfr150 i q)
              have hRX182 : RX cy ad Ex112 (li174) (Rx111) (Ex112) (Ax114 227) (nx116) m0 mem177 := by rw [e_mem177]; exact hRX149.at
              have hrr9 := hfin.1 (by rw [← eg132]; exact Or.inr (by rw [hb166]; decide))
              have hS9 := ali126.2.2.2.1.2.1
              exact x_vret hx hb hlocks hr (⟨g131, ux110, Rx111, Ex112, _, Sx113, Ax114, Bx_115, (upd (extN R1 (extN R fi)) i (nI Ec)), (upd (extN R1 (extN R la)) i (nI Ec)), nx116, hle, by rw [eg132]; exact hrr9, by omega, by omega, by rw [← ea175]; exact hRX182, by omega, her3.fr (Nat.le_refl _) (fun k9 hk9 => hfr181 (20 + 2 * k9) (by omega)), ⟨(hfr181 220 (by omega)).trans hsr3.1, (hfr181 221 (by omega)).trans hsr3.2⟩, fun i9 hi9 => (hfr181 (7 + i9) (by omega)).trans (hrc3 i9 hi9), hpi3⟩) hP hS d_Rd_readRule_152
            · refine lv_aload_n Bx.1 Bx.2.1 d_Rd_readRule_117 rfl (lv_at hl 3 rfl) ?_
              refine f_callVi (na := 0) (As := []) (rest := [.ref (ad 222)]) Bx hml E hP hD hS (by omega) h9_152 rfl (m_Rd_peekX l hn hT hf hRX149 (by omega)) kw_353 kw_355 sel_Rd_peek kw_6 kw_356 (by decide +kernel) ⟨rfl, rfl⟩ ⟨Nat.le_of_ble_eq_true rfl, Nat.le_of_ble_eq_true rfl⟩ rfl hl.1 (Nat.le_of_ble_eq_true rfl) d_Rd_readRule_118 ⟨Nat.le_of_ble_eq_true rfl, Nat.le_of_ble_eq_true rfl⟩ (fun r184 mem185 H locs hq hP hS => ?_)
              have hD : va_D (Az sz) (fw n ad mem185) := fw_D hD
              obtain ⟨hqe, hpk183⟩ := hq
              rw [hqe] at hP hD
              subst hpk183
              refine lv_bipush (v := 10) Bx.1 Bx.2.1 d_Rd_readRule_121 (by decide) ?_
              refine lv_icmp_ne Bx.1 Bx.2.1 d_Rd_readRule_123 rfl (fun hb187 => ?_) (fun hb187 => ?_)
              · refine lv_iconst (v := 0) Bx.1 Bx.2.1 d_Rd_readRule_130 (by decide) ?_
                refine lv_aload_n Bx.1 Bx.2.1 d_Rd_readRule_131 rfl (lv_at hl 3 rfl) ?_
                refine f_get Bx hP (by omega) h9_152 rfl inRd 2 (by decide) kw_146 rfl rfl d_Rd_readRule_132 ?_
                refine f_xVv (na := 2) (As := [.int (0), .int (nI g131)]) (rest := []) Bx hml E hP hD hS (by omega) h9_152 rfl (m_Rd_needReadableX l hlt hn hT hf hRX149 (by omega)) kw_360 kw_362 sel_Rd_needReadable kw_6 kw_363 (by decide +kernel) ⟨rfl, rfl⟩ ⟨Nat.le_of_ble_eq_true rfl, Nat.le_of_ble_eq_true rfl⟩ rfl hl.1 (Nat.le_of_ble_eq_true rfl) d_Rd_readRule_135 ⟨Nat.le_of_ble_eq_true rfl, Nat.le_of_ble_eq_true rfl⟩ (fun X ce q9 memx H locs hx9 hP hS g1 g2 g3 => f_out hlocks hno hP hS g1 g2 g3 ⟨Nat.le_of_ble_eq_true rfl, Nat.le_of_ble_eq_true rfl⟩ ⟨⟨hx9.1.1, hx9.1.2.elim (fun a9 q9 => q9.elim (fun b9 q9 => ⟨_, a9, b9, q9⟩))⟩, Or.inr (hfin.2 (fun z => z.elim (fun y => hb187 (by rw [eg132]; exact y)) (fun y => hereF_pos hT0 hb166 (by rw [eg132]; exact y))))⟩) (fun mem189 H locs hq hP hS => ?_)
                have hD : va_D (Az sz) (fw n ad mem189) := fw_D hD
                obtain ⟨hqe, hg190⟩ := hq
                rw [hqe] at hP hD
                exact absurd rfl hg190
              · have hlt191 := hereF_lt (by rw [hb187]; decide)
                refine lv_iconst (v := 1) Bx.1 Bx.2.1 d_Rd_readRule_126 (by decide) ?_
                refine lv_goto Bx.1 Bx.2.1 d_Rd_readRule_127 rfl ?_
                refine lv_aload_n Bx.1 Bx.2.1 d_Rd_readRule_131 rfl (lv_at hl 3 rfl) ?_
                refine f_get Bx hP (by omega) h9_152 rfl inRd 2 (by decide) kw_146 rfl rfl d_Rd_readRule_132 ?_
                refine f_xVv (na := 2) (As := [.int (1), .int (nI g131)]) (rest := []) Bx hml E hP hD hS (by omega) h9_152 rfl (m_Rd_needReadableX l hlt hn hT hf hRX149 (by omega)) kw_360 kw_362 sel_Rd_needReadable kw_6 kw_363 (by decide +kernel) ⟨rfl, rfl⟩ ⟨Nat.le_of_ble_eq_true rfl, Nat.le_of_ble_eq_true rfl⟩ rfl hl.1 (Nat.le_of_ble_eq_true rfl) d_Rd_readRule_135 ⟨Nat.le_of_ble_eq_true rfl, Nat.le_of_ble_eq_true rfl⟩ (fun X ce q9 memx H locs hx9 hP hS g1 g2 g3 => f_out hlocks hno hP hS g1 g2 g3 ⟨Nat.le_of_ble_eq_true rfl, Nat.le_of_ble_eq_true rfl⟩ ⟨⟨hx9.1.1, hx9.1.2.elim (fun a9 q9 => q9.elim (fun b9 q9 => ⟨_, a9, b9, q9⟩))⟩, absurd hx9.2 (by decide)⟩) (fun mem193 H locs hq hP hS => ?_)
                have hD : va_D (Az sz) (fw n ad mem193) := fw_D hD
                obtain ⟨hqe, hg194⟩ := hq
                rw [hqe] at hP hD
                refine lv_aload_n Bx.1 Bx.2.1 d_Rd_readRule_138 rfl (lv_at hl 3 rfl) ?_
                refine lv_aload_n Bx.1 Bx.2.1 d_Rd_readRule_139 rfl (lv_at hl 3 rfl) ?_
                refine lv_aload_n Bx.1 Bx.2.1 d_Rd_readRule_140 rfl (lv_at hl 3 rfl) ?_
                refine f_get Bx hP (by omega) h9_152 rfl inRd 2 (by decide) kw_146 rfl rfl d_Rd_readRule_141 ?_
                refine lv_iconst (v := 1) Bx.1 Bx.2.1 d_Rd_readRule_144 (by decide) ?_
                refine lv_iadd Bx.1 Bx.2.1 d_Rd_readRule_145 ?_
                rw [show nI g131 + 1 = nI (g131 + 1) from nI_add (g131) (1)]
                refine f_callVi (na := 1) (As := [.int (nI (g131 + 1))]) (rest := [.ref (ad 222)]) Bx hml E hP hD hS (by omega) h9_152 rfl (m_Rd_fullLineFromX l hn hT hf hRX149 (k0 := g131 + 1) (by omega)) kw_337 kw_339 sel_Rd_fullLineFrom kw_6 kw_340 (by decide +kernel) ⟨rfl, rfl⟩ ⟨Nat.le_of_ble_eq_true rfl, Nat.le_of_ble_eq_true rfl⟩ rfl hl.1 (Nat.le_of_ble_eq_true rfl) d_Rd_readRule_146 ⟨Nat.le_of_ble_eq_true rfl, Nat.le_of_ble_eq_true rfl⟩ (fun r196 mem197 H locs hq hP hS => ?_)
                have hD : va_D (Az sz) (fw n ad mem197) := fw_D hD
                obtain ⟨hqe, hfl195⟩ := hq
                rw [hqe] at hP hD
                obtain ⟨li199, ea200⟩ : ∃ z, z = lineF T Z (g131 + 1) := ⟨_, rfl⟩
                rw [← ea200] at hfl195
                subst hfl195
                have hb201 : li199 ≤ Z := by rw [ea200]; exact lineF_le T Z _
                refine f_put Bx hP hD hS (by omega) h9_152 rfl inRd tyRd okRd nmRd 2 (by decide) kw_146 rfl rfl rfl rfl (Nat.le_of_ble_eq_true rfl) d_Rd_readRule_149 (fun H locs hP hS => ?_)
                obtain ⟨mem202, e_mem202⟩ : ∃ z, z = va_up mem148 (222) (.inr (4, [.ref (ad 1), .ref (ad 5), .int (nI li199), .int (ft151)])) := ⟨_, rfl⟩
                have hP : va_P D vcl (fw n ad mem202) H := by rw [e_mem202]; exact hP
                have hD : va_D (Az sz) (fw n ad mem202) := fw_D hD
                have h_mem202 : mem202 (222) = .inr (4, [.ref (ad 1), .ref (ad 5), .int (nI li199), .int (ft151)]) := by rw [e_mem202, va_up_self]
                have hh203 := (va_up_ne mem148 (.inr (4, [.ref (ad 1), .ref (ad 5), .int (nI li199), .int (ft151)])) (show (1 : Nat) ≠ 222 by first | decide | assumption | omega)).trans h1_153
                rw [← e_mem202] at hh203
                have hh204 := (va_up_ne mem148 (.inr (4, [.ref (ad 1), .ref (ad 5), .int (nI li199), .int (ft151)])) (show (5 : Nat) ≠ 222 by first | decide | assumption | omega)).trans h5_155
                rw [← e_mem202] at hh204
                have hh205 := (va_up_ne mem148 (.inr (4, [.ref (ad 1), .ref (ad 5), .int (nI li199), .int (ft151)])) (show (220 : Nat) ≠ 222 by first | decide | assumption | omega)).trans h220_159
                rw [← e_mem202] at hh205
                have hfr206 : ∀ i, i ≠ 222 → mem202 i = mem148 i := fun i q => (show mem202 i = mem148 i by rw [e_mem202]; exact va_up_ne _ _ (by omega)).trans (hfr150 i q)
                have hRX207 : RX cy ad Ex112 (li199) (Rx111) (Ex112) (Ax114 227) (nx116) m0 mem202 := by rw [e_mem202]; exact hRX149.at
                have hrr9 := hfin.1 (by rw [← eg132]; exact Or.inl hb187)
                have hS9 := ali126.2.2.2.1.2.1
                exact x_vret hx hb hlocks hr (⟨g131, ux110, Rx111, Ex112, _, Sx113, Ax114, Bx_115, (upd (extN R1 (extN R fi)) i (nI Ec)), (upd (extN R1 (extN R la)) i (nI Ec)), nx116, hle, by rw [eg132]; exact hrr9, by omega, by omega, by rw [← ea200]; exact hRX207, by omega, her3.fr (Nat.le_refl _) (fun k9 hk9 => hfr206 (20 + 2 * k9) (by omega)), ⟨(hfr206 220 (by omega)).trans hsr3.1, (hfr206 221 (by omega)).trans hsr3.2⟩, fun i9 hi9 => (hfr206 (7 + i9) (by omega)).trans (hrc3 i9 hi9), hpi3⟩) hP hS d_Rd_readRule_152
        · subst hr79
          refine lv_iload_n Bx.1 Bx.2.1 d_Rd_readRule_81 rfl (lv_at hl 0 rfl) ?_
          refine lv_icmp_ne Bx.1 Bx.2.1 d_Rd_readRule_82 rfl (fun hb208 => ?_) (fun hb208 => ?_)
          · refine lv_iconst (v := 0) Bx.1 Bx.2.1 d_Rd_readRule_89 (by decide) ?_
            refine lv_iload_n Bx.1 Bx.2.1 d_Rd_readRule_90 rfl (lv_at hl 2 rfl) ?_
            refine f_xVv (na := 2) (As := [.int (0), .int (nI a)]) (rest := []) Bx hml E hP hD hS (by omega) h_mem59 rfl (m_Rd_needReadableX l hlt hn hT hf hRX64 (by omega)) kw_360 kw_362 sel_Rd_needReadable kw_6 kw_363 (by decide +kernel) ⟨rfl, rfl⟩ ⟨Nat.le_of_ble_eq_true rfl, Nat.le_of_ble_eq_true rfl⟩ rfl hl.1 (Nat.le_of_ble_eq_true rfl) d_Rd_readRule_91 ⟨Nat.le_of_ble_eq_true rfl, Nat.le_of_ble_eq_true rfl⟩ (fun X ce q9 memx H locs hx9 hP hS g1 g2 g3 => f_out hlocks hno hP hS g1 g2 g3 ⟨Nat.le_of_ble_eq_true rfl, Nat.le_of_ble_eq_true rfl⟩ ⟨⟨hx9.1.1, hx9.1.2.elim (fun a9 q9 => q9.elim (fun b9 q9 => ⟨_, a9, b9, q9⟩))⟩, Or.inr (Or.inl ⟨rule_t hsn (by rw [← eg29]; exact hb51) (fun z => hb69 (by rw [eg29]; exact z.mpr hto80)), rfl⟩)⟩) (fun mem210 H locs hq hP hS => ?_)
            have hD : va_D (Az sz) (fw n ad mem210) := fw_D hD
            obtain ⟨hqe, hg211⟩ := hq
            rw [hqe] at hP hD
            exact absurd rfl hg211
          · exact absurd hb208 (by decide)
      · exact absurd hb70 (by decide)
    · have hlt212 := hereF_lt (by rw [hb69]; decide)
      refine lv_iconst (v := 1) Bx.1 Bx.2.1 d_Rd_readRule_56 (by decide) ?_
      refine lv_goto Bx.1 Bx.2.1 d_Rd_readRule_57 rfl ?_
      refine lv_istore_n (lv' := [(3, .int (1)), (2, .ref (ad (7 + i))), (1, .int (nI a)), (0, .ref (ad 222))]) Bx.1 Bx.2.1 d_Rd_readRule_61 rfl hl (by decide) rfl (fun ls hl => ?_)
      refine lv_iload_n Bx.1 Bx.2.1 d_Rd_readRule_62 rfl (lv_at hl 0 rfl) ?_
      refine lv_if_eq Bx.1 Bx.2.1 d_Rd_readRule_63 rfl (fun hb213 => ?_) (fun hb213 => ?_)
      · exact absurd hb213 (by decide)
      · refine lv_aload_n Bx.1 Bx.2.1 d_Rd_readRule_66 rfl (lv_at hl 3 rfl) ?_
        refine lv_dup Bx.1 Bx.2.1 d_Rd_readRule_67 rfl ?_
        refine f_get Bx hP (by omega) h_mem59 rfl inRd 2 (by decide) kw_146 rfl rfl d_Rd_readRule_68 ?_
        refine lv_iconst (v := 1) Bx.1 Bx.2.1 d_Rd_readRule_71 (by decide) ?_
        refine lv_iadd Bx.1 Bx.2.1 d_Rd_readRule_72 ?_
        rw [show nI (g28 + 1) + 1 = nI (g28 + 1 + 1) from nI_add (g28 + 1) (1)]
        refine f_put Bx hP hD hS (by omega) h_mem59 rfl inRd tyRd okRd nmRd 2 (by decide) kw_146 rfl rfl rfl rfl (Nat.le_of_ble_eq_true rfl) d_Rd_readRule_73 (fun H locs hP hS => ?_)
        obtain ⟨mem214, e_mem214⟩ : ∃ z, z = va_up mem59 (222) (.inr (4, [.ref (ad 1), .ref (ad 5), .int (nI (g28 + 1 + 1)), .int (ft36)])) := ⟨_, rfl⟩
        have hP : va_P D vcl (fw n ad mem214) H := by rw [e_mem214]; exact hP
        have hD : va_D (Az sz) (fw n ad mem214) := fw_D hD
        have h_mem214 : mem214 (222) = .inr (4, [.ref (ad 1), .ref (ad 5), .int (nI (g28 + 1 + 1)), .int (ft36)]) := by rw [e_mem214, va_up_self]
        have hh215 := (va_up_ne mem59 (.inr (4, [.ref (ad 1), .ref (ad 5), .int (nI (g28 + 1 + 1)), .int (ft36)])) (show (1 : Nat) ≠ 222 by first | decide | assumption | omega)).trans hh60
        rw [← e_mem214] at hh215
        have hh216 := (va_up_ne mem59 (.inr (4, [.ref (ad 1), .ref (ad 5), .int (nI (g28 + 1 + 1)), .int (ft36)])) (show (5 : Nat) ≠ 222 by first | decide | assumption | omega)).trans hh61
        rw [← e_mem214] at hh216
        have hh217 := (va_up_ne mem59 (.inr (4, [.ref (ad 1), .ref (ad 5), .int (nI (g28 + 1 + 1)), .int (ft36)])) (show (220 : Nat) ≠ 222 by first | decide | assumption | omega)).trans hh62
        rw [← e_mem214] at hh217
        have hfr218 : ∀ i, 7 ≤ i ∧ i < 222 ∧ (i < 7 + R ∨ 19 ≤ i) → mem214 i = mem i := fun i q => (show mem214 i = mem59 i by rw [e_mem214]; exact va_up_ne _ _ (by omega)).trans (hfr63 i q)
        have hRX219 : RX cy ad lim (g28 + 1 + 1) (R1) (Ec) (A1 227) (nm1) m0 mem214 := by rw [e_mem214]; exact hRX64.at
        refine lv_aload_n Bx.1 Bx.2.1 d_Rd_readRule_76 rfl (lv_at hl 3 rfl) ?_
        refine lv_aload_n Bx.1 Bx.2.1 d_Rd_readRule_77 rfl (lv_at hl 1 rfl) ?_
        obtain ⟨fi220, la221, hru222, hro223, hro224⟩ := hRX219.2.2 i (by omega)
        refine f_callVi (na := 0) (As := []) (rest := [.ref (ad 222)]) Bx hml E hP hD hS (by omega) hru222 rfl (m_Ru_isToldX l hn hT hf hRX219 (by omega) hi) kw_401 kw_402 kw_403 kw_4 kw_404 (by decide +kernel) ⟨rfl, rfl⟩ ⟨Nat.le_of_ble_eq_true rfl, Nat.le_of_ble_eq_true rfl⟩ rfl hl.1 (Nat.le_of_ble_eq_true rfl) d_Rd_readRule_78 ⟨Nat.le_of_ble_eq_true rfl, Nat.le_of_ble_eq_true rfl⟩ (fun r225 mem226 H locs hq hP hS => ?_)
        have hD : va_D (Az sz) (fw n ad mem226) := fw_D hD
        obtain ⟨hqe, hto⟩ := hq
        rw [hqe] at hP hD
        rcases hto with ⟨hr228, hto229⟩ | ⟨hr228, hto229⟩
        · subst hr228
          refine lv_iload_n Bx.1 Bx.2.1 d_Rd_readRule_81 rfl (lv_at hl 0 rfl) ?_
          refine lv_icmp_ne Bx.1 Bx.2.1 d_Rd_readRule_82 rfl (fun hb230 => ?_) (fun hb230 => ?_)
          · refine lv_iconst (v := 0) Bx.1 Bx.2.1 d_Rd_readRule_89 (by decide) ?_
            refine lv_iload_n Bx.1 Bx.2.1 d_Rd_readRule_90 rfl (lv_at hl 2 rfl) ?_
            refine f_xVv (na := 2) (As := [.int (0), .int (nI a)]) (rest := []) Bx hml E hP hD hS (by omega) h_mem214 rfl (m_Rd_needReadableX l hlt hn hT hf hRX219 (by omega)) kw_360 kw_362 sel_Rd_needReadable kw_6 kw_363 (by decide +kernel) ⟨rfl, rfl⟩ ⟨Nat.le_of_ble_eq_true rfl, Nat.le_of_ble_eq_true rfl⟩ rfl hl.1 (Nat.le_of_ble_eq_true rfl) d_Rd_readRule_91 ⟨Nat.le_of_ble_eq_true rfl, Nat.le_of_ble_eq_true rfl⟩ (fun X ce q9 memx H locs hx9 hP hS g1 g2 g3 => f_out hlocks hno hP hS g1 g2 g3 ⟨Nat.le_of_ble_eq_true rfl, Nat.le_of_ble_eq_true rfl⟩ ⟨⟨hx9.1.1, hx9.1.2.elim (fun a9 q9 => q9.elim (fun b9 q9 => ⟨_, a9, b9, q9⟩))⟩, Or.inr (Or.inl ⟨rule_t hsn (by rw [← eg29]; exact hb51) (fun z => z.mp (by rw [← eg29]; exact hb69) hto229), rfl⟩)⟩) (fun mem232 H locs hq hP hS => ?_)
            have hD : va_D (Az sz) (fw n ad mem232) := fw_D hD
            obtain ⟨hqe, hg233⟩ := hq
            rw [hqe] at hP hD
            exact absurd rfl hg233
          · exact absurd hb230 (by decide)
        · subst hr228
          refine lv_iload_n Bx.1 Bx.2.1 d_Rd_readRule_81 rfl (lv_at hl 0 rfl) ?_
          refine lv_icmp_ne Bx.1 Bx.2.1 d_Rd_readRule_82 rfl (fun hb234 => ?_) (fun hb234 => ?_)
          · exact absurd hb234 (by decide)
          · refine lv_iconst (v := 1) Bx.1 Bx.2.1 d_Rd_readRule_85 (by decide) ?_
            refine lv_goto Bx.1 Bx.2.1 d_Rd_readRule_86 rfl ?_
            refine lv_iload_n Bx.1 Bx.2.1 d_Rd_readRule_90 rfl (lv_at hl 2 rfl) ?_
            refine f_xVv (na := 2) (As := [.int (1), .int (nI a)]) (rest := []) Bx hml E hP hD hS (by omega) h_mem214 rfl (m_Rd_needReadableX l hlt hn hT hf hRX219 (by omega)) kw_360 kw_362 sel_Rd_needReadable kw_6 kw_363 (by decide +kernel) ⟨rfl, rfl⟩ ⟨Nat.le_of_ble_eq_true rfl, Nat.le_of_ble_eq_true rfl⟩ rfl hl.1 (Nat.le_of_ble_eq_true rfl) d_Rd_readRule_91 ⟨Nat.le_of_ble_eq_true rfl, Nat.le_of_ble_eq_true rfl⟩ (fun X ce q9 memx H locs hx9 hP hS g1 g2 g3 => f_out hlocks hno hP hS g1 g2 g3 ⟨Nat.le_of_ble_eq_true rfl, Nat.le_of_ble_eq_true rfl⟩ ⟨⟨hx9.1.1, hx9.1.2.elim (fun a9 q9 => q9.elim (fun b9 q9 => ⟨_, a9, b9, q9⟩))⟩, absurd hx9.2 (by decide)⟩) (fun mem236 H locs hq hP hS => ?_)
            have hD : va_D (Az sz) (fw n ad mem236) := fw_D hD
            obtain ⟨hqe, hg237⟩ := hq
            rw [hqe] at hP hD
            refine lv_aload_n Bx.1 Bx.2.1 d_Rd_readRule_94 rfl (lv_at hl 3 rfl) ?_
            refine f_callVi (na := 0) (As := []) (rest := []) Bx hml E hP hD hS (by omega) h_mem214 rfl (m_Rd_readGapY l hn hT hf hRX219 (by omega) (by omega)) kw_397 kw_399 sel_Rd_readGap kw_6 kw_400 (by decide +kernel) ⟨rfl, rfl⟩ ⟨Nat.le_of_ble_eq_true rfl, Nat.le_of_ble_eq_true rfl⟩ rfl hl.1 (Nat.le_of_ble_eq_true rfl) d_Rd_readRule_95 ⟨Nat.le_of_ble_eq_true rfl, Nat.le_of_ble_eq_true rfl⟩ (fun r238 mem239 H locs hq hP hS => ?_)
            have hD : va_D (Az sz) (fw n ad mem239) := fw_D hD
            obtain ⟨g240, eg241⟩ : ∃ z, z = gapF T Z (g28 + 1 + 1) := ⟨_, rfl⟩
            rw [← eg241] at hq
            obtain ⟨hRX242, hgc243, hfa244⟩ := hq
            have hg245 : g28 + 1 + 1 ≤ g240 := by rw [eg241]; exact gapF_ge T Z _
            have hg246 : g240 ≤ Z := by rw [eg241]; exact gapF_le T (by omega)
            have hfr247 : ∀ i, 7 ≤ i ∧ i < 222 ∧ (i < 7 + R ∨ 19 ≤ i) → mem239 i = mem i := fun i q => (hfa244 i (by omega)).trans (hfr218 i q)
            obtain ⟨ft248, h9_249⟩ := hRX242.2.1
            have h1_250 : mem239 1 = .inr (0, [.ref (ad 2), .int (nI Z)]) := (hRX242.1.2.2 1 (by omega)).trans hT.1
            have h2_251 : mem239 2 = .inl (cy 0, 240, .inl f) := (hRX242.1.2.2 2 (by omega)).trans hT.2.2
            have h5_252 := hRX242.1.1.2.1
            have hbd258 := hRX242.1.1.1
            obtain ⟨S253, g254, hS_255, h220_256, h221_257⟩ := hRX242.1.1.2.2.2.2.2.2
            refine lv_pop Bx.1 Bx.2.1 d_Rd_readRule_98 rfl ?_
            refine lv_aload_n Bx.1 Bx.2.1 d_Rd_readRule_99 rfl (lv_at hl 1 rfl) ?_
            refine lv_aload_n Bx.1 Bx.2.1 d_Rd_readRule_100 rfl (lv_at hl 3 rfl) ?_
            refine lv_iconst (v := 0) Bx.1 Bx.2.1 d_Rd_readRule_101 (by decide) ?_
            have hrs : ruleS T Z a u R Ec A nm = ent0S T Z (g28 + 1 + 1) u R1 Ec i A1 nm1 := by rw [rule_m hsn (by rw [← eg29]; exact hb51) (by rw [← eg29]; exact hb69) hto229, ← eg29]
            have her1 : ER ad R1 Ec Bw mem239 := hER.fr hR1 (fun k9 hk9 => hfr247 (20 + 2 * k9) (by omega))
            have hsr1 : SR cy ad S Bw mem239 := ⟨(hfr247 220 (by omega)).trans hSR.1, (hfr247 221 (by omega)).trans hSR.2⟩
            have hRC1 : RC ad R1 nm1 (extN R fi) (extN R la) mem239 := rc_ext hRX242 hRC (fun i9 hi9 => hfr247 (7 + i9) (by omega)) (fun i9 h1 h2 => by rw [htk.2 i9 h1 h2]; decide)
            have hPI1 := hPI.name hA1 htk hR1
            obtain ⟨t9, l9, ht9, hl9, e7t, eft, elt⟩ := hPI1.told hi hto229
            refine f_xVr (na := 1) (As := [.int (0)]) (rest := [.ref (ad (7 + i))]) Bx hml E hP hD hS (by omega) h9_249 rfl (m_Rd_readAlternatives_0Y l hlt hn hT hf hRX242 (by omega) (u := u) (A := ent0A A1 Ec i) her1 hsr1 (by omega) (by omega) (ent0_lka hPI1.lka) (cq := t9) ((ent0_old hto229).2.trans e7t) (by omega) ent0_39) kw_405 kw_407 sel_Rd_readAlternatives kw_6 kw_408 (by decide +kernel) ⟨rfl, rfl⟩ ⟨Nat.le_of_ble_eq_true rfl, Nat.le_of_ble_eq_true rfl⟩ rfl hl.1 (Nat.le_of_ble_eq_true rfl) d_Rd_readRule_102 ⟨Nat.le_of_ble_eq_true rfl, Nat.le_of_ble_eq_true rfl⟩ (fun X ce q9 memx H locs hx9 hP hS g1 g2 g3 => f_out hlocks hno hP hS g1 g2 g3 ⟨Nat.le_of_ble_eq_true rfl, Nat.le_of_ble_eq_true rfl⟩ ⟨⟨hx9.1.1, hx9.1.2.elim (fun a9 q9 => q9.elim (fun b9 q9 => ⟨_, a9, b9, q9⟩))⟩, Or.inr (RuleR.fai (by rw [hrs]; exact hx9.2.elim (fun z => Or.inl (ent0S_no (Or.inl (by rw [← eg241]; exact z)))) (fun z => z.elim (fun z => Or.inl (ent0S_no (Or.inr z))) (fun z => Fai.br0 (by rw [ent0_ok (by rw [← eg241]; exact z.1) z.2.1, ← eg241]) z.2.2))))⟩) (fun r259 mem260 H locs hq hP hS => ?_)
            have hD : va_D (Az sz) (fw n ad mem260) := fw_D hD
            obtain ⟨la261, ax262, ux263, Rx264, Ex265, Sx266, Ax267, Bx_268, nx269, tox270, hr9271, h1272, h2273, h3274, h4275, htk276, hrk277, hRX278, ali279, hbg280, hE281, h47282, hnb283⟩ := hq
            subst hr9271
            obtain ⟨g284, eg285⟩ : ∃ z, z = gapF T Z ax262 := ⟨_, rfl⟩
            have hg286 : ax262 ≤ g284 := by rw [eg285]; exact gapF_ge T Z _
            have hg287 : g284 ≤ Z := by rw [eg285]; exact gapF_le T (by omega)
            rw [← eg285] at hRX278
            obtain ⟨ft288, h9_289⟩ := hRX278.2.1
            have h1_290 : mem260 1 = .inr (0, [.ref (ad 2), .int (nI Z)]) := (hRX278.1.2.2 1 (by omega)).trans hT.1
            have h2_291 : mem260 2 = .inl (cy 0, 240, .inl f) := (hRX278.1.2.2 2 (by omega)).trans hT.2.2
            have h5_292 := hRX278.1.1.2.1
            have hbd298 := hRX278.1.1.1
            obtain ⟨S293, g294, hS_295, h220_296, h221_297⟩ := hRX278.1.1.2.2.2.2.2.2
            have hbd299 := hRX278.1.1.1
            obtain ⟨v9, hv9, hv0⟩ := ent0A_7 (A := A1) (r := i) hE281
            have hrs2 : ruleS T Z a u R Ec A nm = some (g240, u, R1, Ec + 1, 0, ent0A A1 Ec i, nm1, true) := by rw [hrs, ent0_ok (by rw [← eg241]; exact hbg280) hE281, ← eg241]
            have hfin := rule_finU hrs2 ali279.1 (by rw [ent0A_5, upd_self]) h47282 hnb283
            have htk9 : TOK R1 Rx264 (ent0A A1 Ec i 227) (Ax267 227) := by
              obtain ⟨_, _, _, _, hs⟩ := ali279.1
              exact hs
            have hRC2 : RC ad Rx264 nx269 (extN R1 (extN R fi)) (extN R1 (extN R la)) mem260 := rc_ext hRX278 hRC1 hrk277 (fun i9 h1 h2 => by rw [htk276.2 i9 h1 h2]; decide)
            have hru0 : mem260 (7 + i) = .inr (5, [.long (nx269 i), .ref (ad (20 + 2 * t9)), .ref (ad (20 + 2 * l9))]) := by rw [hRC2 i (by omega), extN_lt hi, extN_lt hi, eft, elt, vE_n ad (show t9 < 2 ^ 31 by omega), vE_n ad (show l9 < 2 ^ 31 by omega)]
            refine f_callVv (na := 1) (As := [.ref (ad (20 + 2 * Ec))]) (rest := []) Bx hml E hP hD hS (by omega) hru0 rfl (m_Ru_tellY1 l hn hT hf hRX278 (by omega) (i := i) (k := Ec) (j := l9) (by omega) ⟨by omega, by omega⟩ hl9 hru0 (ali279.2.1 l9 (by omega)).1) kw_490 kw_491 kw_492 kw_4 kw_493 (by decide +kernel) ⟨rfl, rfl⟩ ⟨Nat.le_of_ble_eq_true rfl, Nat.le_of_ble_eq_true rfl⟩ rfl hl.1 (Nat.le_of_ble_eq_true rfl) d_Rd_readRule_105 ⟨Nat.le_of_ble_eq_true rfl, Nat.le_of_ble_eq_true rfl⟩ (fun mem301 H locs hq hP hS => ?_)
            have hD : va_D (Az sz) (fw n ad mem301) := fw_D hD
            obtain ⟨hqt, hqc, hqe, hqf⟩ := hq
            have her3 : ER ad Rx264 Ex265 (va_up Bx_268 233 (upd (Bx_268 233) l9 (nI Ec))) mem301 := ali279.2.1.next hl9 (by omega) (by omega) hqe (fun k9 hne9 hk9 => hqf (20 + 2 * k9) (by omega) (by omega))
            have hsr3 : SR cy ad Sx266 (va_up Bx_268 233 (upd (Bx_268 233) l9 (nI Ec))) mem301 := ⟨(hqf 220 (by omega) (by omega)).trans ali279.2.2.1.1, (hqf 221 (by omega) (by omega)).trans ali279.2.2.1.2⟩
            have hrc3 : RC ad Rx264 nx269 (extN R1 (extN R fi)) (upd (extN R1 (extN R la)) i (nI Ec)) mem301 := fun z hz => by
              by_cases q : z = i
              · subst q; rw [upd_self, extN_lt hi, eft, vE_n ad (show Ec < 2 ^ 31 by omega), vE_n ad (show t9 < 2 ^ 31 by omega)]; exact hqc
              · rw [upd_ne q]; exact (hqf (7 + z) (by omega) (by omega)).trans (hRC2 z hz)
            have hpi3 : PI Rx264 Ex265 Sx266 ux263 Ax267 (va_up Bx_268 233 (upd (Bx_268 233) l9 (nI Ec))) (extN R1 (extN R fi)) (upd (extN R1 (extN R la)) i (nI Ec)) := pi_more hPI1 hi hE281 e7t ht9 elt hl9 ali279 ⟨by omega, by omega, by omega⟩ hER.lka
            have hRX302 : RX cy ad Ex265 (g284) (Rx264) (Ex265) (Ax267 227) (nx269) m0 mem301 := hqt.iff (fun x hx => tell_iff hi htk276 htk9 hv9 hv0 x hx)
            have hfr303 : ∀ i, i ≠ 222 → mem301 i = mem301 i := fun _ _ => rfl
            obtain ⟨ft304, h9_305⟩ := hRX302.2.1
            have h1_306 : mem301 1 = .inr (0, [.ref (ad 2), .int (nI Z)]) := (hRX302.1.2.2 1 (by omega)).trans hT.1
            have h2_307 : mem301 2 = .inl (cy 0, 240, .inl f) := (hRX302.1.2.2 2 (by omega)).trans hT.2.2
            have h5_308 := hRX302.1.1.2.1
            have hbd314 := hRX302.1.1.1
            obtain ⟨S309, g310, hS_311, h220_312, h221_313⟩ := hRX302.1.1.2.2.2.2.2.2
            refine lv_aload_n Bx.1 Bx.2.1 d_Rd_readRule_108 rfl (lv_at hl 3 rfl) ?_
            refine lv_aload_n Bx.1 Bx.2.1 d_Rd_readRule_109 rfl (lv_at hl 3 rfl) ?_
            refine f_callVi (na := 0) (As := []) (rest := [.ref (ad 222)]) Bx hml E hP hD hS (by omega) h9_305 rfl (m_Rd_peekX l hn hT hf hRX302 (by omega)) kw_353 kw_355 sel_Rd_peek kw_6 kw_356 (by decide +kernel) ⟨rfl, rfl⟩ ⟨Nat.le_of_ble_eq_true rfl, Nat.le_of_ble_eq_true rfl⟩ rfl hl.1 (Nat.le_of_ble_eq_true rfl) d_Rd_readRule_110 ⟨Nat.le_of_ble_eq_true rfl, Nat.le_of_ble_eq_true rfl⟩ (fun r316 mem317 H locs hq hP hS => ?_)
            have hD : va_D (Az sz) (fw n ad mem317) := fw_D hD
            obtain ⟨hqe, hpk315⟩ := hq
            rw [hqe] at hP hD
            subst hpk315
            refine lv_iconst (v := -1) Bx.1 Bx.2.1 d_Rd_readRule_113 (by decide) ?_
            refine lv_icmp_eq Bx.1 Bx.2.1 d_Rd_readRule_114 rfl (fun hb319 => ?_) (fun hb319 => ?_)
            · refine lv_iconst (v := 1) Bx.1 Bx.2.1 d_Rd_readRule_126 (by decide) ?_
              refine lv_goto Bx.1 Bx.2.1 d_Rd_readRule_127 rfl ?_
              refine lv_aload_n Bx.1 Bx.2.1 d_Rd_readRule_131 rfl (lv_at hl 3 rfl) ?_
              refine f_get Bx hP (by omega) h9_305 rfl inRd 2 (by decide) kw_146 rfl rfl d_Rd_readRule_132 ?_
              refine f_xVv (na := 2) (As := [.int (1), .int (nI g284)]) (rest := []) Bx hml E hP hD hS (by omega) h9_305 rfl (m_Rd_needReadableX l hlt hn hT hf hRX302 (by omega)) kw_360 kw_362 sel_Rd_needReadable kw_6 kw_363 (by decide +kernel) ⟨rfl, rfl⟩ ⟨Nat.le_of_ble_eq_true rfl, Nat.le_of_ble_eq_true rfl⟩ rfl hl.1 (Nat.le_of_ble_eq_true rfl) d_Rd_readRule_135 ⟨Nat.le_of_ble_eq_true rfl, Nat.le_of_ble_eq_true rfl⟩ (fun X ce q9 memx H locs hx9 hP hS g1 g2 g3 => f_out hlocks hno hP hS g1 g2 g3 ⟨Nat.le_of_ble_eq_true rfl, Nat.le_of_ble_eq_true rfl⟩ ⟨⟨hx9.1.1, hx9.1.2.elim (fun a9 q9 => q9.elim (fun b9 q9 => ⟨_, a9, b9, q9⟩))⟩, absurd hx9.2 (by decide)⟩) (fun mem321 H locs hq hP hS => ?_)
              have hD : va_D (Az sz) (fw n ad mem321) := fw_D hD
              obtain ⟨hqe, hg322⟩ := hq
              rw [hqe] at hP hD
              refine lv_aload_n Bx.1 Bx.2.1 d_Rd_readRule_138 rfl (lv_at hl 3 rfl) ?_
              refine lv_aload_n Bx.1 Bx.2.1 d_Rd_readRule_139 rfl (lv_at hl 3 rfl) ?_
              refine lv_aload_n Bx.1 Bx.2.1 d_Rd_readRule_140 rfl (lv_at hl 3 rfl) ?_
              refine f_get Bx hP (by omega) h9_305 rfl inRd 2 (by decide) kw_146 rfl rfl d_Rd_readRule_141 ?_
              refine lv_iconst (v := 1) Bx.1 Bx.2.1 d_Rd_readRule_144 (by decide) ?_
              refine lv_iadd Bx.1 Bx.2.1 d_Rd_readRule_145 ?_
              rw [show nI g284 + 1 = nI (g284 + 1) from nI_add (g284) (1)]
              refine f_callVi (na := 1) (As := [.int (nI (g284 + 1))]) (rest := [.ref (ad 222)]) Bx hml E hP hD hS (by omega) h9_305 rfl (m_Rd_fullLineFromX l hn hT hf hRX302 (k0 := g284 + 1) (by omega)) kw_337 kw_339 sel_Rd_fullLineFrom kw_6 kw_340 (by decide +kernel) ⟨rfl, rfl⟩ ⟨Nat.le_of_ble_eq_true rfl, Nat.le_of_ble_eq_true rfl⟩ rfl hl.1 (Nat.le_of_ble_eq_true rfl) d_Rd_readRule_146 ⟨Nat.le_of_ble_eq_true rfl, Nat.le_of_ble_eq_true rfl⟩ (fun r324 mem325 H locs hq hP hS => ?_)
              have hD : va_D (Az sz) (fw n ad mem325) := fw_D hD
              obtain ⟨hqe, hfl323⟩ := hq
              rw [hqe] at hP hD
              obtain ⟨li327, ea328⟩ : ∃ z, z = lineF T Z (g284 + 1) := ⟨_, rfl⟩
              rw [← ea328] at hfl323
              subst hfl323
              have hb329 : li327 ≤ Z := by rw [ea328]; exact lineF_le T Z _
              refine f_put Bx hP hD hS (by omega) h9_305 rfl inRd tyRd okRd nmRd 2 (by decide) kw_146 rfl rfl rfl rfl (Nat.le_of_ble_eq_true rfl) d_Rd_readRule_149 (fun H locs hP hS => ?_)
              obtain ⟨mem330, e_mem330⟩ : ∃ z, z = va_up mem301 (222) (.inr (4, [.ref (ad 1), .ref (ad 5), .int (nI li327), .int (ft304)])) := ⟨_, rfl⟩
              have hP : va_P D vcl (fw n ad mem330) H := by rw [e_mem330]; exact hP
              have hD : va_D (Az sz) (fw n ad mem330) := fw_D hD
              have h_mem330 : mem330 (222) = .inr (4, [.ref (ad 1), .ref (ad 5), .int (nI li327), .int (ft304)]) := by rw [e_mem330, va_up_self]
              have hh331 := (va_up_ne mem301 (.inr (4, [.ref (ad 1), .ref (ad 5), .int (nI li327), .int (ft304)])) (show (1 : Nat) ≠ 222 by first | decide | assumption | omega)).trans h1_306
              rw [← e_mem330] at hh331
              have hh332 := (va_up_ne mem301 (.inr (4, [.ref (ad 1), .ref (ad 5), .int (nI li327), .int (ft304)])) (show (5 : Nat) ≠ 222 by first | decide | assumption | omega)).trans h5_308
              rw [← e_mem330] at hh332
              have hh333 := (va_up_ne mem301 (.inr (4, [.ref (ad 1), .ref (ad 5), .int (nI li327), .int (ft304)])) (show (220 : Nat) ≠ 222 by first | decide | assumption | omega)).trans h220_312
              rw [← e_mem330] at hh333
              have hfr334 : ∀ i, i ≠ 222 → mem330 i = mem301 i := fun i q => (show mem330 i = mem301 i by rw [e_mem330]; exact va_up_ne _ _ (by omega)).trans (hfr303 i q)
              have hRX335 : RX cy ad Ex265 (li327) (Rx264) (Ex265) (Ax267 227) (nx269) m0 mem330 := by rw [e_mem330]; exact hRX302.at
              have hrr9 := hfin.1 (by rw [← eg285]; exact Or.inr (by rw [hb319]; decide))
              have hS9 := ali279.2.2.2.1.2.1
              exact x_vret hx hb hlocks hr (⟨g284, ux263, Rx264, Ex265, _, Sx266, Ax267, (va_up Bx_268 233 (upd (Bx_268 233) l9 (nI Ec))), (extN R1 (extN R fi)), (upd (extN R1 (extN R la)) i (nI Ec)), nx269, hle, by rw [eg285]; exact hrr9, by omega, by omega, by rw [← ea328]; exact hRX335, by omega, her3.fr (Nat.le_refl _) (fun k9 hk9 => hfr334 (20 + 2 * k9) (by omega)), ⟨(hfr334 220 (by omega)).trans hsr3.1, (hfr334 221 (by omega)).trans hsr3.2⟩, fun i9 hi9 => (hfr334 (7 + i9) (by omega)).trans (hrc3 i9 hi9), hpi3⟩) hP hS d_Rd_readRule_152
            · refine lv_aload_n Bx.1 Bx.2.1 d_Rd_readRule_117 rfl (lv_at hl 3 rfl) ?_
              refine f_callVi (na := 0) (As := []) (rest := [.ref (ad 222)]) Bx hml E hP hD hS (by omega) h9_305 rfl (m_Rd_peekX l hn hT hf hRX302 (by omega)) kw_353 kw_355 sel_Rd_peek kw_6 kw_356 (by decide +kernel) ⟨rfl, rfl⟩ ⟨Nat.le_of_ble_eq_true rfl, Nat.le_of_ble_eq_true rfl⟩ rfl hl.1 (Nat.le_of_ble_eq_true rfl) d_Rd_readRule_118 ⟨Nat.le_of_ble_eq_true rfl, Nat.le_of_ble_eq_true rfl⟩ (fun r337 mem338 H locs hq hP hS => ?_)
              have hD : va_D (Az sz) (fw n ad mem338) := fw_D hD
              obtain ⟨hqe, hpk336⟩ := hq
              rw [hqe] at hP hD
              subst hpk336
              refine lv_bipush (v := 10) Bx.1 Bx.2.1 d_Rd_readRule_121 (by decide) ?_
              refine lv_icmp_ne Bx.1 Bx.2.1 d_Rd_readRule_123 rfl (fun hb340 => ?_) (fun hb340 => ?_)
              · refine lv_iconst (v := 0) Bx.1 Bx.2.1 d_Rd_readRule_130 (by decide) ?_
                refine lv_aload_n Bx.1 Bx.2.1 d_Rd_readRule_131 rfl (lv_at hl 3 rfl) ?_
                refine f_get Bx hP (by omega) h9_305 rfl inRd 2 (by decide) kw_146 rfl rfl d_Rd_readRule_132 ?_
                refine f_xVv (na := 2) (As := [.int (0), .int (nI g284)]) (rest := []) Bx hml E hP hD hS (by omega) h9_305 rfl (m_Rd_needReadableX l hlt hn hT hf hRX302 (by omega)) kw_360 kw_362 sel_Rd_needReadable kw_6 kw_363 (by decide +kernel) ⟨rfl, rfl⟩ ⟨Nat.le_of_ble_eq_true rfl, Nat.le_of_ble_eq_true rfl⟩ rfl hl.1 (Nat.le_of_ble_eq_true rfl) d_Rd_readRule_135 ⟨Nat.le_of_ble_eq_true rfl, Nat.le_of_ble_eq_true rfl⟩ (fun X ce q9 memx H locs hx9 hP hS g1 g2 g3 => f_out hlocks hno hP hS g1 g2 g3 ⟨Nat.le_of_ble_eq_true rfl, Nat.le_of_ble_eq_true rfl⟩ ⟨⟨hx9.1.1, hx9.1.2.elim (fun a9 q9 => q9.elim (fun b9 q9 => ⟨_, a9, b9, q9⟩))⟩, Or.inr (hfin.2 (fun z => z.elim (fun y => hb340 (by rw [eg285]; exact y)) (fun y => hereF_pos hT0 hb319 (by rw [eg285]; exact y))))⟩) (fun mem342 H locs hq hP hS => ?_)
                have hD : va_D (Az sz) (fw n ad mem342) := fw_D hD
                obtain ⟨hqe, hg343⟩ := hq
                rw [hqe] at hP hD
                exact absurd rfl hg343
              · have hlt344 := hereF_lt (by rw [hb340]; decide)
                refine lv_iconst (v := 1) Bx.1 Bx.2.1 d_Rd_readRule_126 (by decide) ?_
                refine lv_goto Bx.1 Bx.2.1 d_Rd_readRule_127 rfl ?_
                refine lv_aload_n Bx.1 Bx.2.1 d_Rd_readRule_131 rfl (lv_at hl 3 rfl) ?_
                refine f_get Bx hP (by omega) h9_305 rfl inRd 2 (by decide) kw_146 rfl rfl d_Rd_readRule_132 ?_
                refine f_xVv (na := 2) (As := [.int (1), .int (nI g284)]) (rest := []) Bx hml E hP hD hS (by omega) h9_305 rfl (m_Rd_needReadableX l hlt hn hT hf hRX302 (by omega)) kw_360 kw_362 sel_Rd_needReadable kw_6 kw_363 (by decide +kernel) ⟨rfl, rfl⟩ ⟨Nat.le_of_ble_eq_true rfl, Nat.le_of_ble_eq_true rfl⟩ rfl hl.1 (Nat.le_of_ble_eq_true rfl) d_Rd_readRule_135 ⟨Nat.le_of_ble_eq_true rfl, Nat.le_of_ble_eq_true rfl⟩ (fun X ce q9 memx H locs hx9 hP hS g1 g2 g3 => f_out hlocks hno hP hS g1 g2 g3 ⟨Nat.le_of_ble_eq_true rfl, Nat.le_of_ble_eq_true rfl⟩ ⟨⟨hx9.1.1, hx9.1.2.elim (fun a9 q9 => q9.elim (fun b9 q9 => ⟨_, a9, b9, q9⟩))⟩, absurd hx9.2 (by decide)⟩) (fun mem346 H locs hq hP hS => ?_)
                have hD : va_D (Az sz) (fw n ad mem346) := fw_D hD
                obtain ⟨hqe, hg347⟩ := hq
                rw [hqe] at hP hD
                refine lv_aload_n Bx.1 Bx.2.1 d_Rd_readRule_138 rfl (lv_at hl 3 rfl) ?_
                refine lv_aload_n Bx.1 Bx.2.1 d_Rd_readRule_139 rfl (lv_at hl 3 rfl) ?_
                refine lv_aload_n Bx.1 Bx.2.1 d_Rd_readRule_140 rfl (lv_at hl 3 rfl) ?_
                refine f_get Bx hP (by omega) h9_305 rfl inRd 2 (by decide) kw_146 rfl rfl d_Rd_readRule_141 ?_
                refine lv_iconst (v := 1) Bx.1 Bx.2.1 d_Rd_readRule_144 (by decide) ?_
                refine lv_iadd Bx.1 Bx.2.1 d_Rd_readRule_145 ?_
                rw [show nI g284 + 1 = nI (g284 + 1) from nI_add (g284) (1)]
                refine f_callVi (na := 1) (As := [.int (nI (g284 + 1))]) (rest := [.ref (ad 222)]) Bx hml E hP hD hS (by omega) h9_305 rfl (m_Rd_fullLineFromX l hn hT hf hRX302 (k0 := g284 + 1) (by omega)) kw_337 kw_339 sel_Rd_fullLineFrom kw_6 kw_340 (by decide +kernel) ⟨rfl, rfl⟩ ⟨Nat.le_of_ble_eq_true rfl, Nat.le_of_ble_eq_true rfl⟩ rfl hl.1 (Nat.le_of_ble_eq_true rfl) d_Rd_readRule_146 ⟨Nat.le_of_ble_eq_true rfl, Nat.le_of_ble_eq_true rfl⟩ (fun r349 mem350 H locs hq hP hS => ?_)
                have hD : va_D (Az sz) (fw n ad mem350) := fw_D hD
                obtain ⟨hqe, hfl348⟩ := hq
                rw [hqe] at hP hD
                obtain ⟨li352, ea353⟩ : ∃ z, z = lineF T Z (g284 + 1) := ⟨_, rfl⟩
                rw [← ea353] at hfl348
                subst hfl348
                have hb354 : li352 ≤ Z := by rw [ea353]; exact lineF_le T Z _
                refine f_put Bx hP hD hS (by omega) h9_305 rfl inRd tyRd okRd nmRd 2 (by decide) kw_146 rfl rfl rfl rfl (Nat.le_of_ble_eq_true rfl) d_Rd_readRule_149 (fun H locs hP hS => ?_)
                obtain ⟨mem355, e_mem355⟩ : ∃ z, z = va_up mem301 (222) (.inr (4, [.ref (ad 1), .ref (ad 5), .int (nI li352), .int (ft304)])) := ⟨_, rfl⟩
                have hP : va_P D vcl (fw n ad mem355) H := by rw [e_mem355]; exact hP
                have hD : va_D (Az sz) (fw n ad mem355) := fw_D hD
                have h_mem355 : mem355 (222) = .inr (4, [.ref (ad 1), .ref (ad 5), .int (nI li352), .int (ft304)]) := by rw [e_mem355, va_up_self]
                have hh356 := (va_up_ne mem301 (.inr (4, [.ref (ad 1), .ref (ad 5), .int (nI li352), .int (ft304)])) (show (1 : Nat) ≠ 222 by first | decide | assumption | omega)).trans h1_306
                rw [← e_mem355] at hh356
                have hh357 := (va_up_ne mem301 (.inr (4, [.ref (ad 1), .ref (ad 5), .int (nI li352), .int (ft304)])) (show (5 : Nat) ≠ 222 by first | decide | assumption | omega)).trans h5_308
                rw [← e_mem355] at hh357
                have hh358 := (va_up_ne mem301 (.inr (4, [.ref (ad 1), .ref (ad 5), .int (nI li352), .int (ft304)])) (show (220 : Nat) ≠ 222 by first | decide | assumption | omega)).trans h220_312
                rw [← e_mem355] at hh358
                have hfr359 : ∀ i, i ≠ 222 → mem355 i = mem301 i := fun i q => (show mem355 i = mem301 i by rw [e_mem355]; exact va_up_ne _ _ (by omega)).trans (hfr303 i q)
                have hRX360 : RX cy ad Ex265 (li352) (Rx264) (Ex265) (Ax267 227) (nx269) m0 mem355 := by rw [e_mem355]; exact hRX302.at
                have hrr9 := hfin.1 (by rw [← eg285]; exact Or.inl hb340)
                have hS9 := ali279.2.2.2.1.2.1
                exact x_vret hx hb hlocks hr (⟨g284, ux263, Rx264, Ex265, _, Sx266, Ax267, (va_up Bx_268 233 (upd (Bx_268 233) l9 (nI Ec))), (extN R1 (extN R fi)), (upd (extN R1 (extN R la)) i (nI Ec)), nx269, hle, by rw [eg285]; exact hrr9, by omega, by omega, by rw [← ea353]; exact hRX360, by omega, her3.fr (Nat.le_refl _) (fun k9 hk9 => hfr359 (20 + 2 * k9) (by omega)), ⟨(hfr359 220 (by omega)).trans hsr3.1, (hfr359 221 (by omega)).trans hsr3.2⟩, fun i9 hi9 => (hfr359 (7 + i9) (by omega)).trans (hrc3 i9 hi9), hpi3⟩) hP hS d_Rd_readRule_152
