def ent0A (A : Ro) (E r : Nat) : Ro :=
  let A3 := entA A 0 E 0 (nI r)
  let A4 := if A3 227 r < 0 then A3 else va_up A3 237 (upd (A3 237) 0 (A3 227 r))
  va_up A4 227 (upd (A4 227) r (A4 237 0))
section CL7
variable {T : Nat → Int32} {Z a u R E r : Nat} {A : Ro} {nm : Nat → Int64}
theorem ent0_ok (h1 : bgF (hereF Z T (gapF T Z a)) = true) (h2 : E < 100) : ent0S T Z a u R E r A nm = some (gapF T Z a, u, R, E + 1, 0, ent0A A E r, nm, true) := by
  unfold ent0S
  rw [ent_ok h1 h2]
  rfl
theorem ent0A_5 : ent0A A E r 235 = upd (A 235) 0 0 := by
  unfold ent0A
  try simp only []
  rw [va_up_ne _ _ (by decide)]
  split
  · exact entA_5
  · rw [va_up_ne _ _ (by decide)]; exact entA_5
theorem ent0A_7 (hE : E < 100) : ∃ v, ent0A A E r 227 = upd (A 227) r v ∧ ¬ v < 0 := by
  have e7 : entA A 0 E 0 (nI r) 227 = A 227 := entA_7
  by_cases q : A 227 r < 0
  · refine ⟨nI E, ?_, nI_pos (by omega)⟩
    unfold ent0A
    try simp only []
    rw [va_up_self, e7, if_pos q, e7]
    congr 1
  · refine ⟨A 227 r, ?_, q⟩
    unfold ent0A
    try simp only []
    rw [va_up_self, e7, if_neg q, va_up_ne _ _ (by decide), va_up_self, upd_self, e7]
end CL7
section CL8
variable {cy : Nat → ClassId} {ad : Nat → Nat} {lim a R E : Nat} {to to' : Nat → Int32} {nm : Nat → Int64} {m0 mem : Nat → va_E}
theorem RX.iff (h : RX cy ad lim a R E to nm m0 mem) (he : ∀ i, i < R → (to' i < 0 ↔ to i < 0)) : RX cy ad lim a R E to' nm m0 mem := by
  refine ⟨h.1, h.2.1, fun i hi => ?_⟩
  obtain ⟨v, w, e, o1, o2⟩ := h.2.2 i hi
  exact ⟨v, w, e, o1.trans (he i hi).symm, o2.trans (he i hi).symm⟩
theorem RX.tell (h : RX cy ad lim a R E to nm m0 mem) {mem' : Nat → va_E} {i p q : Nat} (hi : i < R) (hrs : RS cy ad E R E m0 mem') (hm : ∀ j, (7 ≤ j ∧ j < 19) ∨ j = 222 → j ≠ 7 + i → mem' j = mem j) (hc : mem' (7 + i) = .inr (5, [.long (nm i), .ref p, .ref q])) : RX cy ad E a R E (upd to i 0) nm m0 mem' := by
  have hb := h.1.1.1
  obtain ⟨t, ht⟩ := h.2.1
  refine ⟨hrs, ⟨t, (hm _ (by omega) (by omega)).trans ht⟩, fun j hj => ?_⟩
  by_cases qq : j = i
  · subst qq
    refine ⟨_, _, hc, ⟨fun z => (by cases z), fun z => ?_⟩, ⟨fun z => (by cases z), fun z => ?_⟩⟩
    · rw [upd_self] at z; exact absurd z (by decide)
    · rw [upd_self] at z; exact absurd z (by decide)
  · obtain ⟨v, w, e, o⟩ := h.2.2 j hj
    refine ⟨v, w, (hm _ (by omega) (by omega)).trans e, ?_⟩
    rw [upd_ne qq]; exact o
end CL8
theorem tell_iff {R1 R' i : Nat} {s A0 A' to2 : Nat → Int32} {v : Int32} (hi : i < R1) (h1 : TOK R1 R' s to2) (h2 : TOK R1 R' A0 A') (hA : A0 = upd s i v) (hv : ¬ v < 0) (x : Nat) (hx : x < R') : (A' x < 0 ↔ upd to2 i 0 x < 0) := by
  by_cases q : x < R1
  · rw [h2.1 x q, hA]
    by_cases qi : x = i
    · subst qi
      rw [upd_self, upd_self]
      exact ⟨fun z => absurd z hv, fun z => absurd z (by decide)⟩
    · rw [upd_ne qi, upd_ne qi, h1.1 x q]
  · rw [h2.2 x (by omega) hx, upd_ne (by omega), h1.2 x (by omega) hx]
theorem hereF_pos {T : Nat → Int32} {Z g : Nat} (hT0 : ∀ k, k < Z → ¬ T k < 0) (h : ¬ hereF Z T g = -1) : ¬ hereF Z T g < 0 := by
  have hg := hereF_lt h
  rw [show hereF Z T g = T g from if_pos hg]
  exact hT0 g hg
theorem rule_fin {T : Nat → Int32} {Z a u R E g R1 E1 a' R' E' : Nat} {A A0 A' : Ro} {nm nm1 nm' : Nat → Int64} {K S : Nat → Int32} (hr : ruleS T Z a u R E A nm = some (g, u, R1, E1, 0, A0, nm1, true)) (h : Suc T Z (seqS T Z g u R1 E1 0 A0 nm1) 0 R1 K S a' R' E' A' nm') (hK : K 0 = 0) (h47 : ¬ hereF Z T (gapF T Z a') = 47) (hb : ¬ (bgF (hereF Z T (gapF T Z a')) = true ∧ a' < gapF T Z a')) : ((hereF Z T (gapF T Z a') = 10 ∨ hereF Z T (gapF T Z a') < 0) → ∃ u', RuleR T Z a u R E A nm (some (gapF T Z a', u', R', E', 0, A', nm', false))) ∧ (¬ (hereF Z T (gapF T Z a') = 10 ∨ hereF Z T (gapF T Z a') < 0) → RuleR T Z a u R E A nm none) := by
  obtain ⟨c1, u1, ho, hg, hk, hs⟩ := h
  have hA : A' 235 0 = 0 := (hk 0 (Nat.le_refl _)).trans hK
  have hb2 : bgF (hereF Z T (gapF T Z a')) = false ∨ gapF T Z a' ≤ a' := by
    by_cases q : bgF (hereF Z T (gapF T Z a')) = true
    · exact Or.inr (Nat.not_lt.mp (fun z => hb ⟨q, z⟩))
    · exact Or.inl (by simpa using q)
  have hgo := (Goes9.one (show turnS T Z (g, u, R1, E1, 0, A0, nm1, true) = some (true, c1) by show (seqS T Z g u R1 E1 0 A0 nm1).map _ = _; rw [ho]; rfl)).trans hg
  have n1 : ¬ A' 235 0 = 1 := by rw [hA]; decide
  have n2 : ¬ A' 235 0 = 2 := by rw [hA]; decide
  refine ⟨fun he => ⟨u1, Or.inr ⟨_, hr, Term.fin hgo (go_end h47 (Or.inr n1) (Or.inr n2) hb2 hA he)⟩⟩, fun he => Or.inr ⟨_, hr, Term.bad hgo (go_bad h47 (Or.inr n1) (Or.inr n2) hb2 (Or.inr ⟨fun z => he (Or.inl z), fun z => he (Or.inr z)⟩))⟩⟩
theorem RuleR.fai {T : Nat → Int32} {Z a u R E : Nat} {A : Ro} {nm : Nat → Int64} (h : Fai T Z (ruleS T Z a u R E A nm)) : RuleR T Z a u R E A nm none := by
  rcases h with h | ⟨c, h, hb⟩
  · exact Or.inl ⟨h, rfl⟩
  · exact Or.inr ⟨c, h, Term.of hb⟩
theorem rx_v {cy : Nat → ClassId} {ad : Nat → Nat} {lim a R E : Nat} {to : Nat → Int32} {nm : Nat → Int64} {m0 mem : Nat → va_E} {i : Nat} {x : Int64} {v w : Value} (h : RX cy ad lim a R E to nm m0 mem) (hi : i < R) (hm : mem (7 + i) = .inr (5, [.long x, v, w])) : v = .null ∨ ∃ p, v = .ref p := by
  have hb := h.1.1.1
  obtain ⟨nm9, v9, w9, e, o⟩ := h.1.1.2.2.2.2.1 i (by omega)
  rw [e] at hm
  injection hm with q
  injection q with q1 q2
  injection q2 with q3 q4
  injection q4 with q5 q6
  subst q5
  rcases (o hi).1 with z | ⟨j, _, _, z⟩
  · exact Or.inl z
  · exact Or.inr ⟨_, z⟩
theorem rx_w {cy : Nat → ClassId} {ad : Nat → Nat} {lim a R E : Nat} {to : Nat → Int32} {nm : Nat → Int64} {m0 mem : Nat → va_E} {i : Nat} {x : Int64} {v w : Value} (h : RX cy ad lim a R E to nm m0 mem) (hi : i < R) (hm : mem (7 + i) = .inr (5, [.long x, v, w])) : oE ad 0 lim v ∧ oE ad 0 lim w := by
  have hb := h.1.1.1
  obtain ⟨nm9, v9, w9, e, o⟩ := h.1.1.2.2.2.2.1 i (by omega)
  rw [e] at hm
  injection hm with q
  injection q with q1 q2
  injection q2 with q3 q4
  injection q4 with q5 q6
  injection q6 with q7 q8
  subst q5 q7
  exact o hi
set_option maxHeartbeats 4000000 in
set_option maxRecDepth 100000 in
theorem m_Ru_isToldX (l : Launch) {D : va_G} {cy : Nat → ClassId} {sz n : Nat} {ad : Nat → Nat} {mem : Nat → va_E} {Z a R Ec lim : Nat} {f T : Nat → Int32} {to : Nat → Int32} {nm : Nat → Int64} {m0 : Nat → va_E} {i : Nat} (hn : 224 ≤ n) (hT : TX cy ad Z f m0) (hf : ∀ k, k < Z → f k = T k) (hRX : RX cy ad lim a R Ec to nm m0 mem) (haB : a ≤ 300) (hi : i < R) : MI l D cy sz n ad y_Ru_isTold c_Ru_isTold 1 (some .boolean) ({ frames := 0, cells := 0, slots := 0, locals := 0 } : Room) mem [.ref (ad (7 + i))] (fun r mem' => mem' = mem ∧ ((r = 0 ∧ to i < 0) ∨ (r = 1 ∧ ¬ to i < 0))) := by
  refine Met.ofW (cc := c_Ru_isTold) (maxL := 1) (ret := (some .boolean)) (by decide) rfl ?_
  intro p e s m args below meth c s₁ B hml hv
  obtain ⟨rfl, E, hP, hD⟩ := hv
  have hx := B.exec
  have hb := B.bytes
  have hr := B.returns
  have hlocks := B.notSynchronized
  have Bx : MB p s m [.ref (ad (7 + i))].toArray c c_Ru_isTold "AbnfChart$Rule" D cy := ⟨hx, hb, tb_all (atoms_spec B.pre) E.2.1, findClass_of_methodNamed B.named, E.1⟩
  have hS : va_S (Az sz) s.heap s.heap [] := va_S.rf
  have hl := lv_entry ([.ref (ad (7 + i))]) (n := 1) (Nat.le_of_ble_eq_true rfl)
  rw [lg_entry_eq]
  generalize (lg_sl ([.ref (ad (7 + i))]) ++ List.replicate (1 - (lg_sl ([.ref (ad (7 + i))])).length) Slot.unset).toArray = ls at hl ⊢
  have hl : lv_has ls 1 [(0, .ref (ad (7 + i)))] := hl
  have hZ9 := hT.2.1
  have hbd9 := hRX.1.1.1
  obtain ⟨ft1, h9_2⟩ := hRX.2.1
  have h1_3 : mem 1 = .inr (0, [.ref (ad 2), .int (nI Z)]) := (hRX.1.2.2 1 (by omega)).trans hT.1
  have h2_4 : mem 2 = .inl (cy 0, 240, .inl f) := (hRX.1.2.2 2 (by omega)).trans hT.2.2
  have h5_5 := hRX.1.1.2.1
  have hbd11 := hRX.1.1.1
  obtain ⟨S6, g7, hS_8, h220_9, h221_10⟩ := hRX.1.1.2.2.2.2.2.2
  obtain ⟨fi12, la13, hru14, hro15, hro16⟩ := hRX.2.2 i (by omega)
  refine lv_aload_n Bx.1 Bx.2.1 d_Ru_isTold_0 rfl (lv_at hl 0 rfl) ?_
  refine f_get Bx hP (by omega) hru14 rfl inRu 1 (by decide) kw_57 rfl rfl d_Ru_isTold_1 ?_
  rcases rx_v hRX hi hru14 with hv | ⟨pp, hv⟩
  · have hto := hro15.mp hv
    rw [hv]
    refine lv_ifnullN Bx.1 Bx.2.1 d_Ru_isTold_4 rfl ?_
    refine lv_iconst (v := 0) Bx.1 Bx.2.1 d_Ru_isTold_11 (by decide) ?_
    exact W.zret (v := 0) hx hb hr rfl (fun t ht hW => ⟨⟨0, mem, rfl, ⟨rfl, Or.inl ⟨rfl, hto⟩⟩, by show va_P _ _ _ t.heap; rw [ht]; exact hP⟩, hS.F ht⟩) hS.2.2 d_Ru_isTold_12
  · have hto : ¬ to i < 0 := fun z => by have := hro15.mpr z; rw [hv] at this; cases this
    rw [hv]
    refine lv_ifnull Bx.1 Bx.2.1 d_Ru_isTold_4 ?_
    refine lv_iconst (v := 1) Bx.1 Bx.2.1 d_Ru_isTold_7 (by decide) ?_
    refine lv_goto Bx.1 Bx.2.1 d_Ru_isTold_8 rfl ?_
    exact W.zret (v := 1) hx hb hr rfl (fun t ht hW => ⟨⟨1, mem, rfl, ⟨rfl, Or.inr ⟨rfl, hto⟩⟩, by show va_P _ _ _ t.heap; rw [ht]; exact hP⟩, hS.F ht⟩) hS.2.2 d_Ru_isTold_12
set_option maxHeartbeats 4000000 in
set_option maxRecDepth 100000 in
theorem m_Ru_tellX (l : Launch) {D : va_G} {cy : Nat → ClassId} {sz n : Nat} {ad : Nat → Nat} {mem : Nat → va_E} {Z a R Ec lim : Nat} {f T : Nat → Int32} {to : Nat → Int32} {nm : Nat → Int64} {m0 : Nat → va_E} {i k : Nat} (hn : 224 ≤ n) (hT : TX cy ad Z f m0) (hf : ∀ k, k < Z → f k = T k) (hRX : RX cy ad lim a R Ec to nm m0 mem) (haB : a ≤ 300) (hi : i < R) (hk : lim ≤ k ∧ k < Ec) : MV l D cy sz n ad y_Ru_tell c_Ru_tell 2 ({ frames := 0, cells := 0, slots := 0, locals := 0 } : Room) mem [.ref (ad (7 + i)), .ref (ad (20 + 2 * k))] (fun mem' => RX cy ad Ec a R Ec (upd to i 0) nm m0 mem') := by
  refine Met.ofW (cc := c_Ru_tell) (maxL := 2) (ret := none) (by decide) rfl ?_
  intro p e s m args below meth c s₁ B hml hv
  obtain ⟨rfl, E, hP, hD⟩ := hv
  have hx := B.exec
  have hb := B.bytes
  have hr := B.returns
  have hlocks := B.notSynchronized
  have Bx : MB p s m [.ref (ad (7 + i)), .ref (ad (20 + 2 * k))].toArray c c_Ru_tell "AbnfChart$Rule" D cy := ⟨hx, hb, tb_all (atoms_spec B.pre) E.2.1, findClass_of_methodNamed B.named, E.1⟩
  have hS : va_S (Az sz) s.heap s.heap [] := va_S.rf
  have hl := lv_entry ([.ref (ad (7 + i)), .ref (ad (20 + 2 * k))]) (n := 2) (Nat.le_of_ble_eq_true rfl)
  rw [lg_entry_eq]
  generalize (lg_sl ([.ref (ad (7 + i)), .ref (ad (20 + 2 * k))]) ++ List.replicate (2 - (lg_sl ([.ref (ad (7 + i)), .ref (ad (20 + 2 * k))])).length) Slot.unset).toArray = ls at hl ⊢
  have hl : lv_has ls 2 [(0, .ref (ad (7 + i))), (1, .ref (ad (20 + 2 * k)))] := hl
  have hZ9 := hT.2.1
  have hbd9 := hRX.1.1.1
  obtain ⟨ft1, h9_2⟩ := hRX.2.1
  have h1_3 : mem 1 = .inr (0, [.ref (ad 2), .int (nI Z)]) := (hRX.1.2.2 1 (by omega)).trans hT.1
  have h2_4 : mem 2 = .inl (cy 0, 240, .inl f) := (hRX.1.2.2 2 (by omega)).trans hT.2.2
  have h5_5 := hRX.1.1.2.1
  have hbd11 := hRX.1.1.1
  obtain ⟨S6, g7, hS_8, h220_9, h221_10⟩ := hRX.1.1.2.2.2.2.2.2
  obtain ⟨fi12, la13, hru14, hro15, hro16⟩ := hRX.2.2 i (by omega)
  obtain ⟨ho1, ho2⟩ := rx_w hRX hi hru14
  refine lv_aload_n Bx.1 Bx.2.1 d_Ru_tell_0 rfl (lv_at hl 0 rfl) ?_
  refine f_get Bx hP (by omega) hru14 rfl inRu 2 (by decide) kw_59 rfl rfl d_Ru_tell_1 ?_
  rcases id ho2 with hv | ⟨j, hj1, hj2, hv⟩
  · rw [hv]
    refine lv_ifnonnullN Bx.1 Bx.2.1 d_Ru_tell_4 ?_
    refine lv_aload_n Bx.1 Bx.2.1 d_Ru_tell_7 rfl (lv_at hl 0 rfl) ?_
    refine lv_aload_n Bx.1 Bx.2.1 d_Ru_tell_8 rfl (lv_at hl 1 rfl) ?_
    refine f_put Bx hP hD hS (by omega) hru14 rfl inRu tyRu okRu nmRu 1 (by decide) kw_57 rfl rfl rfl rfl (Nat.le_of_ble_eq_true rfl) d_Ru_tell_9 (fun H locs hP hS => ?_)
    obtain ⟨mem17, e_mem17⟩ : ∃ z, z = va_up mem ((7 + i)) (.inr (5, [.long (nm i), .ref (ad (20 + 2 * k)), la13])) := ⟨_, rfl⟩
    have hP : va_P D vcl (fw n ad mem17) H := by rw [e_mem17]; exact hP
    have hD : va_D (Az sz) (fw n ad mem17) := fw_D hD
    have h_mem17 : mem17 ((7 + i)) = .inr (5, [.long (nm i), .ref (ad (20 + 2 * k)), la13]) := by rw [e_mem17, va_up_self]
    have hh18 := (va_up_ne mem (.inr (5, [.long (nm i), .ref (ad (20 + 2 * k)), la13])) (show (222 : Nat) ≠ (7 + i) by first | decide | assumption | omega)).trans h9_2
    rw [← e_mem17] at hh18
    have hh19 := (va_up_ne mem (.inr (5, [.long (nm i), .ref (ad (20 + 2 * k)), la13])) (show (1 : Nat) ≠ (7 + i) by first | decide | assumption | omega)).trans h1_3
    rw [← e_mem17] at hh19
    have hh20 := (va_up_ne mem (.inr (5, [.long (nm i), .ref (ad (20 + 2 * k)), la13])) (show (5 : Nat) ≠ (7 + i) by first | decide | assumption | omega)).trans h5_5
    rw [← e_mem17] at hh20
    have hh21 := (va_up_ne mem (.inr (5, [.long (nm i), .ref (ad (20 + 2 * k)), la13])) (show (220 : Nat) ≠ (7 + i) by first | decide | assumption | omega)).trans h220_9
    rw [← e_mem17] at hh21
    refine lv_goto Bx.1 Bx.2.1 d_Ru_tell_12 rfl ?_
    refine lv_aload_n Bx.1 Bx.2.1 d_Ru_tell_23 rfl (lv_at hl 0 rfl) ?_
    refine lv_aload_n Bx.1 Bx.2.1 d_Ru_tell_24 rfl (lv_at hl 1 rfl) ?_
    refine f_put Bx hP hD hS (by omega) h_mem17 rfl inRu tyRu okRu nmRu 2 (by decide) kw_59 rfl rfl rfl rfl (Nat.le_of_ble_eq_true rfl) d_Ru_tell_25 (fun H locs hP hS => ?_)
    obtain ⟨mem22, e_mem22⟩ : ∃ z, z = va_up mem17 ((7 + i)) (.inr (5, [.long (nm i), .ref (ad (20 + 2 * k)), .ref (ad (20 + 2 * k))])) := ⟨_, rfl⟩
    have hP : va_P D vcl (fw n ad mem22) H := by rw [e_mem22]; exact hP
    have hD : va_D (Az sz) (fw n ad mem22) := fw_D hD
    have h_mem22 : mem22 ((7 + i)) = .inr (5, [.long (nm i), .ref (ad (20 + 2 * k)), .ref (ad (20 + 2 * k))]) := by rw [e_mem22, va_up_self]
    have hh23 := (va_up_ne mem17 (.inr (5, [.long (nm i), .ref (ad (20 + 2 * k)), .ref (ad (20 + 2 * k))])) (show (222 : Nat) ≠ (7 + i) by first | decide | assumption | omega)).trans hh18
    rw [← e_mem22] at hh23
    have hh24 := (va_up_ne mem17 (.inr (5, [.long (nm i), .ref (ad (20 + 2 * k)), .ref (ad (20 + 2 * k))])) (show (1 : Nat) ≠ (7 + i) by first | decide | assumption | omega)).trans hh19
    rw [← e_mem22] at hh24
    have hh25 := (va_up_ne mem17 (.inr (5, [.long (nm i), .ref (ad (20 + 2 * k)), .ref (ad (20 + 2 * k))])) (show (5 : Nat) ≠ (7 + i) by first | decide | assumption | omega)).trans hh20
    rw [← e_mem22] at hh25
    have hh26 := (va_up_ne mem17 (.inr (5, [.long (nm i), .ref (ad (20 + 2 * k)), .ref (ad (20 + 2 * k))])) (show (220 : Nat) ≠ (7 + i) by first | decide | assumption | omega)).trans hh21
    rw [← e_mem22] at hh26
    exact W.vret hx hb hr (fun t ht hW => ⟨⟨mem22, rfl, by rw [e_mem22, e_mem17, up_up]; exact hRX.tell hi (hRX.1.grow.mk (by omega) (hRX.1.grow.1.upRu (by omega) (fun _ => ⟨Or.inr ⟨k, by omega, by omega, rfl⟩, Or.inr ⟨k, by omega, by omega, rfl⟩⟩))) (fun x9 _ hne9 => va_up_ne _ _ hne9) (va_up_self _ _ _), by show va_P _ _ _ t.heap; rw [ht]; exact hP⟩, hS.F ht⟩) hS.2.2 d_Ru_tell_28
  · have hnn : ∃ p9, fi12 = .ref p9 := (rx_v hRX hi hru14).resolve_left (fun z => by have := hro16.mpr (hro15.mp z); rw [hv] at this; cases this)
    obtain ⟨p9, hp9⟩ := hnn
    rw [hv]
    refine lv_ifnonnull Bx.1 Bx.2.1 d_Ru_tell_4 rfl ?_
    obtain ⟨k27, lo28, hi29, as30, pa31, ne32, he_33, ho_34⟩ := (hRX.1.1.2.2.2.2.2.1 j (by omega)).1
    refine lv_aload_n Bx.1 Bx.2.1 d_Ru_tell_15 rfl (lv_at hl 0 rfl) ?_
    refine f_get Bx hP (by omega) hru14 rfl inRu 2 (by decide) kw_59 rfl rfl d_Ru_tell_16 ?_
    rw [hv]
    refine lv_aload_n Bx.1 Bx.2.1 d_Ru_tell_19 rfl (lv_at hl 1 rfl) ?_
    refine f_putN Bx hP hD hS (by omega) he_33 rfl inEl tyEl okEl nmEl 5 (by decide) kw_90 rfl rfl rfl rfl (Nat.le_of_ble_eq_true rfl) d_Ru_tell_20 (fun H locs hP hS => ?_)
    obtain ⟨mem35, e_mem35⟩ : ∃ z, z = va_up mem ((20 + 2 * j)) (.inr (2, [.int (k27), .int (lo28), .int (hi29), as30, pa31, .ref (ad (20 + 2 * k)), .ref (ad (21 + 2 * j))])) := ⟨_, rfl⟩
    have hP : va_P D vcl (fw n ad mem35) H := by rw [e_mem35]; exact hP
    have hD : va_D (Az sz) (fw n ad mem35) := fw_D hD
    have h_mem35 : mem35 ((20 + 2 * j)) = .inr (2, [.int (k27), .int (lo28), .int (hi29), as30, pa31, .ref (ad (20 + 2 * k)), .ref (ad (21 + 2 * j))]) := by rw [e_mem35, va_up_self]
    have hh36 := (va_up_ne mem (.inr (2, [.int (k27), .int (lo28), .int (hi29), as30, pa31, .ref (ad (20 + 2 * k)), .ref (ad (21 + 2 * j))])) (show (222 : Nat) ≠ (20 + 2 * j) by first | decide | assumption | omega)).trans h9_2
    rw [← e_mem35] at hh36
    have hh37 := (va_up_ne mem (.inr (2, [.int (k27), .int (lo28), .int (hi29), as30, pa31, .ref (ad (20 + 2 * k)), .ref (ad (21 + 2 * j))])) (show (1 : Nat) ≠ (20 + 2 * j) by first | decide | assumption | omega)).trans h1_3
    rw [← e_mem35] at hh37
    have hh38 := (va_up_ne mem (.inr (2, [.int (k27), .int (lo28), .int (hi29), as30, pa31, .ref (ad (20 + 2 * k)), .ref (ad (21 + 2 * j))])) (show (5 : Nat) ≠ (20 + 2 * j) by first | decide | assumption | omega)).trans h5_5
    rw [← e_mem35] at hh38
    have hh39 := (va_up_ne mem (.inr (2, [.int (k27), .int (lo28), .int (hi29), as30, pa31, .ref (ad (20 + 2 * k)), .ref (ad (21 + 2 * j))])) (show (220 : Nat) ≠ (20 + 2 * j) by first | decide | assumption | omega)).trans h220_9
    rw [← e_mem35] at hh39
    have hh40 := (va_up_ne mem (.inr (2, [.int (k27), .int (lo28), .int (hi29), as30, pa31, .ref (ad (20 + 2 * k)), .ref (ad (21 + 2 * j))])) (show ((7 + i) : Nat) ≠ (20 + 2 * j) by first | decide | assumption | omega)).trans hru14
    rw [← e_mem35] at hh40
    have hRX41 : RX cy ad lim (a) (R) (Ec) (to) (nm) m0 mem35 := by rw [e_mem35]; exact hRX.el (by omega) (hRX.1.mk (by omega) (hRX.1.1.upEl (by omega) (fun q9 => ⟨(ho_34 q9).1, (ho_34 q9).2.1, Or.inr ⟨k, by omega, by omega, rfl⟩⟩)))
    refine lv_aload_n Bx.1 Bx.2.1 d_Ru_tell_23 rfl (lv_at hl 0 rfl) ?_
    refine lv_aload_n Bx.1 Bx.2.1 d_Ru_tell_24 rfl (lv_at hl 1 rfl) ?_
    refine f_put Bx hP hD hS (by omega) hh40 rfl inRu tyRu okRu nmRu 2 (by decide) kw_59 rfl rfl rfl rfl (Nat.le_of_ble_eq_true rfl) d_Ru_tell_25 (fun H locs hP hS => ?_)
    obtain ⟨mem42, e_mem42⟩ : ∃ z, z = va_up mem35 ((7 + i)) (.inr (5, [.long (nm i), fi12, .ref (ad (20 + 2 * k))])) := ⟨_, rfl⟩
    have hP : va_P D vcl (fw n ad mem42) H := by rw [e_mem42]; exact hP
    have hD : va_D (Az sz) (fw n ad mem42) := fw_D hD
    have h_mem42 : mem42 ((7 + i)) = .inr (5, [.long (nm i), fi12, .ref (ad (20 + 2 * k))]) := by rw [e_mem42, va_up_self]
    have hh43 := (va_up_ne mem35 (.inr (5, [.long (nm i), fi12, .ref (ad (20 + 2 * k))])) (show (222 : Nat) ≠ (7 + i) by first | decide | assumption | omega)).trans hh36
    rw [← e_mem42] at hh43
    have hh44 := (va_up_ne mem35 (.inr (5, [.long (nm i), fi12, .ref (ad (20 + 2 * k))])) (show (1 : Nat) ≠ (7 + i) by first | decide | assumption | omega)).trans hh37
    rw [← e_mem42] at hh44
    have hh45 := (va_up_ne mem35 (.inr (5, [.long (nm i), fi12, .ref (ad (20 + 2 * k))])) (show (5 : Nat) ≠ (7 + i) by first | decide | assumption | omega)).trans hh38
    rw [← e_mem42] at hh45
    have hh46 := (va_up_ne mem35 (.inr (5, [.long (nm i), fi12, .ref (ad (20 + 2 * k))])) (show (220 : Nat) ≠ (7 + i) by first | decide | assumption | omega)).trans hh39
    rw [← e_mem42] at hh46
    have hh47 := (va_up_ne mem35 (.inr (5, [.long (nm i), fi12, .ref (ad (20 + 2 * k))])) (show ((20 + 2 * j) : Nat) ≠ (7 + i) by first | decide | assumption | omega)).trans h_mem35
    rw [← e_mem42] at hh47
    exact W.vret hx hb hr (fun t ht hW => ⟨⟨mem42, rfl, by rw [e_mem42]; exact hRX41.tell hi (hRX41.1.grow.mk (by omega) (hRX41.1.grow.1.upRu (by omega) (fun _ => ⟨ho1.mono (by omega) (by omega), Or.inr ⟨k, by omega, by omega, rfl⟩⟩))) (fun x9 _ hne9 => va_up_ne _ _ hne9) (by rw [va_up_self, hp9]), by show va_P _ _ _ t.heap; rw [ht]; exact hP⟩, hS.F ht⟩) hS.2.2 d_Ru_tell_28
set_option maxHeartbeats 4000000 in
set_option maxRecDepth 100000 in
theorem m_Rd_readRuleX (l : Launch) {D : va_G} {cy : Nat → ClassId} {sz n : Nat} {ad : Nat → Nat} {mem : Nat → va_E} {Z a R Ec lim : Nat} {f T : Nat → Int32} {nm : Nat → Int64} {m0 : Nat → va_E} {u : Nat} {A : Ro} (hlt : l.stackTraces = false) (hn : 224 ≤ n) (hT : TX cy ad Z f m0) (hf : ∀ k, k < Z → f k = T k) (hRX : RX cy ad lim a R Ec (A 227) nm m0 mem) (haB : a ≤ 300) (haZ : a ≤ Z) (hT0 : ∀ k, k < Z → ¬ T k < 0) : NXv l D cy sz n ad y_Rd_readRule c_Rd_readRule 4 ({ frames := 60, cells := 1, slots := 6, locals := 1500 } : Room) mem [.ref (ad 222)] (fun mem' => ∃ (a' u' R' E' lim' : Nat) (A' : Ro) (nm' : Nat → Int64), ¬ ltF (hereF Z T a) = 0 ∧ RuleR T Z a u R Ec A nm (some (a', u', R', E', 0, A', nm', false)) ∧ a < a' ∧ a' ≤ Z ∧ RX cy ad lim' (lineF T Z (a' + 1)) R' E' (A' 227) nm' m0 mem') (fun X mem' => ((X = cIA ∨ X = cIS) ∧ ∃ lim' rc' ec' : Nat, RS cy ad lim' rc' ec' m0 mem') ∧ (ltF (hereF Z T a) = 0 ∨ RuleR T Z a u R Ec A nm none)) := by
  refine vx_ofW (cc := c_Rd_readRule) (maxL := 4) (ret := none) (by decide) rfl ?_
  intro p e s m args below meth c s₁ B hml hno hv
  obtain ⟨rfl, E, hP, hD⟩ := hv
  have hx := B.exec
  have hb := B.bytes
  have hr := B.returns
  have hlocks := B.notSynchronized
  have Bx : MB p s m [.ref (ad 222)].toArray c c_Rd_readRule "AbnfChart$Reader" D cy := ⟨hx, hb, tb_all (atoms_spec B.pre) E.2.1, findClass_of_methodNamed B.named, E.1⟩
  have hS : va_S (Az sz) s.heap s.heap [] := va_S.rf
  have hl := lv_entry ([.ref (ad 222)]) (n := 4) (Nat.le_of_ble_eq_true rfl)
  rw [lg_entry_eq]
  generalize (lg_sl ([.ref (ad 222)]) ++ List.replicate (4 - (lg_sl ([.ref (ad 222)])).length) Slot.unset).toArray = ls at hl ⊢
  have hl : lv_has ls 4 [(0, .ref (ad 222))] := hl
  have hZ9 := hT.2.1
  have hbd9 := hRX.1.1.1
  obtain ⟨ft1, h9_2⟩ := hRX.2.1
  have h1_3 : mem 1 = .inr (0, [.ref (ad 2), .int (nI Z)]) := (hRX.1.2.2 1 (by omega)).trans hT.1
  have h2_4 : mem 2 = .inl (cy 0, 240, .inl f) := (hRX.1.2.2 2 (by omega)).trans hT.2.2
  have h5_5 := hRX.1.1.2.1
  have hbd11 := hRX.1.1.1
  obtain ⟨S6, g7, hS_8, h220_9, h221_10⟩ := hRX.1.1.2.2.2.2.2.2
  refine lv_aload_n Bx.1 Bx.2.1 d_Rd_readRule_0 rfl (lv_at hl 0 rfl) ?_
  refine f_get Bx hP (by omega) h9_2 rfl inRd 2 (by decide) kw_146 rfl rfl d_Rd_readRule_1 ?_
  refine lv_istore_n (lv' := [(1, .int (nI a)), (0, .ref (ad 222))]) Bx.1 Bx.2.1 d_Rd_readRule_4 rfl hl (by decide) rfl (fun ls hl => ?_)
  refine lv_aload_n Bx.1 Bx.2.1 d_Rd_readRule_5 rfl (lv_at hl 1 rfl) ?_
  refine f_xVr (na := 0) (As := []) (rest := []) Bx hml E hP hD hS (by omega) h9_2 rfl (m_Rd_readNameX l hlt hn hT hf hRX (by omega) (A := A) (by omega)) kw_349 kw_351 sel_Rd_readName kw_6 kw_352 (by decide +kernel) ⟨rfl, rfl⟩ ⟨Nat.le_of_ble_eq_true rfl, Nat.le_of_ble_eq_true rfl⟩ rfl hl.1 (Nat.le_of_ble_eq_true rfl) d_Rd_readRule_6 ⟨Nat.le_of_ble_eq_true rfl, Nat.le_of_ble_eq_true rfl⟩ (fun X ce q9 memx H locs hx9 hP hS g1 g2 g3 => f_out hlocks hno hP hS g1 g2 g3 ⟨Nat.le_of_ble_eq_true rfl, Nat.le_of_ble_eq_true rfl⟩ ⟨⟨hx9.1.1, hx9.1.2.elim (fun a9 q9 => q9.elim (fun b9 q9 => ⟨_, a9, b9, q9⟩))⟩, hx9.2.elim Or.inl (fun z => Or.inr (Or.inl ⟨rule_n z, rfl⟩))⟩) (fun r12 mem13 H locs hq hP hS => ?_)
  have hD : va_D (Az sz) (fw n ad mem13) := fw_D hD
  obtain ⟨i, a1, R1, A1, nm1, hsn, hr9, hi, hR1, ha1, ha2, hA1, htk, ⟨to1, htk1, hRXn⟩, hle⟩ := hq
  subst hr9
  have hRXm : RX cy ad lim a1 R1 Ec (A1 227) nm1 m0 mem13 := hRXn.iff (fun x hx => by
    by_cases q : x < R
    · rw [htk.1 x q, htk1.1 x q]
    · rw [htk.2 x (by omega) hx, htk1.2 x (by omega) hx])
  obtain ⟨ft14, h9_15⟩ := hRXm.2.1
  have h1_16 : mem13 1 = .inr (0, [.ref (ad 2), .int (nI Z)]) := (hRXm.1.2.2 1 (by omega)).trans hT.1
  have h2_17 : mem13 2 = .inl (cy 0, 240, .inl f) := (hRXm.1.2.2 2 (by omega)).trans hT.2.2
  have h5_18 := hRXm.1.1.2.1
  have hbd24 := hRXm.1.1.1
  obtain ⟨S19, g20, hS_21, h220_22, h221_23⟩ := hRXm.1.1.2.2.2.2.2.2
  refine lv_astore_n (lv' := [(2, .ref (ad (7 + i))), (1, .int (nI a)), (0, .ref (ad 222))]) Bx.1 Bx.2.1 d_Rd_readRule_9 rfl hl (by decide) rfl (fun ls hl => ?_)
  refine lv_aload_n Bx.1 Bx.2.1 d_Rd_readRule_10 rfl (lv_at hl 2 rfl) ?_
  refine f_callVi (na := 0) (As := []) (rest := []) Bx hml E hP hD hS (by omega) h9_15 rfl (m_Rd_readGapX l hn hT hf hRXm (by omega) (by omega)) kw_397 kw_399 sel_Rd_readGap kw_6 kw_400 (by decide +kernel) ⟨rfl, rfl⟩ ⟨Nat.le_of_ble_eq_true rfl, Nat.le_of_ble_eq_true rfl⟩ rfl hl.1 (Nat.le_of_ble_eq_true rfl) d_Rd_readRule_11 ⟨Nat.le_of_ble_eq_true rfl, Nat.le_of_ble_eq_true rfl⟩ (fun r25 mem26 H locs hq hP hS => ?_)
  have hD : va_D (Az sz) (fw n ad mem26) := fw_D hD
  obtain ⟨g27, eg28⟩ : ∃ z, z = gapF T Z (a1) := ⟨_, rfl⟩
  rw [← eg28] at hq
  obtain ⟨hRX29, hgc30⟩ := hq
  have hg31 : a1 ≤ g27 := by rw [eg28]; exact gapF_ge T Z _
  have hg32 : g27 ≤ Z := by rw [eg28]; exact gapF_le T (by omega)
  obtain ⟨ft33, h9_34⟩ := hRX29.2.1
  have h1_35 : mem26 1 = .inr (0, [.ref (ad 2), .int (nI Z)]) := (hRX29.1.2.2 1 (by omega)).trans hT.1
  have h2_36 : mem26 2 = .inl (cy 0, 240, .inl f) := (hRX29.1.2.2 2 (by omega)).trans hT.2.2
  have h5_37 := hRX29.1.1.2.1
  have hbd43 := hRX29.1.1.1
  obtain ⟨S38, g39, hS_40, h220_41, h221_42⟩ := hRX29.1.1.2.2.2.2.2.2
  refine lv_pop Bx.1 Bx.2.1 d_Rd_readRule_14 rfl ?_
  refine lv_aload_n Bx.1 Bx.2.1 d_Rd_readRule_15 rfl (lv_at hl 2 rfl) ?_
  refine lv_aload_n Bx.1 Bx.2.1 d_Rd_readRule_16 rfl (lv_at hl 2 rfl) ?_
  refine f_callVi (na := 0) (As := []) (rest := [.ref (ad 222)]) Bx hml E hP hD hS (by omega) h9_34 rfl (m_Rd_peekX l hn hT hf hRX29 (by omega)) kw_353 kw_355 sel_Rd_peek kw_6 kw_356 (by decide +kernel) ⟨rfl, rfl⟩ ⟨Nat.le_of_ble_eq_true rfl, Nat.le_of_ble_eq_true rfl⟩ rfl hl.1 (Nat.le_of_ble_eq_true rfl) d_Rd_readRule_17 ⟨Nat.le_of_ble_eq_true rfl, Nat.le_of_ble_eq_true rfl⟩ (fun r45 mem46 H locs hq hP hS => ?_)
  have hD : va_D (Az sz) (fw n ad mem46) := fw_D hD
  obtain ⟨hqe, hpk44⟩ := hq
  rw [hqe] at hP hD
  subst hpk44
  refine lv_bipush (v := 61) Bx.1 Bx.2.1 d_Rd_readRule_20 (by decide) ?_
  refine lv_icmp_ne Bx.1 Bx.2.1 d_Rd_readRule_22 rfl (fun hb48 => ?_) (fun hb48 => ?_)
  · refine lv_iconst (v := 0) Bx.1 Bx.2.1 d_Rd_readRule_29 (by decide) ?_
    refine lv_aload_n Bx.1 Bx.2.1 d_Rd_readRule_30 rfl (lv_at hl 2 rfl) ?_
    refine f_get Bx hP (by omega) h9_34 rfl inRd 2 (by decide) kw_146 rfl rfl d_Rd_readRule_31 ?_
    refine f_xVv (na := 2) (As := [.int (0), .int (nI g27)]) (rest := []) Bx hml E hP hD hS (by omega) h9_34 rfl (m_Rd_needReadableX l hlt hn hT hf hRX29 (by omega)) kw_360 kw_362 sel_Rd_needReadable kw_6 kw_363 (by decide +kernel) ⟨rfl, rfl⟩ ⟨Nat.le_of_ble_eq_true rfl, Nat.le_of_ble_eq_true rfl⟩ rfl hl.1 (Nat.le_of_ble_eq_true rfl) d_Rd_readRule_34 ⟨Nat.le_of_ble_eq_true rfl, Nat.le_of_ble_eq_true rfl⟩ (fun X ce q9 memx H locs hx9 hP hS g1 g2 g3 => f_out hlocks hno hP hS g1 g2 g3 ⟨Nat.le_of_ble_eq_true rfl, Nat.le_of_ble_eq_true rfl⟩ ⟨⟨hx9.1.1, hx9.1.2.elim (fun a9 q9 => q9.elim (fun b9 q9 => ⟨_, a9, b9, q9⟩))⟩, Or.inr (Or.inl ⟨rule_e hsn (by rw [← eg28]; exact hb48), rfl⟩)⟩) (fun mem50 H locs hq hP hS => ?_)
    have hD : va_D (Az sz) (fw n ad mem50) := fw_D hD
    obtain ⟨hqe, hg51⟩ := hq
    rw [hqe] at hP hD
    exact absurd rfl hg51
  · have hlt52 := hereF_lt (by rw [hb48]; decide)
    refine lv_iconst (v := 1) Bx.1 Bx.2.1 d_Rd_readRule_25 (by decide) ?_
    refine lv_goto Bx.1 Bx.2.1 d_Rd_readRule_26 rfl ?_
    refine lv_aload_n Bx.1 Bx.2.1 d_Rd_readRule_30 rfl (lv_at hl 2 rfl) ?_
    refine f_get Bx hP (by omega) h9_34 rfl inRd 2 (by decide) kw_146 rfl rfl d_Rd_readRule_31 ?_
    refine f_xVv (na := 2) (As := [.int (1), .int (nI g27)]) (rest := []) Bx hml E hP hD hS (by omega) h9_34 rfl (m_Rd_needReadableX l hlt hn hT hf hRX29 (by omega)) kw_360 kw_362 sel_Rd_needReadable kw_6 kw_363 (by decide +kernel) ⟨rfl, rfl⟩ ⟨Nat.le_of_ble_eq_true rfl, Nat.le_of_ble_eq_true rfl⟩ rfl hl.1 (Nat.le_of_ble_eq_true rfl) d_Rd_readRule_34 ⟨Nat.le_of_ble_eq_true rfl, Nat.le_of_ble_eq_true rfl⟩ (fun X ce q9 memx H locs hx9 hP hS g1 g2 g3 => f_out hlocks hno hP hS g1 g2 g3 ⟨Nat.le_of_ble_eq_true rfl, Nat.le_of_ble_eq_true rfl⟩ ⟨⟨hx9.1.1, hx9.1.2.elim (fun a9 q9 => q9.elim (fun b9 q9 => ⟨_, a9, b9, q9⟩))⟩, absurd hx9.2 (by decide)⟩) (fun mem54 H locs hq hP hS => ?_)
    have hD : va_D (Az sz) (fw n ad mem54) := fw_D hD
    obtain ⟨hqe, hg55⟩ := hq
    rw [hqe] at hP hD
    refine lv_aload_n Bx.1 Bx.2.1 d_Rd_readRule_37 rfl (lv_at hl 2 rfl) ?_
    refine lv_dup Bx.1 Bx.2.1 d_Rd_readRule_38 rfl ?_
    refine f_get Bx hP (by omega) h9_34 rfl inRd 2 (by decide) kw_146 rfl rfl d_Rd_readRule_39 ?_
    refine lv_iconst (v := 1) Bx.1 Bx.2.1 d_Rd_readRule_42 (by decide) ?_
    refine lv_iadd Bx.1 Bx.2.1 d_Rd_readRule_43 ?_
    rw [show nI g27 + 1 = nI (g27 + 1) from nI_add (g27) (1)]
    refine f_put Bx hP hD hS (by omega) h9_34 rfl inRd tyRd okRd nmRd 2 (by decide) kw_146 rfl rfl rfl rfl (Nat.le_of_ble_eq_true rfl) d_Rd_readRule_44 (fun H locs hP hS => ?_)
    obtain ⟨mem56, e_mem56⟩ : ∃ z, z = va_up mem26 (222) (.inr (4, [.ref (ad 1), .ref (ad 5), .int (nI (g27 + 1)), .int (ft33)])) := ⟨_, rfl⟩
    have hP : va_P D vcl (fw n ad mem56) H := by rw [e_mem56]; exact hP
    have hD : va_D (Az sz) (fw n ad mem56) := fw_D hD
    have h_mem56 : mem56 (222) = .inr (4, [.ref (ad 1), .ref (ad 5), .int (nI (g27 + 1)), .int (ft33)]) := by rw [e_mem56, va_up_self]
    have hh57 := (va_up_ne mem26 (.inr (4, [.ref (ad 1), .ref (ad 5), .int (nI (g27 + 1)), .int (ft33)])) (show (1 : Nat) ≠ 222 by first | decide | assumption | omega)).trans h1_35
    rw [← e_mem56] at hh57
    have hh58 := (va_up_ne mem26 (.inr (4, [.ref (ad 1), .ref (ad 5), .int (nI (g27 + 1)), .int (ft33)])) (show (5 : Nat) ≠ 222 by first | decide | assumption | omega)).trans h5_37
    rw [← e_mem56] at hh58
    have hh59 := (va_up_ne mem26 (.inr (4, [.ref (ad 1), .ref (ad 5), .int (nI (g27 + 1)), .int (ft33)])) (show (220 : Nat) ≠ 222 by first | decide | assumption | omega)).trans h220_41
    rw [← e_mem56] at hh59
    have hRX60 : RX cy ad lim (g27 + 1) (R1) (Ec) (A1 227) (nm1) m0 mem56 := by rw [e_mem56]; exact hRX29.at
    refine lv_aload_n Bx.1 Bx.2.1 d_Rd_readRule_47 rfl (lv_at hl 2 rfl) ?_
    refine f_callVi (na := 0) (As := []) (rest := []) Bx hml E hP hD hS (by omega) h_mem56 rfl (m_Rd_peekX l hn hT hf hRX60 (by omega)) kw_353 kw_355 sel_Rd_peek kw_6 kw_356 (by decide +kernel) ⟨rfl, rfl⟩ ⟨Nat.le_of_ble_eq_true rfl, Nat.le_of_ble_eq_true rfl⟩ rfl hl.1 (Nat.le_of_ble_eq_true rfl) d_Rd_readRule_48 ⟨Nat.le_of_ble_eq_true rfl, Nat.le_of_ble_eq_true rfl⟩ (fun r62 mem63 H locs hq hP hS => ?_)
    have hD : va_D (Az sz) (fw n ad mem63) := fw_D hD
    obtain ⟨hqe, hpk61⟩ := hq
    rw [hqe] at hP hD
    subst hpk61
    refine lv_bipush (v := 47) Bx.1 Bx.2.1 d_Rd_readRule_51 (by decide) ?_
    refine lv_icmp_ne Bx.1 Bx.2.1 d_Rd_readRule_53 rfl (fun hb65 => ?_) (fun hb65 => ?_)
    · refine lv_iconst (v := 0) Bx.1 Bx.2.1 d_Rd_readRule_60 (by decide) ?_
      refine lv_istore_n (lv' := [(3, .int (0)), (2, .ref (ad (7 + i))), (1, .int (nI a)), (0, .ref (ad 222))]) Bx.1 Bx.2.1 d_Rd_readRule_61 rfl hl (by decide) rfl (fun ls hl => ?_)
      refine lv_iload_n Bx.1 Bx.2.1 d_Rd_readRule_62 rfl (lv_at hl 0 rfl) ?_
      refine lv_if_eq Bx.1 Bx.2.1 d_Rd_readRule_63 rfl (fun hb66 => ?_) (fun hb66 => ?_)
      · refine lv_aload_n Bx.1 Bx.2.1 d_Rd_readRule_76 rfl (lv_at hl 3 rfl) ?_
        refine lv_aload_n Bx.1 Bx.2.1 d_Rd_readRule_77 rfl (lv_at hl 1 rfl) ?_
        obtain ⟨fi67, la68, hru69, hro70, hro71⟩ := hRX60.2.2 i (by omega)
        refine f_callVi (na := 0) (As := []) (rest := [.ref (ad 222)]) Bx hml E hP hD hS (by omega) hru69 rfl (m_Ru_isToldX l hn hT hf hRX60 (by omega) hi) kw_401 kw_402 kw_403 kw_4 kw_404 (by decide +kernel) ⟨rfl, rfl⟩ ⟨Nat.le_of_ble_eq_true rfl, Nat.le_of_ble_eq_true rfl⟩ rfl hl.1 (Nat.le_of_ble_eq_true rfl) d_Rd_readRule_78 ⟨Nat.le_of_ble_eq_true rfl, Nat.le_of_ble_eq_true rfl⟩ (fun r72 mem73 H locs hq hP hS => ?_)
        have hD : va_D (Az sz) (fw n ad mem73) := fw_D hD
        obtain ⟨hqe, hto⟩ := hq
        rw [hqe] at hP hD
        rcases hto with ⟨hr75, hto76⟩ | ⟨hr75, hto76⟩
        · subst hr75
          refine lv_iload_n Bx.1 Bx.2.1 d_Rd_readRule_81 rfl (lv_at hl 0 rfl) ?_
          refine lv_icmp_ne Bx.1 Bx.2.1 d_Rd_readRule_82 rfl (fun hb77 => ?_) (fun hb77 => ?_)
          · exact absurd hb77 (by decide)
          · refine lv_iconst (v := 1) Bx.1 Bx.2.1 d_Rd_readRule_85 (by decide) ?_
            refine lv_goto Bx.1 Bx.2.1 d_Rd_readRule_86 rfl ?_
            refine lv_iload_n Bx.1 Bx.2.1 d_Rd_readRule_90 rfl (lv_at hl 2 rfl) ?_
            refine f_xVv (na := 2) (As := [.int (1), .int (nI a)]) (rest := []) Bx hml E hP hD hS (by omega) h_mem56 rfl (m_Rd_needReadableX l hlt hn hT hf hRX60 (by omega)) kw_360 kw_362 sel_Rd_needReadable kw_6 kw_363 (by decide +kernel) ⟨rfl, rfl⟩ ⟨Nat.le_of_ble_eq_true rfl, Nat.le_of_ble_eq_true rfl⟩ rfl hl.1 (Nat.le_of_ble_eq_true rfl) d_Rd_readRule_91 ⟨Nat.le_of_ble_eq_true rfl, Nat.le_of_ble_eq_true rfl⟩ (fun X ce q9 memx H locs hx9 hP hS g1 g2 g3 => f_out hlocks hno hP hS g1 g2 g3 ⟨Nat.le_of_ble_eq_true rfl, Nat.le_of_ble_eq_true rfl⟩ ⟨⟨hx9.1.1, hx9.1.2.elim (fun a9 q9 => q9.elim (fun b9 q9 => ⟨_, a9, b9, q9⟩))⟩, absurd hx9.2 (by decide)⟩) (fun mem79 H locs hq hP hS => ?_)
            have hD : va_D (Az sz) (fw n ad mem79) := fw_D hD
            obtain ⟨hqe, hg80⟩ := hq
            rw [hqe] at hP hD
            refine lv_aload_n Bx.1 Bx.2.1 d_Rd_readRule_94 rfl (lv_at hl 3 rfl) ?_
            refine f_callVi (na := 0) (As := []) (rest := []) Bx hml E hP hD hS (by omega) h_mem56 rfl (m_Rd_readGapX l hn hT hf hRX60 (by omega) (by omega)) kw_397 kw_399 sel_Rd_readGap kw_6 kw_400 (by decide +kernel) ⟨rfl, rfl⟩ ⟨Nat.le_of_ble_eq_true rfl, Nat.le_of_ble_eq_true rfl⟩ rfl hl.1 (Nat.le_of_ble_eq_true rfl) d_Rd_readRule_95 ⟨Nat.le_of_ble_eq_true rfl, Nat.le_of_ble_eq_true rfl⟩ (fun r81 mem82 H locs hq hP hS => ?_)
            have hD : va_D (Az sz) (fw n ad mem82) := fw_D hD
            obtain ⟨g83, eg84⟩ : ∃ z, z = gapF T Z (g27 + 1) := ⟨_, rfl⟩
            rw [← eg84] at hq
            obtain ⟨hRX85, hgc86⟩ := hq
            have hg87 : g27 + 1 ≤ g83 := by rw [eg84]; exact gapF_ge T Z _
            have hg88 : g83 ≤ Z := by rw [eg84]; exact gapF_le T (by omega)
            obtain ⟨ft89, h9_90⟩ := hRX85.2.1
            have h1_91 : mem82 1 = .inr (0, [.ref (ad 2), .int (nI Z)]) := (hRX85.1.2.2 1 (by omega)).trans hT.1
            have h2_92 : mem82 2 = .inl (cy 0, 240, .inl f) := (hRX85.1.2.2 2 (by omega)).trans hT.2.2
            have h5_93 := hRX85.1.1.2.1
            have hbd99 := hRX85.1.1.1
            obtain ⟨S94, g95, hS_96, h220_97, h221_98⟩ := hRX85.1.1.2.2.2.2.2.2
            refine lv_pop Bx.1 Bx.2.1 d_Rd_readRule_98 rfl ?_
            refine lv_aload_n Bx.1 Bx.2.1 d_Rd_readRule_99 rfl (lv_at hl 1 rfl) ?_
            refine lv_aload_n Bx.1 Bx.2.1 d_Rd_readRule_100 rfl (lv_at hl 3 rfl) ?_
            refine lv_iconst (v := 0) Bx.1 Bx.2.1 d_Rd_readRule_101 (by decide) ?_
            have hrs : ruleS T Z a u R Ec A nm = ent0S T Z (g27 + 1) u R1 Ec i A1 nm1 := by rw [rule_s hsn (by rw [← eg28]; exact hb48) (by rw [← eg28]; exact hb65) hto76, ← eg28]
            refine f_xVr (na := 1) (As := [.int (0)]) (rest := [.ref (ad (7 + i))]) Bx hml E hP hD hS (by omega) h9_90 rfl (m_Rd_readAlternatives_0X l hlt hn hT hf hRX85 (by omega) (u := u) (A := ent0A A1 Ec i) (by omega)) kw_405 kw_407 sel_Rd_readAlternatives kw_6 kw_408 (by decide +kernel) ⟨rfl, rfl⟩ ⟨Nat.le_of_ble_eq_true rfl, Nat.le_of_ble_eq_true rfl⟩ rfl hl.1 (Nat.le_of_ble_eq_true rfl) d_Rd_readRule_102 ⟨Nat.le_of_ble_eq_true rfl, Nat.le_of_ble_eq_true rfl⟩ (fun X ce q9 memx H locs hx9 hP hS g1 g2 g3 => f_out hlocks hno hP hS g1 g2 g3 ⟨Nat.le_of_ble_eq_true rfl, Nat.le_of_ble_eq_true rfl⟩ ⟨⟨hx9.1.1, hx9.1.2.elim (fun a9 q9 => q9.elim (fun b9 q9 => ⟨_, a9, b9, q9⟩))⟩, Or.inr (RuleR.fai (by rw [hrs]; exact hx9.2.elim (fun z => Or.inl (ent0S_no (Or.inl (by rw [← eg84]; exact z)))) (fun z => z.elim (fun z => Or.inl (ent0S_no (Or.inr z))) (fun z => Fai.br0 (by rw [ent0_ok (by rw [← eg84]; exact z.1) z.2.1, ← eg84]) z.2.2))))⟩) (fun r100 mem101 H locs hq hP hS => ?_)
            have hD : va_D (Az sz) (fw n ad mem101) := fw_D hD
            obtain ⟨kx102, a103, R104, E105, A106, nn107, to108, hr9109, hb110, hb111, hb112, hb113, hb114, htk115, hRX116, hsc117, hbg118, hE119, h47120, hnb121⟩ := hq
            subst hr9109
            obtain ⟨g122, eg123⟩ : ∃ z, z = gapF T Z a103 := ⟨_, rfl⟩
            have hg124 : a103 ≤ g122 := by rw [eg123]; exact gapF_ge T Z _
            have hg125 : g122 ≤ Z := by rw [eg123]; exact gapF_le T (by omega)
            rw [← eg123] at hRX116
            obtain ⟨ft126, h9_127⟩ := hRX116.2.1
            have h1_128 : mem101 1 = .inr (0, [.ref (ad 2), .int (nI Z)]) := (hRX116.1.2.2 1 (by omega)).trans hT.1
            have h2_129 : mem101 2 = .inl (cy 0, 240, .inl f) := (hRX116.1.2.2 2 (by omega)).trans hT.2.2
            have h5_130 := hRX116.1.1.2.1
            have hbd136 := hRX116.1.1.1
            obtain ⟨S131, g132, hS_133, h220_134, h221_135⟩ := hRX116.1.1.2.2.2.2.2.2
            obtain ⟨k137, lo138, hi139, as140, pa141, ne142, he_143, ho_144⟩ := (hRX116.1.1.2.2.2.2.2.1 kx102 (by omega)).1
            have hbd145 := hRX116.1.1.1
            obtain ⟨v9, hv9, hv0⟩ := ent0A_7 (A := A1) (r := i) hE119
            have hrs2 : ruleS T Z a u R Ec A nm = some (g83, u, R1, Ec + 1, 0, ent0A A1 Ec i, nm1, true) := by rw [hrs, ent0_ok (by rw [← eg84]; exact hbg118) hE119, ← eg84]
            have hfin := rule_fin hrs2 hsc117 (by rw [ent0A_5, upd_self]) h47120 hnb121
            have htk9 : TOK R1 R104 (ent0A A1 Ec i 227) (A106 227) := by
              obtain ⟨_, _, _, _, _, hs⟩ := hsc117
              exact hs
            obtain ⟨fi146, la147, hru148, hro149, hro150⟩ := hRX116.2.2 i (by omega)
            refine f_callVv (na := 1) (As := [.ref (ad (20 + 2 * kx102))]) (rest := []) Bx hml E hP hD hS (by omega) hru148 rfl (m_Ru_tellX l hn hT hf hRX116 (by omega) (i := i) (k := kx102) (by omega) ⟨by omega, by omega⟩) kw_490 kw_491 kw_492 kw_4 kw_493 (by decide +kernel) ⟨rfl, rfl⟩ ⟨Nat.le_of_ble_eq_true rfl, Nat.le_of_ble_eq_true rfl⟩ rfl hl.1 (Nat.le_of_ble_eq_true rfl) d_Rd_readRule_105 ⟨Nat.le_of_ble_eq_true rfl, Nat.le_of_ble_eq_true rfl⟩ (fun mem152 H locs hq hP hS => ?_)
            have hD : va_D (Az sz) (fw n ad mem152) := fw_D hD
            have hRX153 : RX cy ad E105 (g122) (R104) (E105) (A106 227) (nn107) m0 mem152 := hq.iff (fun x hx => tell_iff hi htk115 htk9 hv9 hv0 x hx)
            obtain ⟨ft154, h9_155⟩ := hRX153.2.1
            have h1_156 : mem152 1 = .inr (0, [.ref (ad 2), .int (nI Z)]) := (hRX153.1.2.2 1 (by omega)).trans hT.1
            have h2_157 : mem152 2 = .inl (cy 0, 240, .inl f) := (hRX153.1.2.2 2 (by omega)).trans hT.2.2
            have h5_158 := hRX153.1.1.2.1
            have hbd164 := hRX153.1.1.1
            obtain ⟨S159, g160, hS_161, h220_162, h221_163⟩ := hRX153.1.1.2.2.2.2.2.2
            obtain ⟨k165, lo166, hi167, as168, pa169, ne170, he_171, ho_172⟩ := (hRX153.1.1.2.2.2.2.2.1 kx102 (by omega)).1
            refine lv_aload_n Bx.1 Bx.2.1 d_Rd_readRule_108 rfl (lv_at hl 3 rfl) ?_
            refine lv_aload_n Bx.1 Bx.2.1 d_Rd_readRule_109 rfl (lv_at hl 3 rfl) ?_
            refine f_callVi (na := 0) (As := []) (rest := [.ref (ad 222)]) Bx hml E hP hD hS (by omega) h9_155 rfl (m_Rd_peekX l hn hT hf hRX153 (by omega)) kw_353 kw_355 sel_Rd_peek kw_6 kw_356 (by decide +kernel) ⟨rfl, rfl⟩ ⟨Nat.le_of_ble_eq_true rfl, Nat.le_of_ble_eq_true rfl⟩ rfl hl.1 (Nat.le_of_ble_eq_true rfl) d_Rd_readRule_110 ⟨Nat.le_of_ble_eq_true rfl, Nat.le_of_ble_eq_true rfl⟩ (fun r174 mem175 H locs hq hP hS => ?_)
            have hD : va_D (Az sz) (fw n ad mem175) := fw_D hD
            obtain ⟨hqe, hpk173⟩ := hq
            rw [hqe] at hP hD
            subst hpk173
            refine lv_iconst (v := -1) Bx.1 Bx.2.1 d_Rd_readRule_113 (by decide) ?_
            refine lv_icmp_eq Bx.1 Bx.2.1 d_Rd_readRule_114 rfl (fun hb177 => ?_) (fun hb177 => ?_)
            · refine lv_iconst (v := 1) Bx.1 Bx.2.1 d_Rd_readRule_126 (by decide) ?_
              refine lv_goto Bx.1 Bx.2.1 d_Rd_readRule_127 rfl ?_
              refine lv_aload_n Bx.1 Bx.2.1 d_Rd_readRule_131 rfl (lv_at hl 3 rfl) ?_
              refine f_get Bx hP (by omega) h9_155 rfl inRd 2 (by decide) kw_146 rfl rfl d_Rd_readRule_132 ?_
              refine f_xVv (na := 2) (As := [.int (1), .int (nI g122)]) (rest := []) Bx hml E hP hD hS (by omega) h9_155 rfl (m_Rd_needReadableX l hlt hn hT hf hRX153 (by omega)) kw_360 kw_362 sel_Rd_needReadable kw_6 kw_363 (by decide +kernel) ⟨rfl, rfl⟩ ⟨Nat.le_of_ble_eq_true rfl, Nat.le_of_ble_eq_true rfl⟩ rfl hl.1 (Nat.le_of_ble_eq_true rfl) d_Rd_readRule_135 ⟨Nat.le_of_ble_eq_true rfl, Nat.le_of_ble_eq_true rfl⟩ (fun X ce q9 memx H locs hx9 hP hS g1 g2 g3 => f_out hlocks hno hP hS g1 g2 g3 ⟨Nat.le_of_ble_eq_true rfl, Nat.le_of_ble_eq_true rfl⟩ ⟨⟨hx9.1.1, hx9.1.2.elim (fun a9 q9 => q9.elim (fun b9 q9 => ⟨_, a9, b9, q9⟩))⟩, absurd hx9.2 (by decide)⟩) (fun mem179 H locs hq hP hS => ?_)
              have hD : va_D (Az sz) (fw n ad mem179) := fw_D hD
              obtain ⟨hqe, hg180⟩ := hq
              rw [hqe] at hP hD
              refine lv_aload_n Bx.1 Bx.2.1 d_Rd_readRule_138 rfl (lv_at hl 3 rfl) ?_
              refine lv_aload_n Bx.1 Bx.2.1 d_Rd_readRule_139 rfl (lv_at hl 3 rfl) ?_
              refine lv_aload_n Bx.1 Bx.2.1 d_Rd_readRule_140 rfl (lv_at hl 3 rfl) ?_
              refine f_get Bx hP (by omega) h9_155 rfl inRd 2 (by decide) kw_146 rfl rfl d_Rd_readRule_141 ?_
              refine lv_iconst (v := 1) Bx.1 Bx.2.1 d_Rd_readRule_144 (by decide) ?_
              refine lv_iadd Bx.1 Bx.2.1 d_Rd_readRule_145 ?_
              rw [show nI g122 + 1 = nI (g122 + 1) from nI_add (g122) (1)]
              refine f_callVi (na := 1) (As := [.int (nI (g122 + 1))]) (rest := [.ref (ad 222)]) Bx hml E hP hD hS (by omega) h9_155 rfl (m_Rd_fullLineFromX l hn hT hf hRX153 (k0 := g122 + 1) (by omega)) kw_337 kw_339 sel_Rd_fullLineFrom kw_6 kw_340 (by decide +kernel) ⟨rfl, rfl⟩ ⟨Nat.le_of_ble_eq_true rfl, Nat.le_of_ble_eq_true rfl⟩ rfl hl.1 (Nat.le_of_ble_eq_true rfl) d_Rd_readRule_146 ⟨Nat.le_of_ble_eq_true rfl, Nat.le_of_ble_eq_true rfl⟩ (fun r182 mem183 H locs hq hP hS => ?_)
              have hD : va_D (Az sz) (fw n ad mem183) := fw_D hD
              obtain ⟨hqe, hfl181⟩ := hq
              rw [hqe] at hP hD
              obtain ⟨li185, ea186⟩ : ∃ z, z = lineF T Z (g122 + 1) := ⟨_, rfl⟩
              rw [← ea186] at hfl181
              subst hfl181
              have hb187 : li185 ≤ Z := by rw [ea186]; exact lineF_le T Z _
              refine f_put Bx hP hD hS (by omega) h9_155 rfl inRd tyRd okRd nmRd 2 (by decide) kw_146 rfl rfl rfl rfl (Nat.le_of_ble_eq_true rfl) d_Rd_readRule_149 (fun H locs hP hS => ?_)
              obtain ⟨mem188, e_mem188⟩ : ∃ z, z = va_up mem152 (222) (.inr (4, [.ref (ad 1), .ref (ad 5), .int (nI li185), .int (ft154)])) := ⟨_, rfl⟩
              have hP : va_P D vcl (fw n ad mem188) H := by rw [e_mem188]; exact hP
              have hD : va_D (Az sz) (fw n ad mem188) := fw_D hD
              have h_mem188 : mem188 (222) = .inr (4, [.ref (ad 1), .ref (ad 5), .int (nI li185), .int (ft154)]) := by rw [e_mem188, va_up_self]
              have hh189 := (va_up_ne mem152 (.inr (4, [.ref (ad 1), .ref (ad 5), .int (nI li185), .int (ft154)])) (show (1 : Nat) ≠ 222 by first | decide | assumption | omega)).trans h1_156
              rw [← e_mem188] at hh189
              have hh190 := (va_up_ne mem152 (.inr (4, [.ref (ad 1), .ref (ad 5), .int (nI li185), .int (ft154)])) (show (5 : Nat) ≠ 222 by first | decide | assumption | omega)).trans h5_158
              rw [← e_mem188] at hh190
              have hh191 := (va_up_ne mem152 (.inr (4, [.ref (ad 1), .ref (ad 5), .int (nI li185), .int (ft154)])) (show (220 : Nat) ≠ 222 by first | decide | assumption | omega)).trans h220_162
              rw [← e_mem188] at hh191
              have hh192 := (va_up_ne mem152 (.inr (4, [.ref (ad 1), .ref (ad 5), .int (nI li185), .int (ft154)])) (show ((20 + 2 * kx102) : Nat) ≠ 222 by first | decide | assumption | omega)).trans he_171
              rw [← e_mem188] at hh192
              have hRX193 : RX cy ad E105 (li185) (R104) (E105) (A106 227) (nn107) m0 mem188 := by rw [e_mem188]; exact hRX153.at
              obtain ⟨u9, hrr9⟩ := hfin.1 (by rw [← eg123]; exact Or.inr (by rw [hb177]; decide))
              exact x_vret hx hb hlocks hr (⟨g122, u9, R104, E105, _, A106, nn107, hle, by rw [eg123]; exact hrr9, by omega, by omega, by rw [← ea186]; exact hRX193⟩) hP hS d_Rd_readRule_152
            · refine lv_aload_n Bx.1 Bx.2.1 d_Rd_readRule_117 rfl (lv_at hl 3 rfl) ?_
              refine f_callVi (na := 0) (As := []) (rest := [.ref (ad 222)]) Bx hml E hP hD hS (by omega) h9_155 rfl (m_Rd_peekX l hn hT hf hRX153 (by omega)) kw_353 kw_355 sel_Rd_peek kw_6 kw_356 (by decide +kernel) ⟨rfl, rfl⟩ ⟨Nat.le_of_ble_eq_true rfl, Nat.le_of_ble_eq_true rfl⟩ rfl hl.1 (Nat.le_of_ble_eq_true rfl) d_Rd_readRule_118 ⟨Nat.le_of_ble_eq_true rfl, Nat.le_of_ble_eq_true rfl⟩ (fun r195 mem196 H locs hq hP hS => ?_)
              have hD : va_D (Az sz) (fw n ad mem196) := fw_D hD
              obtain ⟨hqe, hpk194⟩ := hq
              rw [hqe] at hP hD
              subst hpk194
              refine lv_bipush (v := 10) Bx.1 Bx.2.1 d_Rd_readRule_121 (by decide) ?_
              refine lv_icmp_ne Bx.1 Bx.2.1 d_Rd_readRule_123 rfl (fun hb198 => ?_) (fun hb198 => ?_)
              · refine lv_iconst (v := 0) Bx.1 Bx.2.1 d_Rd_readRule_130 (by decide) ?_
                refine lv_aload_n Bx.1 Bx.2.1 d_Rd_readRule_131 rfl (lv_at hl 3 rfl) ?_
                refine f_get Bx hP (by omega) h9_155 rfl inRd 2 (by decide) kw_146 rfl rfl d_Rd_readRule_132 ?_
                refine f_xVv (na := 2) (As := [.int (0), .int (nI g122)]) (rest := []) Bx hml E hP hD hS (by omega) h9_155 rfl (m_Rd_needReadableX l hlt hn hT hf hRX153 (by omega)) kw_360 kw_362 sel_Rd_needReadable kw_6 kw_363 (by decide +kernel) ⟨rfl, rfl⟩ ⟨Nat.le_of_ble_eq_true rfl, Nat.le_of_ble_eq_true rfl⟩ rfl hl.1 (Nat.le_of_ble_eq_true rfl) d_Rd_readRule_135 ⟨Nat.le_of_ble_eq_true rfl, Nat.le_of_ble_eq_true rfl⟩ (fun X ce q9 memx H locs hx9 hP hS g1 g2 g3 => f_out hlocks hno hP hS g1 g2 g3 ⟨Nat.le_of_ble_eq_true rfl, Nat.le_of_ble_eq_true rfl⟩ ⟨⟨hx9.1.1, hx9.1.2.elim (fun a9 q9 => q9.elim (fun b9 q9 => ⟨_, a9, b9, q9⟩))⟩, Or.inr (hfin.2 (fun z => z.elim (fun y => hb198 (by rw [eg123]; exact y)) (fun y => hereF_pos hT0 hb177 (by rw [eg123]; exact y))))⟩) (fun mem200 H locs hq hP hS => ?_)
                have hD : va_D (Az sz) (fw n ad mem200) := fw_D hD
                obtain ⟨hqe, hg201⟩ := hq
                rw [hqe] at hP hD
                exact absurd rfl hg201
              · have hlt202 := hereF_lt (by rw [hb198]; decide)
                refine lv_iconst (v := 1) Bx.1 Bx.2.1 d_Rd_readRule_126 (by decide) ?_
                refine lv_goto Bx.1 Bx.2.1 d_Rd_readRule_127 rfl ?_
                refine lv_aload_n Bx.1 Bx.2.1 d_Rd_readRule_131 rfl (lv_at hl 3 rfl) ?_
                refine f_get Bx hP (by omega) h9_155 rfl inRd 2 (by decide) kw_146 rfl rfl d_Rd_readRule_132 ?_
                refine f_xVv (na := 2) (As := [.int (1), .int (nI g122)]) (rest := []) Bx hml E hP hD hS (by omega) h9_155 rfl (m_Rd_needReadableX l hlt hn hT hf hRX153 (by omega)) kw_360 kw_362 sel_Rd_needReadable kw_6 kw_363 (by decide +kernel) ⟨rfl, rfl⟩ ⟨Nat.le_of_ble_eq_true rfl, Nat.le_of_ble_eq_true rfl⟩ rfl hl.1 (Nat.le_of_ble_eq_true rfl) d_Rd_readRule_135 ⟨Nat.le_of_ble_eq_true rfl, Nat.le_of_ble_eq_true rfl⟩ (fun X ce q9 memx H locs hx9 hP hS g1 g2 g3 => f_out hlocks hno hP hS g1 g2 g3 ⟨Nat.le_of_ble_eq_true rfl, Nat.le_of_ble_eq_true rfl⟩ ⟨⟨hx9.1.1, hx9.1.2.elim (fun a9 q9 => q9.elim (fun b9 q9 => ⟨_, a9, b9, q9⟩))⟩, absurd hx9.2 (by decide)⟩) (fun mem204 H locs hq hP hS => ?_)
                have hD : va_D (Az sz) (fw n ad mem204) := fw_D hD
                obtain ⟨hqe, hg205⟩ := hq
                rw [hqe] at hP hD
                refine lv_aload_n Bx.1 Bx.2.1 d_Rd_readRule_138 rfl (lv_at hl 3 rfl) ?_
                refine lv_aload_n Bx.1 Bx.2.1 d_Rd_readRule_139 rfl (lv_at hl 3 rfl) ?_
                refine lv_aload_n Bx.1 Bx.2.1 d_Rd_readRule_140 rfl (lv_at hl 3 rfl) ?_
                refine f_get Bx hP (by omega) h9_155 rfl inRd 2 (by decide) kw_146 rfl rfl d_Rd_readRule_141 ?_
                refine lv_iconst (v := 1) Bx.1 Bx.2.1 d_Rd_readRule_144 (by decide) ?_
                refine lv_iadd Bx.1 Bx.2.1 d_Rd_readRule_145 ?_
                rw [show nI g122 + 1 = nI (g122 + 1) from nI_add (g122) (1)]
                refine f_callVi (na := 1) (As := [.int (nI (g122 + 1))]) (rest := [.ref (ad 222)]) Bx hml E hP hD hS (by omega) h9_155 rfl (m_Rd_fullLineFromX l hn hT hf hRX153 (k0 := g122 + 1) (by omega)) kw_337 kw_339 sel_Rd_fullLineFrom kw_6 kw_340 (by decide +kernel) ⟨rfl, rfl⟩ ⟨Nat.le_of_ble_eq_true rfl, Nat.le_of_ble_eq_true rfl⟩ rfl hl.1 (Nat.le_of_ble_eq_true rfl) d_Rd_readRule_146 ⟨Nat.le_of_ble_eq_true rfl, Nat.le_of_ble_eq_true rfl⟩ (fun r207 mem208 H locs hq hP hS => ?_)
                have hD : va_D (Az sz) (fw n ad mem208) := fw_D hD
                obtain ⟨hqe, hfl206⟩ := hq
                rw [hqe] at hP hD
                obtain ⟨li210, ea211⟩ : ∃ z, z = lineF T Z (g122 + 1) := ⟨_, rfl⟩
                rw [← ea211] at hfl206
                subst hfl206
                have hb212 : li210 ≤ Z := by rw [ea211]; exact lineF_le T Z _
                refine f_put Bx hP hD hS (by omega) h9_155 rfl inRd tyRd okRd nmRd 2 (by decide) kw_146 rfl rfl rfl rfl (Nat.le_of_ble_eq_true rfl) d_Rd_readRule_149 (fun H locs hP hS => ?_)
                obtain ⟨mem213, e_mem213⟩ : ∃ z, z = va_up mem152 (222) (.inr (4, [.ref (ad 1), .ref (ad 5), .int (nI li210), .int (ft154)])) := ⟨_, rfl⟩
                have hP : va_P D vcl (fw n ad mem213) H := by rw [e_mem213]; exact hP
                have hD : va_D (Az sz) (fw n ad mem213) := fw_D hD
                have h_mem213 : mem213 (222) = .inr (4, [.ref (ad 1), .ref (ad 5), .int (nI li210), .int (ft154)]) := by rw [e_mem213, va_up_self]
                have hh214 := (va_up_ne mem152 (.inr (4, [.ref (ad 1), .ref (ad 5), .int (nI li210), .int (ft154)])) (show (1 : Nat) ≠ 222 by first | decide | assumption | omega)).trans h1_156
                rw [← e_mem213] at hh214
                have hh215 := (va_up_ne mem152 (.inr (4, [.ref (ad 1), .ref (ad 5), .int (nI li210), .int (ft154)])) (show (5 : Nat) ≠ 222 by first | decide | assumption | omega)).trans h5_158
                rw [← e_mem213] at hh215
                have hh216 := (va_up_ne mem152 (.inr (4, [.ref (ad 1), .ref (ad 5), .int (nI li210), .int (ft154)])) (show (220 : Nat) ≠ 222 by first | decide | assumption | omega)).trans h220_162
                rw [← e_mem213] at hh216
                have hh217 := (va_up_ne mem152 (.inr (4, [.ref (ad 1), .ref (ad 5), .int (nI li210), .int (ft154)])) (show ((20 + 2 * kx102) : Nat) ≠ 222 by first | decide | assumption | omega)).trans he_171
                rw [← e_mem213] at hh217
                have hRX218 : RX cy ad E105 (li210) (R104) (E105) (A106 227) (nn107) m0 mem213 := by rw [e_mem213]; exact hRX153.at
                obtain ⟨u9, hrr9⟩ := hfin.1 (by rw [← eg123]; exact Or.inl hb198)
                exact x_vret hx hb hlocks hr (⟨g122, u9, R104, E105, _, A106, nn107, hle, by rw [eg123]; exact hrr9, by omega, by omega, by rw [← ea211]; exact hRX218⟩) hP hS d_Rd_readRule_152
        · subst hr75
          refine lv_iload_n Bx.1 Bx.2.1 d_Rd_readRule_81 rfl (lv_at hl 0 rfl) ?_
          refine lv_icmp_ne Bx.1 Bx.2.1 d_Rd_readRule_82 rfl (fun hb219 => ?_) (fun hb219 => ?_)
          · refine lv_iconst (v := 0) Bx.1 Bx.2.1 d_Rd_readRule_89 (by decide) ?_
            refine lv_iload_n Bx.1 Bx.2.1 d_Rd_readRule_90 rfl (lv_at hl 2 rfl) ?_
            refine f_xVv (na := 2) (As := [.int (0), .int (nI a)]) (rest := []) Bx hml E hP hD hS (by omega) h_mem56 rfl (m_Rd_needReadableX l hlt hn hT hf hRX60 (by omega)) kw_360 kw_362 sel_Rd_needReadable kw_6 kw_363 (by decide +kernel) ⟨rfl, rfl⟩ ⟨Nat.le_of_ble_eq_true rfl, Nat.le_of_ble_eq_true rfl⟩ rfl hl.1 (Nat.le_of_ble_eq_true rfl) d_Rd_readRule_91 ⟨Nat.le_of_ble_eq_true rfl, Nat.le_of_ble_eq_true rfl⟩ (fun X ce q9 memx H locs hx9 hP hS g1 g2 g3 => f_out hlocks hno hP hS g1 g2 g3 ⟨Nat.le_of_ble_eq_true rfl, Nat.le_of_ble_eq_true rfl⟩ ⟨⟨hx9.1.1, hx9.1.2.elim (fun a9 q9 => q9.elim (fun b9 q9 => ⟨_, a9, b9, q9⟩))⟩, Or.inr (Or.inl ⟨rule_t hsn (by rw [← eg28]; exact hb48) (fun z => hb65 (by rw [eg28]; exact z.mpr hto76)), rfl⟩)⟩) (fun mem221 H locs hq hP hS => ?_)
            have hD : va_D (Az sz) (fw n ad mem221) := fw_D hD
            obtain ⟨hqe, hg222⟩ := hq
            rw [hqe] at hP hD
            exact absurd rfl hg222
          · exact absurd hb219 (by decide)
      · exact absurd hb66 (by decide)
    · have hlt223 := hereF_lt (by rw [hb65]; decide)
      refine lv_iconst (v := 1) Bx.1 Bx.2.1 d_Rd_readRule_56 (by decide) ?_
      refine lv_goto Bx.1 Bx.2.1 d_Rd_readRule_57 rfl ?_
      refine lv_istore_n (lv' := [(3, .int (1)), (2, .ref (ad (7 + i))), (1, .int (nI a)), (0, .ref (ad 222))]) Bx.1 Bx.2.1 d_Rd_readRule_61 rfl hl (by decide) rfl (fun ls hl => ?_)
      refine lv_iload_n Bx.1 Bx.2.1 d_Rd_readRule_62 rfl (lv_at hl 0 rfl) ?_
      refine lv_if_eq Bx.1 Bx.2.1 d_Rd_readRule_63 rfl (fun hb224 => ?_) (fun hb224 => ?_)
      · exact absurd hb224 (by decide)
      · refine lv_aload_n Bx.1 Bx.2.1 d_Rd_readRule_66 rfl (lv_at hl 3 rfl) ?_
        refine lv_dup Bx.1 Bx.2.1 d_Rd_readRule_67 rfl ?_
        refine f_get Bx hP (by omega) h_mem56 rfl inRd 2 (by decide) kw_146 rfl rfl d_Rd_readRule_68 ?_
        refine lv_iconst (v := 1) Bx.1 Bx.2.1 d_Rd_readRule_71 (by decide) ?_
        refine lv_iadd Bx.1 Bx.2.1 d_Rd_readRule_72 ?_
        rw [show nI (g27 + 1) + 1 = nI (g27 + 1 + 1) from nI_add (g27 + 1) (1)]
        refine f_put Bx hP hD hS (by omega) h_mem56 rfl inRd tyRd okRd nmRd 2 (by decide) kw_146 rfl rfl rfl rfl (Nat.le_of_ble_eq_true rfl) d_Rd_readRule_73 (fun H locs hP hS => ?_)
        obtain ⟨mem225, e_mem225⟩ : ∃ z, z = va_up mem56 (222) (.inr (4, [.ref (ad 1), .ref (ad 5), .int (nI (g27 + 1 + 1)), .int (ft33)])) := ⟨_, rfl⟩
        have hP : va_P D vcl (fw n ad mem225) H := by rw [e_mem225]; exact hP
        have hD : va_D (Az sz) (fw n ad mem225) := fw_D hD
        have h_mem225 : mem225 (222) = .inr (4, [.ref (ad 1), .ref (ad 5), .int (nI (g27 + 1 + 1)), .int (ft33)]) := by rw [e_mem225, va_up_self]
        have hh226 := (va_up_ne mem56 (.inr (4, [.ref (ad 1), .ref (ad 5), .int (nI (g27 + 1 + 1)), .int (ft33)])) (show (1 : Nat) ≠ 222 by first | decide | assumption | omega)).trans hh57
        rw [← e_mem225] at hh226
        have hh227 := (va_up_ne mem56 (.inr (4, [.ref (ad 1), .ref (ad 5), .int (nI (g27 + 1 + 1)), .int (ft33)])) (show (5 : Nat) ≠ 222 by first | decide | assumption | omega)).trans hh58
        rw [← e_mem225] at hh227
        have hh228 := (va_up_ne mem56 (.inr (4, [.ref (ad 1), .ref (ad 5), .int (nI (g27 + 1 + 1)), .int (ft33)])) (show (220 : Nat) ≠ 222 by first | decide | assumption | omega)).trans hh59
        rw [← e_mem225] at hh228
        have hRX229 : RX cy ad lim (g27 + 1 + 1) (R1) (Ec) (A1 227) (nm1) m0 mem225 := by rw [e_mem225]; exact hRX60.at
        refine lv_aload_n Bx.1 Bx.2.1 d_Rd_readRule_76 rfl (lv_at hl 3 rfl) ?_
        refine lv_aload_n Bx.1 Bx.2.1 d_Rd_readRule_77 rfl (lv_at hl 1 rfl) ?_
        obtain ⟨fi230, la231, hru232, hro233, hro234⟩ := hRX229.2.2 i (by omega)
        refine f_callVi (na := 0) (As := []) (rest := [.ref (ad 222)]) Bx hml E hP hD hS (by omega) hru232 rfl (m_Ru_isToldX l hn hT hf hRX229 (by omega) hi) kw_401 kw_402 kw_403 kw_4 kw_404 (by decide +kernel) ⟨rfl, rfl⟩ ⟨Nat.le_of_ble_eq_true rfl, Nat.le_of_ble_eq_true rfl⟩ rfl hl.1 (Nat.le_of_ble_eq_true rfl) d_Rd_readRule_78 ⟨Nat.le_of_ble_eq_true rfl, Nat.le_of_ble_eq_true rfl⟩ (fun r235 mem236 H locs hq hP hS => ?_)
        have hD : va_D (Az sz) (fw n ad mem236) := fw_D hD
        obtain ⟨hqe, hto⟩ := hq
        rw [hqe] at hP hD
        rcases hto with ⟨hr238, hto239⟩ | ⟨hr238, hto239⟩
        · subst hr238
          refine lv_iload_n Bx.1 Bx.2.1 d_Rd_readRule_81 rfl (lv_at hl 0 rfl) ?_
          refine lv_icmp_ne Bx.1 Bx.2.1 d_Rd_readRule_82 rfl (fun hb240 => ?_) (fun hb240 => ?_)
          · refine lv_iconst (v := 0) Bx.1 Bx.2.1 d_Rd_readRule_89 (by decide) ?_
            refine lv_iload_n Bx.1 Bx.2.1 d_Rd_readRule_90 rfl (lv_at hl 2 rfl) ?_
            refine f_xVv (na := 2) (As := [.int (0), .int (nI a)]) (rest := []) Bx hml E hP hD hS (by omega) h_mem225 rfl (m_Rd_needReadableX l hlt hn hT hf hRX229 (by omega)) kw_360 kw_362 sel_Rd_needReadable kw_6 kw_363 (by decide +kernel) ⟨rfl, rfl⟩ ⟨Nat.le_of_ble_eq_true rfl, Nat.le_of_ble_eq_true rfl⟩ rfl hl.1 (Nat.le_of_ble_eq_true rfl) d_Rd_readRule_91 ⟨Nat.le_of_ble_eq_true rfl, Nat.le_of_ble_eq_true rfl⟩ (fun X ce q9 memx H locs hx9 hP hS g1 g2 g3 => f_out hlocks hno hP hS g1 g2 g3 ⟨Nat.le_of_ble_eq_true rfl, Nat.le_of_ble_eq_true rfl⟩ ⟨⟨hx9.1.1, hx9.1.2.elim (fun a9 q9 => q9.elim (fun b9 q9 => ⟨_, a9, b9, q9⟩))⟩, Or.inr (Or.inl ⟨rule_t hsn (by rw [← eg28]; exact hb48) (fun z => z.mp (by rw [← eg28]; exact hb65) hto239), rfl⟩)⟩) (fun mem242 H locs hq hP hS => ?_)
            have hD : va_D (Az sz) (fw n ad mem242) := fw_D hD
            obtain ⟨hqe, hg243⟩ := hq
            rw [hqe] at hP hD
            exact absurd rfl hg243
          · exact absurd hb240 (by decide)
        · subst hr238
          refine lv_iload_n Bx.1 Bx.2.1 d_Rd_readRule_81 rfl (lv_at hl 0 rfl) ?_
          refine lv_icmp_ne Bx.1 Bx.2.1 d_Rd_readRule_82 rfl (fun hb244 => ?_) (fun hb244 => ?_)
          · exact absurd hb244 (by decide)
          · refine lv_iconst (v := 1) Bx.1 Bx.2.1 d_Rd_readRule_85 (by decide) ?_
            refine lv_goto Bx.1 Bx.2.1 d_Rd_readRule_86 rfl ?_
            refine lv_iload_n Bx.1 Bx.2.1 d_Rd_readRule_90 rfl (lv_at hl 2 rfl) ?_
            refine f_xVv (na := 2) (As := [.int (1), .int (nI a)]) (rest := []) Bx hml E hP hD hS (by omega) h_mem225 rfl (m_Rd_needReadableX l hlt hn hT hf hRX229 (by omega)) kw_360 kw_362 sel_Rd_needReadable kw_6 kw_363 (by decide +kernel) ⟨rfl, rfl⟩ ⟨Nat.le_of_ble_eq_true rfl, Nat.le_of_ble_eq_true rfl⟩ rfl hl.1 (Nat.le_of_ble_eq_true rfl) d_Rd_readRule_91 ⟨Nat.le_of_ble_eq_true rfl, Nat.le_of_ble_eq_true rfl⟩ (fun X ce q9 memx H locs hx9 hP hS g1 g2 g3 => f_out hlocks hno hP hS g1 g2 g3 ⟨Nat.le_of_ble_eq_true rfl, Nat.le_of_ble_eq_true rfl⟩ ⟨⟨hx9.1.1, hx9.1.2.elim (fun a9 q9 => q9.elim (fun b9 q9 => ⟨_, a9, b9, q9⟩))⟩, absurd hx9.2 (by decide)⟩) (fun mem246 H locs hq hP hS => ?_)
            have hD : va_D (Az sz) (fw n ad mem246) := fw_D hD
            obtain ⟨hqe, hg247⟩ := hq
            rw [hqe] at hP hD
            refine lv_aload_n Bx.1 Bx.2.1 d_Rd_readRule_94 rfl (lv_at hl 3 rfl) ?_
            refine f_callVi (na := 0) (As := []) (rest := []) Bx hml E hP hD hS (by omega) h_mem225 rfl (m_Rd_readGapX l hn hT hf hRX229 (by omega) (by omega)) kw_397 kw_399 sel_Rd_readGap kw_6 kw_400 (by decide +kernel) ⟨rfl, rfl⟩ ⟨Nat.le_of_ble_eq_true rfl, Nat.le_of_ble_eq_true rfl⟩ rfl hl.1 (Nat.le_of_ble_eq_true rfl) d_Rd_readRule_95 ⟨Nat.le_of_ble_eq_true rfl, Nat.le_of_ble_eq_true rfl⟩ (fun r248 mem249 H locs hq hP hS => ?_)
            have hD : va_D (Az sz) (fw n ad mem249) := fw_D hD
            obtain ⟨g250, eg251⟩ : ∃ z, z = gapF T Z (g27 + 1 + 1) := ⟨_, rfl⟩
            rw [← eg251] at hq
            obtain ⟨hRX252, hgc253⟩ := hq
            have hg254 : g27 + 1 + 1 ≤ g250 := by rw [eg251]; exact gapF_ge T Z _
            have hg255 : g250 ≤ Z := by rw [eg251]; exact gapF_le T (by omega)
            obtain ⟨ft256, h9_257⟩ := hRX252.2.1
            have h1_258 : mem249 1 = .inr (0, [.ref (ad 2), .int (nI Z)]) := (hRX252.1.2.2 1 (by omega)).trans hT.1
            have h2_259 : mem249 2 = .inl (cy 0, 240, .inl f) := (hRX252.1.2.2 2 (by omega)).trans hT.2.2
            have h5_260 := hRX252.1.1.2.1
            have hbd266 := hRX252.1.1.1
            obtain ⟨S261, g262, hS_263, h220_264, h221_265⟩ := hRX252.1.1.2.2.2.2.2.2
            refine lv_pop Bx.1 Bx.2.1 d_Rd_readRule_98 rfl ?_
            refine lv_aload_n Bx.1 Bx.2.1 d_Rd_readRule_99 rfl (lv_at hl 1 rfl) ?_
            refine lv_aload_n Bx.1 Bx.2.1 d_Rd_readRule_100 rfl (lv_at hl 3 rfl) ?_
            refine lv_iconst (v := 0) Bx.1 Bx.2.1 d_Rd_readRule_101 (by decide) ?_
            have hrs : ruleS T Z a u R Ec A nm = ent0S T Z (g27 + 1 + 1) u R1 Ec i A1 nm1 := by rw [rule_m hsn (by rw [← eg28]; exact hb48) (by rw [← eg28]; exact hb65) hto239, ← eg28]
            refine f_xVr (na := 1) (As := [.int (0)]) (rest := [.ref (ad (7 + i))]) Bx hml E hP hD hS (by omega) h9_257 rfl (m_Rd_readAlternatives_0X l hlt hn hT hf hRX252 (by omega) (u := u) (A := ent0A A1 Ec i) (by omega)) kw_405 kw_407 sel_Rd_readAlternatives kw_6 kw_408 (by decide +kernel) ⟨rfl, rfl⟩ ⟨Nat.le_of_ble_eq_true rfl, Nat.le_of_ble_eq_true rfl⟩ rfl hl.1 (Nat.le_of_ble_eq_true rfl) d_Rd_readRule_102 ⟨Nat.le_of_ble_eq_true rfl, Nat.le_of_ble_eq_true rfl⟩ (fun X ce q9 memx H locs hx9 hP hS g1 g2 g3 => f_out hlocks hno hP hS g1 g2 g3 ⟨Nat.le_of_ble_eq_true rfl, Nat.le_of_ble_eq_true rfl⟩ ⟨⟨hx9.1.1, hx9.1.2.elim (fun a9 q9 => q9.elim (fun b9 q9 => ⟨_, a9, b9, q9⟩))⟩, Or.inr (RuleR.fai (by rw [hrs]; exact hx9.2.elim (fun z => Or.inl (ent0S_no (Or.inl (by rw [← eg251]; exact z)))) (fun z => z.elim (fun z => Or.inl (ent0S_no (Or.inr z))) (fun z => Fai.br0 (by rw [ent0_ok (by rw [← eg251]; exact z.1) z.2.1, ← eg251]) z.2.2))))⟩) (fun r267 mem268 H locs hq hP hS => ?_)
            have hD : va_D (Az sz) (fw n ad mem268) := fw_D hD
            obtain ⟨kx269, a270, R271, E272, A273, nn274, to275, hr9276, hb277, hb278, hb279, hb280, hb281, htk282, hRX283, hsc284, hbg285, hE286, h47287, hnb288⟩ := hq
            subst hr9276
            obtain ⟨g289, eg290⟩ : ∃ z, z = gapF T Z a270 := ⟨_, rfl⟩
            have hg291 : a270 ≤ g289 := by rw [eg290]; exact gapF_ge T Z _
            have hg292 : g289 ≤ Z := by rw [eg290]; exact gapF_le T (by omega)
            rw [← eg290] at hRX283
            obtain ⟨ft293, h9_294⟩ := hRX283.2.1
            have h1_295 : mem268 1 = .inr (0, [.ref (ad 2), .int (nI Z)]) := (hRX283.1.2.2 1 (by omega)).trans hT.1
            have h2_296 : mem268 2 = .inl (cy 0, 240, .inl f) := (hRX283.1.2.2 2 (by omega)).trans hT.2.2
            have h5_297 := hRX283.1.1.2.1
            have hbd303 := hRX283.1.1.1
            obtain ⟨S298, g299, hS_300, h220_301, h221_302⟩ := hRX283.1.1.2.2.2.2.2.2
            obtain ⟨k304, lo305, hi306, as307, pa308, ne309, he_310, ho_311⟩ := (hRX283.1.1.2.2.2.2.2.1 kx269 (by omega)).1
            have hbd312 := hRX283.1.1.1
            obtain ⟨v9, hv9, hv0⟩ := ent0A_7 (A := A1) (r := i) hE286
            have hrs2 : ruleS T Z a u R Ec A nm = some (g250, u, R1, Ec + 1, 0, ent0A A1 Ec i, nm1, true) := by rw [hrs, ent0_ok (by rw [← eg251]; exact hbg285) hE286, ← eg251]
            have hfin := rule_fin hrs2 hsc284 (by rw [ent0A_5, upd_self]) h47287 hnb288
            have htk9 : TOK R1 R271 (ent0A A1 Ec i 227) (A273 227) := by
              obtain ⟨_, _, _, _, _, hs⟩ := hsc284
              exact hs
            obtain ⟨fi313, la314, hru315, hro316, hro317⟩ := hRX283.2.2 i (by omega)
            refine f_callVv (na := 1) (As := [.ref (ad (20 + 2 * kx269))]) (rest := []) Bx hml E hP hD hS (by omega) hru315 rfl (m_Ru_tellX l hn hT hf hRX283 (by omega) (i := i) (k := kx269) (by omega) ⟨by omega, by omega⟩) kw_490 kw_491 kw_492 kw_4 kw_493 (by decide +kernel) ⟨rfl, rfl⟩ ⟨Nat.le_of_ble_eq_true rfl, Nat.le_of_ble_eq_true rfl⟩ rfl hl.1 (Nat.le_of_ble_eq_true rfl) d_Rd_readRule_105 ⟨Nat.le_of_ble_eq_true rfl, Nat.le_of_ble_eq_true rfl⟩ (fun mem319 H locs hq hP hS => ?_)
            have hD : va_D (Az sz) (fw n ad mem319) := fw_D hD
            have hRX320 : RX cy ad E272 (g289) (R271) (E272) (A273 227) (nn274) m0 mem319 := hq.iff (fun x hx => tell_iff hi htk282 htk9 hv9 hv0 x hx)
            obtain ⟨ft321, h9_322⟩ := hRX320.2.1
            have h1_323 : mem319 1 = .inr (0, [.ref (ad 2), .int (nI Z)]) := (hRX320.1.2.2 1 (by omega)).trans hT.1
            have h2_324 : mem319 2 = .inl (cy 0, 240, .inl f) := (hRX320.1.2.2 2 (by omega)).trans hT.2.2
            have h5_325 := hRX320.1.1.2.1
            have hbd331 := hRX320.1.1.1
            obtain ⟨S326, g327, hS_328, h220_329, h221_330⟩ := hRX320.1.1.2.2.2.2.2.2
            obtain ⟨k332, lo333, hi334, as335, pa336, ne337, he_338, ho_339⟩ := (hRX320.1.1.2.2.2.2.2.1 kx269 (by omega)).1
            refine lv_aload_n Bx.1 Bx.2.1 d_Rd_readRule_108 rfl (lv_at hl 3 rfl) ?_
            refine lv_aload_n Bx.1 Bx.2.1 d_Rd_readRule_109 rfl (lv_at hl 3 rfl) ?_
            refine f_callVi (na := 0) (As := []) (rest := [.ref (ad 222)]) Bx hml E hP hD hS (by omega) h9_322 rfl (m_Rd_peekX l hn hT hf hRX320 (by omega)) kw_353 kw_355 sel_Rd_peek kw_6 kw_356 (by decide +kernel) ⟨rfl, rfl⟩ ⟨Nat.le_of_ble_eq_true rfl, Nat.le_of_ble_eq_true rfl⟩ rfl hl.1 (Nat.le_of_ble_eq_true rfl) d_Rd_readRule_110 ⟨Nat.le_of_ble_eq_true rfl, Nat.le_of_ble_eq_true rfl⟩ (fun r341 mem342 H locs hq hP hS => ?_)
            have hD : va_D (Az sz) (fw n ad mem342) := fw_D hD
            obtain ⟨hqe, hpk340⟩ := hq
            rw [hqe] at hP hD
            subst hpk340
            refine lv_iconst (v := -1) Bx.1 Bx.2.1 d_Rd_readRule_113 (by decide) ?_
            refine lv_icmp_eq Bx.1 Bx.2.1 d_Rd_readRule_114 rfl (fun hb344 => ?_) (fun hb344 => ?_)
            · refine lv_iconst (v := 1) Bx.1 Bx.2.1 d_Rd_readRule_126 (by decide) ?_
              refine lv_goto Bx.1 Bx.2.1 d_Rd_readRule_127 rfl ?_
              refine lv_aload_n Bx.1 Bx.2.1 d_Rd_readRule_131 rfl (lv_at hl 3 rfl) ?_
              refine f_get Bx hP (by omega) h9_322 rfl inRd 2 (by decide) kw_146 rfl rfl d_Rd_readRule_132 ?_
              refine f_xVv (na := 2) (As := [.int (1), .int (nI g289)]) (rest := []) Bx hml E hP hD hS (by omega) h9_322 rfl (m_Rd_needReadableX l hlt hn hT hf hRX320 (by omega)) kw_360 kw_362 sel_Rd_needReadable kw_6 kw_363 (by decide +kernel) ⟨rfl, rfl⟩ ⟨Nat.le_of_ble_eq_true rfl, Nat.le_of_ble_eq_true rfl⟩ rfl hl.1 (Nat.le_of_ble_eq_true rfl) d_Rd_readRule_135 ⟨Nat.le_of_ble_eq_true rfl, Nat.le_of_ble_eq_true rfl⟩ (fun X ce q9 memx H locs hx9 hP hS g1 g2 g3 => f_out hlocks hno hP hS g1 g2 g3 ⟨Nat.le_of_ble_eq_true rfl, Nat.le_of_ble_eq_true rfl⟩ ⟨⟨hx9.1.1, hx9.1.2.elim (fun a9 q9 => q9.elim (fun b9 q9 => ⟨_, a9, b9, q9⟩))⟩, absurd hx9.2 (by decide)⟩) (fun mem346 H locs hq hP hS => ?_)
              have hD : va_D (Az sz) (fw n ad mem346) := fw_D hD
              obtain ⟨hqe, hg347⟩ := hq
              rw [hqe] at hP hD
              refine lv_aload_n Bx.1 Bx.2.1 d_Rd_readRule_138 rfl (lv_at hl 3 rfl) ?_
              refine lv_aload_n Bx.1 Bx.2.1 d_Rd_readRule_139 rfl (lv_at hl 3 rfl) ?_
              refine lv_aload_n Bx.1 Bx.2.1 d_Rd_readRule_140 rfl (lv_at hl 3 rfl) ?_
              refine f_get Bx hP (by omega) h9_322 rfl inRd 2 (by decide) kw_146 rfl rfl d_Rd_readRule_141 ?_
              refine lv_iconst (v := 1) Bx.1 Bx.2.1 d_Rd_readRule_144 (by decide) ?_
              refine lv_iadd Bx.1 Bx.2.1 d_Rd_readRule_145 ?_
              rw [show nI g289 + 1 = nI (g289 + 1) from nI_add (g289) (1)]
              refine f_callVi (na := 1) (As := [.int (nI (g289 + 1))]) (rest := [.ref (ad 222)]) Bx hml E hP hD hS (by omega) h9_322 rfl (m_Rd_fullLineFromX l hn hT hf hRX320 (k0 := g289 + 1) (by omega)) kw_337 kw_339 sel_Rd_fullLineFrom kw_6 kw_340 (by decide +kernel) ⟨rfl, rfl⟩ ⟨Nat.le_of_ble_eq_true rfl, Nat.le_of_ble_eq_true rfl⟩ rfl hl.1 (Nat.le_of_ble_eq_true rfl) d_Rd_readRule_146 ⟨Nat.le_of_ble_eq_true rfl, Nat.le_of_ble_eq_true rfl⟩ (fun r349 mem350 H locs hq hP hS => ?_)
              have hD : va_D (Az sz) (fw n ad mem350) := fw_D hD
              obtain ⟨hqe, hfl348⟩ := hq
              rw [hqe] at hP hD
              obtain ⟨li352, ea353⟩ : ∃ z, z = lineF T Z (g289 + 1) := ⟨_, rfl⟩
              rw [← ea353] at hfl348
              subst hfl348
              have hb354 : li352 ≤ Z := by rw [ea353]; exact lineF_le T Z _
              refine f_put Bx hP hD hS (by omega) h9_322 rfl inRd tyRd okRd nmRd 2 (by decide) kw_146 rfl rfl rfl rfl (Nat.le_of_ble_eq_true rfl) d_Rd_readRule_149 (fun H locs hP hS => ?_)
              obtain ⟨mem355, e_mem355⟩ : ∃ z, z = va_up mem319 (222) (.inr (4, [.ref (ad 1), .ref (ad 5), .int (nI li352), .int (ft321)])) := ⟨_, rfl⟩
              have hP : va_P D vcl (fw n ad mem355) H := by rw [e_mem355]; exact hP
              have hD : va_D (Az sz) (fw n ad mem355) := fw_D hD
              have h_mem355 : mem355 (222) = .inr (4, [.ref (ad 1), .ref (ad 5), .int (nI li352), .int (ft321)]) := by rw [e_mem355, va_up_self]
              have hh356 := (va_up_ne mem319 (.inr (4, [.ref (ad 1), .ref (ad 5), .int (nI li352), .int (ft321)])) (show (1 : Nat) ≠ 222 by first | decide | assumption | omega)).trans h1_323
              rw [← e_mem355] at hh356
              have hh357 := (va_up_ne mem319 (.inr (4, [.ref (ad 1), .ref (ad 5), .int (nI li352), .int (ft321)])) (show (5 : Nat) ≠ 222 by first | decide | assumption | omega)).trans h5_325
              rw [← e_mem355] at hh357
              have hh358 := (va_up_ne mem319 (.inr (4, [.ref (ad 1), .ref (ad 5), .int (nI li352), .int (ft321)])) (show (220 : Nat) ≠ 222 by first | decide | assumption | omega)).trans h220_329
              rw [← e_mem355] at hh358
              have hh359 := (va_up_ne mem319 (.inr (4, [.ref (ad 1), .ref (ad 5), .int (nI li352), .int (ft321)])) (show ((20 + 2 * kx269) : Nat) ≠ 222 by first | decide | assumption | omega)).trans he_338
              rw [← e_mem355] at hh359
              have hRX360 : RX cy ad E272 (li352) (R271) (E272) (A273 227) (nn274) m0 mem355 := by rw [e_mem355]; exact hRX320.at
              obtain ⟨u9, hrr9⟩ := hfin.1 (by rw [← eg290]; exact Or.inr (by rw [hb344]; decide))
              exact x_vret hx hb hlocks hr (⟨g289, u9, R271, E272, _, A273, nn274, hle, by rw [eg290]; exact hrr9, by omega, by omega, by rw [← ea353]; exact hRX360⟩) hP hS d_Rd_readRule_152
            · refine lv_aload_n Bx.1 Bx.2.1 d_Rd_readRule_117 rfl (lv_at hl 3 rfl) ?_
              refine f_callVi (na := 0) (As := []) (rest := [.ref (ad 222)]) Bx hml E hP hD hS (by omega) h9_322 rfl (m_Rd_peekX l hn hT hf hRX320 (by omega)) kw_353 kw_355 sel_Rd_peek kw_6 kw_356 (by decide +kernel) ⟨rfl, rfl⟩ ⟨Nat.le_of_ble_eq_true rfl, Nat.le_of_ble_eq_true rfl⟩ rfl hl.1 (Nat.le_of_ble_eq_true rfl) d_Rd_readRule_118 ⟨Nat.le_of_ble_eq_true rfl, Nat.le_of_ble_eq_true rfl⟩ (fun r362 mem363 H locs hq hP hS => ?_)
              have hD : va_D (Az sz) (fw n ad mem363) := fw_D hD
              obtain ⟨hqe, hpk361⟩ := hq
              rw [hqe] at hP hD
              subst hpk361
              refine lv_bipush (v := 10) Bx.1 Bx.2.1 d_Rd_readRule_121 (by decide) ?_
              refine lv_icmp_ne Bx.1 Bx.2.1 d_Rd_readRule_123 rfl (fun hb365 => ?_) (fun hb365 => ?_)
              · refine lv_iconst (v := 0) Bx.1 Bx.2.1 d_Rd_readRule_130 (by decide) ?_
                refine lv_aload_n Bx.1 Bx.2.1 d_Rd_readRule_131 rfl (lv_at hl 3 rfl) ?_
                refine f_get Bx hP (by omega) h9_322 rfl inRd 2 (by decide) kw_146 rfl rfl d_Rd_readRule_132 ?_
                refine f_xVv (na := 2) (As := [.int (0), .int (nI g289)]) (rest := []) Bx hml E hP hD hS (by omega) h9_322 rfl (m_Rd_needReadableX l hlt hn hT hf hRX320 (by omega)) kw_360 kw_362 sel_Rd_needReadable kw_6 kw_363 (by decide +kernel) ⟨rfl, rfl⟩ ⟨Nat.le_of_ble_eq_true rfl, Nat.le_of_ble_eq_true rfl⟩ rfl hl.1 (Nat.le_of_ble_eq_true rfl) d_Rd_readRule_135 ⟨Nat.le_of_ble_eq_true rfl, Nat.le_of_ble_eq_true rfl⟩ (fun X ce q9 memx H locs hx9 hP hS g1 g2 g3 => f_out hlocks hno hP hS g1 g2 g3 ⟨Nat.le_of_ble_eq_true rfl, Nat.le_of_ble_eq_true rfl⟩ ⟨⟨hx9.1.1, hx9.1.2.elim (fun a9 q9 => q9.elim (fun b9 q9 => ⟨_, a9, b9, q9⟩))⟩, Or.inr (hfin.2 (fun z => z.elim (fun y => hb365 (by rw [eg290]; exact y)) (fun y => hereF_pos hT0 hb344 (by rw [eg290]; exact y))))⟩) (fun mem367 H locs hq hP hS => ?_)
                have hD : va_D (Az sz) (fw n ad mem367) := fw_D hD
                obtain ⟨hqe, hg368⟩ := hq
                rw [hqe] at hP hD
                exact absurd rfl hg368
              · have hlt369 := hereF_lt (by rw [hb365]; decide)
                refine lv_iconst (v := 1) Bx.1 Bx.2.1 d_Rd_readRule_126 (by decide) ?_
                refine lv_goto Bx.1 Bx.2.1 d_Rd_readRule_127 rfl ?_
                refine lv_aload_n Bx.1 Bx.2.1 d_Rd_readRule_131 rfl (lv_at hl 3 rfl) ?_
                refine f_get Bx hP (by omega) h9_322 rfl inRd 2 (by decide) kw_146 rfl rfl d_Rd_readRule_132 ?_
                refine f_xVv (na := 2) (As := [.int (1), .int (nI g289)]) (rest := []) Bx hml E hP hD hS (by omega) h9_322 rfl (m_Rd_needReadableX l hlt hn hT hf hRX320 (by omega)) kw_360 kw_362 sel_Rd_needReadable kw_6 kw_363 (by decide +kernel) ⟨rfl, rfl⟩ ⟨Nat.le_of_ble_eq_true rfl, Nat.le_of_ble_eq_true rfl⟩ rfl hl.1 (Nat.le_of_ble_eq_true rfl) d_Rd_readRule_135 ⟨Nat.le_of_ble_eq_true rfl, Nat.le_of_ble_eq_true rfl⟩ (fun X ce q9 memx H locs hx9 hP hS g1 g2 g3 => f_out hlocks hno hP hS g1 g2 g3 ⟨Nat.le_of_ble_eq_true rfl, Nat.le_of_ble_eq_true rfl⟩ ⟨⟨hx9.1.1, hx9.1.2.elim (fun a9 q9 => q9.elim (fun b9 q9 => ⟨_, a9, b9, q9⟩))⟩, absurd hx9.2 (by decide)⟩) (fun mem371 H locs hq hP hS => ?_)
                have hD : va_D (Az sz) (fw n ad mem371) := fw_D hD
                obtain ⟨hqe, hg372⟩ := hq
                rw [hqe] at hP hD
                refine lv_aload_n Bx.1 Bx.2.1 d_Rd_readRule_138 rfl (lv_at hl 3 rfl) ?_
                refine lv_aload_n Bx.1 Bx.2.1 d_Rd_readRule_139 rfl (lv_at hl 3 rfl) ?_
                refine lv_aload_n Bx.1 Bx.2.1 d_Rd_readRule_140 rfl (lv_at hl 3 rfl) ?_
                refine f_get Bx hP (by omega) h9_322 rfl inRd 2 (by decide) kw_146 rfl rfl d_Rd_readRule_141 ?_
                refine lv_iconst (v := 1) Bx.1 Bx.2.1 d_Rd_readRule_144 (by decide) ?_
                refine lv_iadd Bx.1 Bx.2.1 d_Rd_readRule_145 ?_
                rw [show nI g289 + 1 = nI (g289 + 1) from nI_add (g289) (1)]
                refine f_callVi (na := 1) (As := [.int (nI (g289 + 1))]) (rest := [.ref (ad 222)]) Bx hml E hP hD hS (by omega) h9_322 rfl (m_Rd_fullLineFromX l hn hT hf hRX320 (k0 := g289 + 1) (by omega)) kw_337 kw_339 sel_Rd_fullLineFrom kw_6 kw_340 (by decide +kernel) ⟨rfl, rfl⟩ ⟨Nat.le_of_ble_eq_true rfl, Nat.le_of_ble_eq_true rfl⟩ rfl hl.1 (Nat.le_of_ble_eq_true rfl) d_Rd_readRule_146 ⟨Nat.le_of_ble_eq_true rfl, Nat.le_of_ble_eq_true rfl⟩ (fun r374 mem375 H locs hq hP hS => ?_)
                have hD : va_D (Az sz) (fw n ad mem375) := fw_D hD
                obtain ⟨hqe, hfl373⟩ := hq
                rw [hqe] at hP hD
                obtain ⟨li377, ea378⟩ : ∃ z, z = lineF T Z (g289 + 1) := ⟨_, rfl⟩
                rw [← ea378] at hfl373
                subst hfl373
                have hb379 : li377 ≤ Z := by rw [ea378]; exact lineF_le T Z _
                refine f_put Bx hP hD hS (by omega) h9_322 rfl inRd tyRd okRd nmRd 2 (by decide) kw_146 rfl rfl rfl rfl (Nat.le_of_ble_eq_true rfl) d_Rd_readRule_149 (fun H locs hP hS => ?_)
                obtain ⟨mem380, e_mem380⟩ : ∃ z, z = va_up mem319 (222) (.inr (4, [.ref (ad 1), .ref (ad 5), .int (nI li377), .int (ft321)])) := ⟨_, rfl⟩
                have hP : va_P D vcl (fw n ad mem380) H := by rw [e_mem380]; exact hP
                have hD : va_D (Az sz) (fw n ad mem380) := fw_D hD
                have h_mem380 : mem380 (222) = .inr (4, [.ref (ad 1), .ref (ad 5), .int (nI li377), .int (ft321)]) := by rw [e_mem380, va_up_self]
                have hh381 := (va_up_ne mem319 (.inr (4, [.ref (ad 1), .ref (ad 5), .int (nI li377), .int (ft321)])) (show (1 : Nat) ≠ 222 by first | decide | assumption | omega)).trans h1_323
                rw [← e_mem380] at hh381
                have hh382 := (va_up_ne mem319 (.inr (4, [.ref (ad 1), .ref (ad 5), .int (nI li377), .int (ft321)])) (show (5 : Nat) ≠ 222 by first | decide | assumption | omega)).trans h5_325
                rw [← e_mem380] at hh382
                have hh383 := (va_up_ne mem319 (.inr (4, [.ref (ad 1), .ref (ad 5), .int (nI li377), .int (ft321)])) (show (220 : Nat) ≠ 222 by first | decide | assumption | omega)).trans h220_329
                rw [← e_mem380] at hh383
                have hh384 := (va_up_ne mem319 (.inr (4, [.ref (ad 1), .ref (ad 5), .int (nI li377), .int (ft321)])) (show ((20 + 2 * kx269) : Nat) ≠ 222 by first | decide | assumption | omega)).trans he_338
                rw [← e_mem380] at hh384
                have hRX385 : RX cy ad E272 (li377) (R271) (E272) (A273 227) (nn274) m0 mem380 := by rw [e_mem380]; exact hRX320.at
                obtain ⟨u9, hrr9⟩ := hfin.1 (by rw [← eg290]; exact Or.inl hb365)
                exact x_vret hx hb hlocks hr (⟨g289, u9, R271, E272, _, A273, nn274, hle, by rw [eg290]; exact hrr9, by omega, by omega, by rw [← ea378]; exact hRX385⟩) hP hS d_Rd_readRule_152
