def RX (cy : Nat → ClassId) (ad : Nat → Nat) (lim a R E : Nat) (to : Nat → Int32) (nm : Nat → Int64) (m0 mem : Nat → va_E) : Prop := RS cy ad lim R E m0 mem ∧ (∃ t : Int32, mem 222 = .inr (4, [.ref (ad 1), .ref (ad 5), .int (nI a), .int t])) ∧ ∀ i, i < R → ∃ v w : Value, mem (7 + i) = .inr (5, [.long (nm i), v, w]) ∧ (v = .null ↔ to i < 0) ∧ (w = .null ↔ to i < 0)
section RXL
variable {cy : Nat → ClassId} {ad : Nat → Nat} {lim a R E : Nat} {to : Nat → Int32} {nm : Nat → Int64} {m0 mem : Nat → va_E}
theorem RX.at (h : RX cy ad lim a R E to nm m0 mem) {a' : Nat} {t : Int32} : RX cy ad lim a' R E to nm m0 (va_up mem 222 (.inr (4, [.ref (ad 1), .ref (ad 5), .int (nI a'), .int t]))) := by
  have hb := h.1.1.1
  refine ⟨h.1.at222, ⟨t, va_up_self _ _ _⟩, fun i hi => ?_⟩
  obtain ⟨v, w, e, o⟩ := h.2.2 i hi
  exact ⟨v, w, (va_up_ne _ _ (by omega)).trans e, o⟩
theorem RX.el (h : RX cy ad lim a R E to nm m0 mem) {j : Nat} {x : va_E} (hj : 19 ≤ j ∧ j < 222) (hrs : RS cy ad lim R E m0 (va_up mem j x)) : RX cy ad lim a R E to nm m0 (va_up mem j x) := by
  have hb := h.1.1.1
  obtain ⟨t, ht⟩ := h.2.1
  refine ⟨hrs, ⟨t, (va_up_ne _ _ (by omega)).trans ht⟩, fun i hi => ?_⟩
  obtain ⟨v, w, e, o⟩ := h.2.2 i hi
  exact ⟨v, w, (va_up_ne _ _ (by omega)).trans e, o⟩
theorem RX.fr (h : RX cy ad lim a R E to nm m0 mem) {lim' E' : Nat} {mem' : Nat → va_E} (hrs : RS cy ad lim' R E' m0 mem') (hm : ∀ i, (7 ≤ i ∧ i < 19) ∨ i = 222 → mem' i = mem i) : RX cy ad lim' a R E' to nm m0 mem' := by
  have hb := h.1.1.1
  obtain ⟨t, ht⟩ := h.2.1
  refine ⟨hrs, ⟨t, (hm _ (by omega)).trans ht⟩, fun i hi => ?_⟩
  obtain ⟨v, w, e, o⟩ := h.2.2 i hi
  exact ⟨v, w, (hm _ (by omega)).trans e, o⟩
theorem RX.ru (h : RX cy ad lim a R E to nm m0 mem) {x : Int64} {mem' : Nat → va_E} (hrs : RS cy ad lim (R + 1) E m0 mem') (hn : mem' (7 + R) = .inr (5, [.long x, .null, .null])) (hm : ∀ i, i ≠ 5 → i ≠ 7 + R → mem' i = mem i) : RX cy ad lim a (R + 1) E (upd to R (-1)) (vp_updL nm R x) m0 mem' := by
  have hb := h.1.1.1
  obtain ⟨t, ht⟩ := h.2.1
  refine ⟨hrs, ⟨t, (hm _ (by omega) (by omega)).trans ht⟩, fun i hi => ?_⟩
  by_cases q : i = R
  · subst q
    refine ⟨.null, .null, ?_, ⟨fun _ => ?_, fun _ => rfl⟩, ⟨fun _ => ?_, fun _ => rfl⟩⟩
    · rw [hn, show vp_updL nm i x i = x by unfold vp_updL; rw [if_pos rfl]]
    · rw [upd_self]; decide
    · rw [upd_self]; decide
  · obtain ⟨v, w, e, o⟩ := h.2.2 i (by omega)
    refine ⟨v, w, ?_, ?_⟩
    · rw [hm _ (by omega) (by omega), e, show vp_updL nm R x i = nm i by unfold vp_updL; rw [if_neg q]]
    · rw [upd_ne q]; exact o
end RXL
theorem code_here {Z k : Nat} {f T : Nat → Int32} (hf : ∀ k, k < Z → f k = T k) (hZ : Z ≤ 240) (hk : k ≤ 1000) : (if nI k < 0 ∨ nI Z ≤ nI k then (-1 : Int32) else f (nI k).toNatClampNeg) = hereF Z T k := by
  unfold hereF
  by_cases q : k < Z
  · rw [if_neg (fun z => z.elim (nI_pos (by omega)) (fun y => by have := (nI_leI (by omega) (by omega)).mp y; omega)), if_pos q, nI_clamp (by omega), hf k q]
  · rw [if_pos (Or.inr ((nI_leI (by omega) (by omega)).mpr (by omega))), if_neg q]
set_option maxHeartbeats 4000000 in
set_option maxRecDepth 100000 in
theorem m_Rd_peekX (l : Launch) {D : va_G} {cy : Nat → ClassId} {sz n : Nat} {ad : Nat → Nat} {mem : Nat → va_E} {Z a R Ec lim : Nat} {f T : Nat → Int32} {to : Nat → Int32} {nm : Nat → Int64} {m0 : Nat → va_E} (hn : 224 ≤ n) (hT : TX cy ad Z f m0) (hf : ∀ k, k < Z → f k = T k) (hRX : RX cy ad lim a R Ec to nm m0 mem) (haB : a ≤ 300) : MI l D cy sz n ad y_Rd_peek c_Rd_peek 1 (some .int) ({ frames := 1, cells := 0, slots := 0, locals := 30 } : Room) mem [.ref (ad 222)] (fun r mem' => mem' = mem ∧ r = hereF Z T a) := by
  refine Met.ofW (cc := c_Rd_peek) (maxL := 1) (ret := (some .int)) (by decide) rfl ?_
  intro p e s m args below meth c s₁ B hml hv
  obtain ⟨rfl, E, hP, hD⟩ := hv
  have hx := B.exec
  have hb := B.bytes
  have hr := B.returns
  have hlocks := B.notSynchronized
  have Bx : MB p s m [.ref (ad 222)].toArray c c_Rd_peek "AbnfChart$Reader" D cy := ⟨hx, hb, tb_all (atoms_spec B.pre) E.2.1, findClass_of_methodNamed B.named, E.1⟩
  have hS : va_S (Az sz) s.heap s.heap [] := va_S.rf
  have hl := lv_entry ([.ref (ad 222)]) (n := 1) (Nat.le_of_ble_eq_true rfl)
  rw [lg_entry_eq]
  generalize (lg_sl ([.ref (ad 222)]) ++ List.replicate (1 - (lg_sl ([.ref (ad 222)])).length) Slot.unset).toArray = ls at hl ⊢
  have hl : lv_has ls 1 [(0, .ref (ad 222))] := hl
  have hZ9 := hT.2.1
  have hbd9 := hRX.1.1.1
  obtain ⟨ft1, h9_2⟩ := hRX.2.1
  have h1_3 : mem 1 = .inr (0, [.ref (ad 2), .int (nI Z)]) := (hRX.1.2.2 1 (by omega)).trans hT.1
  have h2_4 : mem 2 = .inl (cy 0, 240, .inl f) := (hRX.1.2.2 2 (by omega)).trans hT.2.2
  have h5_5 := hRX.1.1.2.1
  have hbd11 := hRX.1.1.1
  obtain ⟨S6, g7, hS_8, h220_9, h221_10⟩ := hRX.1.1.2.2.2.2.2.2
  refine lv_aload_n Bx.1 Bx.2.1 d_Rd_peek_0 rfl (lv_at hl 0 rfl) ?_
  refine f_get Bx hP (by omega) h9_2 rfl inRd 0 (by decide) kw_144 rfl rfl d_Rd_peek_1 ?_
  refine lv_aload_n Bx.1 Bx.2.1 d_Rd_peek_4 rfl (lv_at hl 0 rfl) ?_
  refine f_get Bx hP (by omega) h9_2 rfl inRd 2 (by decide) kw_146 rfl rfl d_Rd_peek_5 ?_
  refine f_callVi (na := 1) (As := [.int (nI a)]) (rest := []) Bx hml E hP hD hS (by omega) h1_3 rfl (m_Ch_codeAt l (by omega) h1_3 (by omega) h2_4 (by rw [nI_toInt (by omega)]; omega)) kw_341 kw_342 kw_343 kw_2 kw_344 (by decide +kernel) ⟨rfl, rfl⟩ ⟨Nat.le_of_ble_eq_true rfl, Nat.le_of_ble_eq_true rfl⟩ rfl hl.1 (Nat.le_of_ble_eq_true rfl) d_Rd_peek_8 ⟨Nat.le_of_ble_eq_true rfl, Nat.le_of_ble_eq_true rfl⟩ (fun r12 mem13 H locs hq hP hS => ?_)
  have hD : va_D (Az sz) (fw n ad mem13) := fw_D hD
  obtain ⟨hco14, hqe⟩ := hq
  rw [hqe] at hP hD
  rw [code_here hf hT.2.1 (k := a) (by omega)] at hco14
  subst hco14
  exact W.iret (v := hereF Z T (a)) hx hb hr (fun t ht hW => ⟨⟨hereF Z T (a), mem, rfl, ⟨rfl, rfl⟩, by show va_P _ _ _ t.heap; rw [ht]; exact hP⟩, hS.F ht⟩) hS.2.2 d_Rd_peek_11
set_option maxHeartbeats 4000000 in
set_option maxRecDepth 100000 in
theorem m_Rd_needReadableX (l : Launch) {D : va_G} {cy : Nat → ClassId} {sz n : Nat} {ad : Nat → Nat} {mem : Nat → va_E} {Z a R Ec lim : Nat} {f T : Nat → Int32} {to : Nat → Int32} {nm : Nat → Int64} {m0 : Nat → va_E} {g k : Int32} (hlt : l.stackTraces = false) (hn : 224 ≤ n) (hT : TX cy ad Z f m0) (hf : ∀ k, k < Z → f k = T k) (hRX : RX cy ad lim a R Ec to nm m0 mem) (haB : a ≤ 300) : NXv l D cy sz n ad y_Rd_needReadable c_Rd_needReadable 3 ({ frames := 6, cells := 1, slots := 6, locals := 90 } : Room) mem [.ref (ad 222), .int (g), .int (k)] (fun mem' => mem' = mem ∧ g ≠ 0) (fun X mem' => ((X = cIA ∨ X = cIS) ∧ ∃ rc' ec' : Nat, RS cy ad lim rc' ec' m0 mem') ∧ (g = 0)) := by
  refine vx_ofW (cc := c_Rd_needReadable) (maxL := 3) (ret := none) (by decide) rfl ?_
  intro p e s m args below meth c s₁ B hml hno hv
  obtain ⟨rfl, E, hP, hD⟩ := hv
  have hx := B.exec
  have hb := B.bytes
  have hr := B.returns
  have hlocks := B.notSynchronized
  have Bx : MB p s m [.ref (ad 222), .int (g), .int (k)].toArray c c_Rd_needReadable "AbnfChart$Reader" D cy := ⟨hx, hb, tb_all (atoms_spec B.pre) E.2.1, findClass_of_methodNamed B.named, E.1⟩
  have hS : va_S (Az sz) s.heap s.heap [] := va_S.rf
  have hl := lv_entry ([.ref (ad 222), .int (g), .int (k)]) (n := 3) (Nat.le_of_ble_eq_true rfl)
  rw [lg_entry_eq]
  generalize (lg_sl ([.ref (ad 222), .int (g), .int (k)]) ++ List.replicate (3 - (lg_sl ([.ref (ad 222), .int (g), .int (k)])).length) Slot.unset).toArray = ls at hl ⊢
  have hl : lv_has ls 3 [(0, .ref (ad 222)), (1, .int (g)), (2, .int (k))] := hl
  have hZ9 := hT.2.1
  have hbd9 := hRX.1.1.1
  obtain ⟨ft1, h9_2⟩ := hRX.2.1
  have h1_3 : mem 1 = .inr (0, [.ref (ad 2), .int (nI Z)]) := (hRX.1.2.2 1 (by omega)).trans hT.1
  have h2_4 : mem 2 = .inl (cy 0, 240, .inl f) := (hRX.1.2.2 2 (by omega)).trans hT.2.2
  have h5_5 := hRX.1.1.2.1
  have hbd11 := hRX.1.1.1
  obtain ⟨S6, g7, hS_8, h220_9, h221_10⟩ := hRX.1.1.2.2.2.2.2.2
  refine lv_iload_n Bx.1 Bx.2.1 d_Rd_needReadable_0 rfl (lv_at hl 1 rfl) ?_
  refine lv_if_ne Bx.1 Bx.2.1 d_Rd_needReadable_1 rfl (fun h => ?_) (fun h => ?_)
  · exact x_vret hx hb hlocks hr (⟨rfl, h⟩) hP hS d_Rd_needReadable_17
  · refine lv_aload_n Bx.1 Bx.2.1 d_Rd_needReadable_4 rfl (lv_at hl 0 rfl) ?_
    refine lv_iload_n Bx.1 Bx.2.1 d_Rd_needReadable_5 rfl (lv_at hl 2 rfl) ?_
    refine f_put Bx hP hD hS (by omega) h9_2 rfl inRd tyRd okRd nmRd 3 (by decide) kw_147 rfl rfl rfl rfl (Nat.le_of_ble_eq_true rfl) d_Rd_needReadable_6 (fun H locs hP hS => ?_)
    obtain ⟨mem12, e_mem12⟩ : ∃ z, z = va_up mem (222) (.inr (4, [.ref (ad 1), .ref (ad 5), .int (nI a), .int (k)])) := ⟨_, rfl⟩
    have hP : va_P D vcl (fw n ad mem12) H := by rw [e_mem12]; exact hP
    have hD : va_D (Az sz) (fw n ad mem12) := fw_D hD
    have h_mem12 : mem12 (222) = .inr (4, [.ref (ad 1), .ref (ad 5), .int (nI a), .int (k)]) := by rw [e_mem12, va_up_self]
    have hh13 := (va_up_ne mem (.inr (4, [.ref (ad 1), .ref (ad 5), .int (nI a), .int (k)])) (show (1 : Nat) ≠ 222 by first | decide | assumption | omega)).trans h1_3
    rw [← e_mem12] at hh13
    have hh14 := (va_up_ne mem (.inr (4, [.ref (ad 1), .ref (ad 5), .int (nI a), .int (k)])) (show (5 : Nat) ≠ 222 by first | decide | assumption | omega)).trans h5_5
    rw [← e_mem12] at hh14
    have hh15 := (va_up_ne mem (.inr (4, [.ref (ad 1), .ref (ad 5), .int (nI a), .int (k)])) (show (220 : Nat) ≠ 222 by first | decide | assumption | omega)).trans h220_9
    rw [← e_mem12] at hh15
    have hRX16 : RX cy ad lim (a) (R) (Ec) (to) (nm) m0 mem12 := by rw [e_mem12]; exact hRX.at
    exact f_throw (rest := []) hlt Bx hml hlocks hno E hP hS (by decide +kernel) kw_364 kw_12 at_Rd_IA hl.1 d_Rd_needReadable_9 d_Rd_needReadable_12 d_Rd_needReadable_13 d_Rd_needReadable_16 ⟨Nat.le_of_ble_eq_true rfl, Nat.le_of_ble_eq_true rfl, Nat.le_of_ble_eq_true rfl, Nat.le_of_ble_eq_true rfl⟩ ⟨Nat.le_of_ble_eq_true rfl, Nat.le_of_ble_eq_true rfl⟩ ⟨⟨Or.inl rfl, _, _, hRX16.1⟩, h⟩
set_option maxHeartbeats 4000000 in
set_option maxRecDepth 100000 in
theorem m_Rd_needRoomX (l : Launch) {D : va_G} {cy : Nat → ClassId} {sz n : Nat} {ad : Nat → Nat} {mem : Nat → va_E} {Z a R Ec lim : Nat} {f T : Nat → Int32} {to : Nat → Int32} {nm : Nat → Int64} {m0 : Nat → va_E} {g k : Int32} (hlt : l.stackTraces = false) (hn : 224 ≤ n) (hT : TX cy ad Z f m0) (hf : ∀ k, k < Z → f k = T k) (hRX : RX cy ad lim a R Ec to nm m0 mem) (haB : a ≤ 300) : NXv l D cy sz n ad y_Rd_needRoom c_Rd_needRoom 3 ({ frames := 6, cells := 1, slots := 6, locals := 90 } : Room) mem [.ref (ad 222), .int (g), .int (k)] (fun mem' => mem' = mem ∧ g ≠ 0) (fun X mem' => ((X = cIA ∨ X = cIS) ∧ ∃ rc' ec' : Nat, RS cy ad lim rc' ec' m0 mem') ∧ (g = 0)) := by
  refine vx_ofW (cc := c_Rd_needRoom) (maxL := 3) (ret := none) (by decide) rfl ?_
  intro p e s m args below meth c s₁ B hml hno hv
  obtain ⟨rfl, E, hP, hD⟩ := hv
  have hx := B.exec
  have hb := B.bytes
  have hr := B.returns
  have hlocks := B.notSynchronized
  have Bx : MB p s m [.ref (ad 222), .int (g), .int (k)].toArray c c_Rd_needRoom "AbnfChart$Reader" D cy := ⟨hx, hb, tb_all (atoms_spec B.pre) E.2.1, findClass_of_methodNamed B.named, E.1⟩
  have hS : va_S (Az sz) s.heap s.heap [] := va_S.rf
  have hl := lv_entry ([.ref (ad 222), .int (g), .int (k)]) (n := 3) (Nat.le_of_ble_eq_true rfl)
  rw [lg_entry_eq]
  generalize (lg_sl ([.ref (ad 222), .int (g), .int (k)]) ++ List.replicate (3 - (lg_sl ([.ref (ad 222), .int (g), .int (k)])).length) Slot.unset).toArray = ls at hl ⊢
  have hl : lv_has ls 3 [(0, .ref (ad 222)), (1, .int (g)), (2, .int (k))] := hl
  have hZ9 := hT.2.1
  have hbd9 := hRX.1.1.1
  obtain ⟨ft1, h9_2⟩ := hRX.2.1
  have h1_3 : mem 1 = .inr (0, [.ref (ad 2), .int (nI Z)]) := (hRX.1.2.2 1 (by omega)).trans hT.1
  have h2_4 : mem 2 = .inl (cy 0, 240, .inl f) := (hRX.1.2.2 2 (by omega)).trans hT.2.2
  have h5_5 := hRX.1.1.2.1
  have hbd11 := hRX.1.1.1
  obtain ⟨S6, g7, hS_8, h220_9, h221_10⟩ := hRX.1.1.2.2.2.2.2.2
  refine lv_iload_n Bx.1 Bx.2.1 d_Rd_needRoom_0 rfl (lv_at hl 1 rfl) ?_
  refine lv_if_ne Bx.1 Bx.2.1 d_Rd_needRoom_1 rfl (fun h => ?_) (fun h => ?_)
  · exact x_vret hx hb hlocks hr (⟨rfl, h⟩) hP hS d_Rd_needRoom_17
  · refine lv_aload_n Bx.1 Bx.2.1 d_Rd_needRoom_4 rfl (lv_at hl 0 rfl) ?_
    refine lv_iload_n Bx.1 Bx.2.1 d_Rd_needRoom_5 rfl (lv_at hl 2 rfl) ?_
    refine f_put Bx hP hD hS (by omega) h9_2 rfl inRd tyRd okRd nmRd 3 (by decide) kw_147 rfl rfl rfl rfl (Nat.le_of_ble_eq_true rfl) d_Rd_needRoom_6 (fun H locs hP hS => ?_)
    obtain ⟨mem12, e_mem12⟩ : ∃ z, z = va_up mem (222) (.inr (4, [.ref (ad 1), .ref (ad 5), .int (nI a), .int (k)])) := ⟨_, rfl⟩
    have hP : va_P D vcl (fw n ad mem12) H := by rw [e_mem12]; exact hP
    have hD : va_D (Az sz) (fw n ad mem12) := fw_D hD
    have h_mem12 : mem12 (222) = .inr (4, [.ref (ad 1), .ref (ad 5), .int (nI a), .int (k)]) := by rw [e_mem12, va_up_self]
    have hh13 := (va_up_ne mem (.inr (4, [.ref (ad 1), .ref (ad 5), .int (nI a), .int (k)])) (show (1 : Nat) ≠ 222 by first | decide | assumption | omega)).trans h1_3
    rw [← e_mem12] at hh13
    have hh14 := (va_up_ne mem (.inr (4, [.ref (ad 1), .ref (ad 5), .int (nI a), .int (k)])) (show (5 : Nat) ≠ 222 by first | decide | assumption | omega)).trans h5_5
    rw [← e_mem12] at hh14
    have hh15 := (va_up_ne mem (.inr (4, [.ref (ad 1), .ref (ad 5), .int (nI a), .int (k)])) (show (220 : Nat) ≠ 222 by first | decide | assumption | omega)).trans h220_9
    rw [← e_mem12] at hh15
    have hRX16 : RX cy ad lim (a) (R) (Ec) (to) (nm) m0 mem12 := by rw [e_mem12]; exact hRX.at
    exact f_throw (rest := []) hlt Bx hml hlocks hno E hP hS (by decide +kernel) kw_387 kw_13 at_Rd_IS hl.1 d_Rd_needRoom_9 d_Rd_needRoom_12 d_Rd_needRoom_13 d_Rd_needRoom_16 ⟨Nat.le_of_ble_eq_true rfl, Nat.le_of_ble_eq_true rfl, Nat.le_of_ble_eq_true rfl, Nat.le_of_ble_eq_true rfl⟩ ⟨Nat.le_of_ble_eq_true rfl, Nat.le_of_ble_eq_true rfl⟩ ⟨⟨Or.inr rfl, _, _, hRX16.1⟩, h⟩
set_option maxHeartbeats 4000000 in
set_option maxRecDepth 100000 in
theorem m_Rd_readDigitX (l : Launch) {D : va_G} {cy : Nat → ClassId} {sz n : Nat} {ad : Nat → Nat} {mem : Nat → va_E} {Z a R Ec lim : Nat} {f T : Nat → Int32} {to : Nat → Int32} {nm : Nat → Int64} {m0 : Nat → va_E} (hn : 224 ≤ n) (hT : TX cy ad Z f m0) (hf : ∀ k, k < Z → f k = T k) (hRX : RX cy ad lim a R Ec to nm m0 mem) (haB : a ≤ 300) : MI l D cy sz n ad y_Rd_readDigit c_Rd_readDigit 2 (some .int) ({ frames := 2, cells := 0, slots := 0, locals := 60 } : Room) mem [.ref (ad 222)] (fun r mem' => ∃ a', RX cy ad lim a' R Ec to nm m0 mem' ∧ ((dgF (hereF Z T a) = 0 ∧ r = -1 ∧ a' = a) ∨ (¬ dgF (hereF Z T a) = 0 ∧ r = hereF Z T a - 48 ∧ a' = a + 1)) ∧ ∀ i, i ≠ 222 → mem' i = mem i) := by
  refine Met.ofW (cc := c_Rd_readDigit) (maxL := 2) (ret := (some .int)) (by decide) rfl ?_
  intro p e s m args below meth c s₁ B hml hv
  obtain ⟨rfl, E, hP, hD⟩ := hv
  have hx := B.exec
  have hb := B.bytes
  have hr := B.returns
  have hlocks := B.notSynchronized
  have Bx : MB p s m [.ref (ad 222)].toArray c c_Rd_readDigit "AbnfChart$Reader" D cy := ⟨hx, hb, tb_all (atoms_spec B.pre) E.2.1, findClass_of_methodNamed B.named, E.1⟩
  have hS : va_S (Az sz) s.heap s.heap [] := va_S.rf
  have hl := lv_entry ([.ref (ad 222)]) (n := 2) (Nat.le_of_ble_eq_true rfl)
  rw [lg_entry_eq]
  generalize (lg_sl ([.ref (ad 222)]) ++ List.replicate (2 - (lg_sl ([.ref (ad 222)])).length) Slot.unset).toArray = ls at hl ⊢
  have hl : lv_has ls 2 [(0, .ref (ad 222))] := hl
  have hZ9 := hT.2.1
  have hbd9 := hRX.1.1.1
  obtain ⟨ft1, h9_2⟩ := hRX.2.1
  have h1_3 : mem 1 = .inr (0, [.ref (ad 2), .int (nI Z)]) := (hRX.1.2.2 1 (by omega)).trans hT.1
  have h2_4 : mem 2 = .inl (cy 0, 240, .inl f) := (hRX.1.2.2 2 (by omega)).trans hT.2.2
  have h5_5 := hRX.1.1.2.1
  have hbd11 := hRX.1.1.1
  obtain ⟨S6, g7, hS_8, h220_9, h221_10⟩ := hRX.1.1.2.2.2.2.2.2
  refine lv_aload_n Bx.1 Bx.2.1 d_Rd_readDigit_0 rfl (lv_at hl 0 rfl) ?_
  refine f_callVi (na := 0) (As := []) (rest := []) Bx hml E hP hD hS (by omega) h9_2 rfl (m_Rd_peekX l hn hT hf hRX (by omega)) kw_353 kw_355 sel_Rd_peek kw_6 kw_356 (by decide +kernel) ⟨rfl, rfl⟩ ⟨Nat.le_of_ble_eq_true rfl, Nat.le_of_ble_eq_true rfl⟩ rfl hl.1 (Nat.le_of_ble_eq_true rfl) d_Rd_readDigit_1 ⟨Nat.le_of_ble_eq_true rfl, Nat.le_of_ble_eq_true rfl⟩ (fun r13 mem14 H locs hq hP hS => ?_)
  have hD : va_D (Az sz) (fw n ad mem14) := fw_D hD
  obtain ⟨hqe, hpk12⟩ := hq
  rw [hqe] at hP hD
  subst hpk12
  refine f_callSNi (na := 1) (As := [.int (hereF Z T (a))]) (rest := []) Bx hml E.2.1 (m_Ab_isDigitX l (hereF Z T (a))) kw_369 kw_370 kw_1 kw_371 (by decide +kernel) ⟨rfl, rfl⟩ ⟨Nat.le_of_ble_eq_true rfl, Nat.le_of_ble_eq_true rfl⟩ rfl hl.1 (Nat.le_of_ble_eq_true rfl) d_Rd_readDigit_4 ⟨Nat.le_of_ble_eq_true rfl, Nat.le_of_ble_eq_true rfl⟩ (fun r17 hs16 => ?_)
  subst hs16
  refine lv_if_ne Bx.1 Bx.2.1 d_Rd_readDigit_7 rfl (fun hb18 => ?_) (fun hb18 => ?_)
  · refine lv_aload_n Bx.1 Bx.2.1 d_Rd_readDigit_12 rfl (lv_at hl 0 rfl) ?_
    refine f_callVi (na := 0) (As := []) (rest := []) Bx hml E hP hD hS (by omega) h9_2 rfl (m_Rd_peekX l hn hT hf hRX (by omega)) kw_353 kw_355 sel_Rd_peek kw_6 kw_356 (by decide +kernel) ⟨rfl, rfl⟩ ⟨Nat.le_of_ble_eq_true rfl, Nat.le_of_ble_eq_true rfl⟩ rfl hl.1 (Nat.le_of_ble_eq_true rfl) d_Rd_readDigit_13 ⟨Nat.le_of_ble_eq_true rfl, Nat.le_of_ble_eq_true rfl⟩ (fun r20 mem21 H locs hq hP hS => ?_)
    have hD : va_D (Az sz) (fw n ad mem21) := fw_D hD
    obtain ⟨hqe, hpk19⟩ := hq
    rw [hqe] at hP hD
    subst hpk19
    refine lv_bipush (v := 48) Bx.1 Bx.2.1 d_Rd_readDigit_16 (by decide) ?_
    refine lv_isub Bx.1 Bx.2.1 d_Rd_readDigit_18 ?_
    refine lv_istore_n (lv' := [(1, .int (hereF Z T (a) - 48)), (0, .ref (ad 222))]) Bx.1 Bx.2.1 d_Rd_readDigit_19 rfl hl (by decide) rfl (fun ls hl => ?_)
    refine lv_aload_n Bx.1 Bx.2.1 d_Rd_readDigit_20 rfl (lv_at hl 1 rfl) ?_
    refine lv_dup Bx.1 Bx.2.1 d_Rd_readDigit_21 rfl ?_
    refine f_get Bx hP (by omega) h9_2 rfl inRd 2 (by decide) kw_146 rfl rfl d_Rd_readDigit_22 ?_
    refine lv_iconst (v := 1) Bx.1 Bx.2.1 d_Rd_readDigit_25 (by decide) ?_
    refine lv_iadd Bx.1 Bx.2.1 d_Rd_readDigit_26 ?_
    rw [show nI a + 1 = nI (a + 1) from nI_add (a) (1)]
    refine f_put Bx hP hD hS (by omega) h9_2 rfl inRd tyRd okRd nmRd 2 (by decide) kw_146 rfl rfl rfl rfl (Nat.le_of_ble_eq_true rfl) d_Rd_readDigit_27 (fun H locs hP hS => ?_)
    obtain ⟨mem23, e_mem23⟩ : ∃ z, z = va_up mem (222) (.inr (4, [.ref (ad 1), .ref (ad 5), .int (nI (a + 1)), .int (ft1)])) := ⟨_, rfl⟩
    have hP : va_P D vcl (fw n ad mem23) H := by rw [e_mem23]; exact hP
    have hD : va_D (Az sz) (fw n ad mem23) := fw_D hD
    have h_mem23 : mem23 (222) = .inr (4, [.ref (ad 1), .ref (ad 5), .int (nI (a + 1)), .int (ft1)]) := by rw [e_mem23, va_up_self]
    have hh24 := (va_up_ne mem (.inr (4, [.ref (ad 1), .ref (ad 5), .int (nI (a + 1)), .int (ft1)])) (show (1 : Nat) ≠ 222 by first | decide | assumption | omega)).trans h1_3
    rw [← e_mem23] at hh24
    have hh25 := (va_up_ne mem (.inr (4, [.ref (ad 1), .ref (ad 5), .int (nI (a + 1)), .int (ft1)])) (show (5 : Nat) ≠ 222 by first | decide | assumption | omega)).trans h5_5
    rw [← e_mem23] at hh25
    have hh26 := (va_up_ne mem (.inr (4, [.ref (ad 1), .ref (ad 5), .int (nI (a + 1)), .int (ft1)])) (show (220 : Nat) ≠ 222 by first | decide | assumption | omega)).trans h220_9
    rw [← e_mem23] at hh26
    have hRX27 : RX cy ad lim (a + 1) (R) (Ec) (to) (nm) m0 mem23 := by rw [e_mem23]; exact hRX.at
    refine lv_iload_n Bx.1 Bx.2.1 d_Rd_readDigit_30 rfl (lv_at hl 0 rfl) ?_
    exact W.iret (v := hereF Z T (a) - 48) hx hb hr (fun t ht hW => ⟨⟨hereF Z T (a) - 48, mem23, rfl, ⟨a + 1, hRX27, Or.inr ⟨hb18, rfl, rfl⟩, fun i q9 => by rw [e_mem23, va_up_ne _ _ q9]⟩, by show va_P _ _ _ t.heap; rw [ht]; exact hP⟩, hS.F ht⟩) hS.2.2 d_Rd_readDigit_31
  · refine lv_iconst (v := -1) Bx.1 Bx.2.1 d_Rd_readDigit_10 (by decide) ?_
    exact W.iret (v := (-1)) hx hb hr (fun t ht hW => ⟨⟨(-1), mem, rfl, ⟨a, hRX, Or.inl ⟨hb18, rfl, rfl⟩, fun _ _ => rfl⟩, by show va_P _ _ _ t.heap; rw [ht]; exact hP⟩, hS.F ht⟩) hS.2.2 d_Rd_readDigit_11
set_option maxHeartbeats 4000000 in
set_option maxRecDepth 100000 in
theorem m_Gr_hasRoomForElementX (l : Launch) {D : va_G} {cy : Nat → ClassId} {sz n : Nat} {ad : Nat → Nat} {mem : Nat → va_E} {Z a R Ec lim : Nat} {f T : Nat → Int32} {to : Nat → Int32} {nm : Nat → Int64} {m0 : Nat → va_E} (hn : 224 ≤ n) (hT : TX cy ad Z f m0) (hf : ∀ k, k < Z → f k = T k) (hRX : RX cy ad lim a R Ec to nm m0 mem) (haB : a ≤ 300) : MI l D cy sz n ad y_Gr_hasRoomForElement c_Gr_hasRoomForElement 1 (some .boolean) ({ frames := 0, cells := 0, slots := 0, locals := 0 } : Room) mem [.ref (ad 5)] (fun r mem' => mem' = mem ∧ ((r = 0 ∧ Ec = 100) ∨ (r = 1 ∧ Ec < 100))) := by
  refine Met.ofW (cc := c_Gr_hasRoomForElement) (maxL := 1) (ret := (some .boolean)) (by decide) rfl ?_
  intro p e s m args below meth c s₁ B hml hv
  obtain ⟨rfl, E, hP, hD⟩ := hv
  have hx := B.exec
  have hb := B.bytes
  have hr := B.returns
  have hlocks := B.notSynchronized
  have Bx : MB p s m [.ref (ad 5)].toArray c c_Gr_hasRoomForElement "AbnfChart$Grammar" D cy := ⟨hx, hb, tb_all (atoms_spec B.pre) E.2.1, findClass_of_methodNamed B.named, E.1⟩
  have hS : va_S (Az sz) s.heap s.heap [] := va_S.rf
  have hl := lv_entry ([.ref (ad 5)]) (n := 1) (Nat.le_of_ble_eq_true rfl)
  rw [lg_entry_eq]
  generalize (lg_sl ([.ref (ad 5)]) ++ List.replicate (1 - (lg_sl ([.ref (ad 5)])).length) Slot.unset).toArray = ls at hl ⊢
  have hl : lv_has ls 1 [(0, .ref (ad 5))] := hl
  have hZ9 := hT.2.1
  have hbd9 := hRX.1.1.1
  obtain ⟨ft1, h9_2⟩ := hRX.2.1
  have h1_3 : mem 1 = .inr (0, [.ref (ad 2), .int (nI Z)]) := (hRX.1.2.2 1 (by omega)).trans hT.1
  have h2_4 : mem 2 = .inl (cy 0, 240, .inl f) := (hRX.1.2.2 2 (by omega)).trans hT.2.2
  have h5_5 := hRX.1.1.2.1
  have hbd11 := hRX.1.1.1
  obtain ⟨S6, g7, hS_8, h220_9, h221_10⟩ := hRX.1.1.2.2.2.2.2.2
  refine lv_aload_n Bx.1 Bx.2.1 d_Gr_hasRoomForElement_0 rfl (lv_at hl 0 rfl) ?_
  refine f_get Bx hP (by omega) h5_5 rfl inGr 4 (by decide) kw_122 rfl rfl d_Gr_hasRoomForElement_1 ?_
  refine lv_bipush (v := 100) Bx.1 Bx.2.1 d_Gr_hasRoomForElement_4 (by decide) ?_
  refine lv_icmp_ge Bx.1 Bx.2.1 d_Gr_hasRoomForElement_6 rfl (fun hb12 => ?_) (fun hb12 => ?_)
  · have hN13 : 100 ≤ Ec := (nI_leI (by omega) (by omega)).mp (show nI (100) ≤ nI (Ec) from hb12)
    refine lv_iconst (v := 0) Bx.1 Bx.2.1 d_Gr_hasRoomForElement_13 (by decide) ?_
    exact W.zret (v := 0) hx hb hr rfl (fun t ht hW => ⟨⟨0, mem, rfl, ⟨rfl, Or.inl ⟨rfl, by omega⟩⟩, by show va_P _ _ _ t.heap; rw [ht]; exact hP⟩, hS.F ht⟩) hS.2.2 d_Gr_hasRoomForElement_14
  · have hN14 : ¬ 100 ≤ Ec := fun q9 => hb12 (show nI (100) ≤ nI (Ec) from (nI_leI (by omega) (by omega)).mpr q9)
    refine lv_iconst (v := 1) Bx.1 Bx.2.1 d_Gr_hasRoomForElement_9 (by decide) ?_
    refine lv_goto Bx.1 Bx.2.1 d_Gr_hasRoomForElement_10 rfl ?_
    exact W.zret (v := 1) hx hb hr rfl (fun t ht hW => ⟨⟨1, mem, rfl, ⟨rfl, Or.inr ⟨rfl, by omega⟩⟩, by show va_P _ _ _ t.heap; rw [ht]; exact hP⟩, hS.F ht⟩) hS.2.2 d_Gr_hasRoomForElement_14
set_option maxHeartbeats 4000000 in
set_option maxRecDepth 100000 in
theorem m_Gr_hasRoomForRuleX (l : Launch) {D : va_G} {cy : Nat → ClassId} {sz n : Nat} {ad : Nat → Nat} {mem : Nat → va_E} {Z a R Ec lim : Nat} {f T : Nat → Int32} {to : Nat → Int32} {nm : Nat → Int64} {m0 : Nat → va_E} (hn : 224 ≤ n) (hT : TX cy ad Z f m0) (hf : ∀ k, k < Z → f k = T k) (hRX : RX cy ad lim a R Ec to nm m0 mem) (haB : a ≤ 300) : MI l D cy sz n ad y_Gr_hasRoomForRule c_Gr_hasRoomForRule 1 (some .boolean) ({ frames := 0, cells := 0, slots := 0, locals := 0 } : Room) mem [.ref (ad 5)] (fun r mem' => mem' = mem ∧ ((r = 0 ∧ R = 12) ∨ (r = 1 ∧ R < 12))) := by
  refine Met.ofW (cc := c_Gr_hasRoomForRule) (maxL := 1) (ret := (some .boolean)) (by decide) rfl ?_
  intro p e s m args below meth c s₁ B hml hv
  obtain ⟨rfl, E, hP, hD⟩ := hv
  have hx := B.exec
  have hb := B.bytes
  have hr := B.returns
  have hlocks := B.notSynchronized
  have Bx : MB p s m [.ref (ad 5)].toArray c c_Gr_hasRoomForRule "AbnfChart$Grammar" D cy := ⟨hx, hb, tb_all (atoms_spec B.pre) E.2.1, findClass_of_methodNamed B.named, E.1⟩
  have hS : va_S (Az sz) s.heap s.heap [] := va_S.rf
  have hl := lv_entry ([.ref (ad 5)]) (n := 1) (Nat.le_of_ble_eq_true rfl)
  rw [lg_entry_eq]
  generalize (lg_sl ([.ref (ad 5)]) ++ List.replicate (1 - (lg_sl ([.ref (ad 5)])).length) Slot.unset).toArray = ls at hl ⊢
  have hl : lv_has ls 1 [(0, .ref (ad 5))] := hl
  have hZ9 := hT.2.1
  have hbd9 := hRX.1.1.1
  obtain ⟨ft1, h9_2⟩ := hRX.2.1
  have h1_3 : mem 1 = .inr (0, [.ref (ad 2), .int (nI Z)]) := (hRX.1.2.2 1 (by omega)).trans hT.1
  have h2_4 : mem 2 = .inl (cy 0, 240, .inl f) := (hRX.1.2.2 2 (by omega)).trans hT.2.2
  have h5_5 := hRX.1.1.2.1
  have hbd11 := hRX.1.1.1
  obtain ⟨S6, g7, hS_8, h220_9, h221_10⟩ := hRX.1.1.2.2.2.2.2.2
  refine lv_aload_n Bx.1 Bx.2.1 d_Gr_hasRoomForRule_0 rfl (lv_at hl 0 rfl) ?_
  refine f_get Bx hP (by omega) h5_5 rfl inGr 3 (by decide) kw_121 rfl rfl d_Gr_hasRoomForRule_1 ?_
  refine lv_bipush (v := 12) Bx.1 Bx.2.1 d_Gr_hasRoomForRule_4 (by decide) ?_
  refine lv_icmp_ge Bx.1 Bx.2.1 d_Gr_hasRoomForRule_6 rfl (fun hb12 => ?_) (fun hb12 => ?_)
  · have hN13 : 12 ≤ R := (nI_leI (by omega) (by omega)).mp (show nI (12) ≤ nI (R) from hb12)
    refine lv_iconst (v := 0) Bx.1 Bx.2.1 d_Gr_hasRoomForRule_13 (by decide) ?_
    exact W.zret (v := 0) hx hb hr rfl (fun t ht hW => ⟨⟨0, mem, rfl, ⟨rfl, Or.inl ⟨rfl, by omega⟩⟩, by show va_P _ _ _ t.heap; rw [ht]; exact hP⟩, hS.F ht⟩) hS.2.2 d_Gr_hasRoomForRule_14
  · have hN14 : ¬ 12 ≤ R := fun q9 => hb12 (show nI (12) ≤ nI (R) from (nI_leI (by omega) (by omega)).mpr q9)
    refine lv_iconst (v := 1) Bx.1 Bx.2.1 d_Gr_hasRoomForRule_9 (by decide) ?_
    refine lv_goto Bx.1 Bx.2.1 d_Gr_hasRoomForRule_10 rfl ?_
    exact W.zret (v := 1) hx hb hr rfl (fun t ht hW => ⟨⟨1, mem, rfl, ⟨rfl, Or.inr ⟨rfl, by omega⟩⟩, by show va_P _ _ _ t.heap; rw [ht]; exact hP⟩, hS.F ht⟩) hS.2.2 d_Gr_hasRoomForRule_14
set_option maxHeartbeats 4000000 in
set_option maxRecDepth 100000 in
theorem m_Gr_addElementX (l : Launch) {D : va_G} {cy : Nat → ClassId} {sz n : Nat} {ad : Nat → Nat} {mem : Nat → va_E} {Z : Nat} {f : Nat → Int32} {lim rc ec : Nat} {m0 : Nat → va_E} {kd : Int32} (hn : 224 ≤ n) (hT : TX cy ad Z f m0) (hRS : RS cy ad lim rc ec m0 mem) (hc : ec < 100) : MR l D cy sz n ad y_Gr_addElement c_Gr_addElement 3 (some (.object "AbnfChart$Element")) ({ frames := 1, cells := 0, slots := 0, locals := 30 } : Room) mem [.ref (ad 5), .int (kd)] (fun r mem' => r = ad (20 + 2 * ec) ∧ RS cy ad lim rc (ec + 1) m0 mem' ∧ ∀ i, i ≠ 5 → i ≠ 20 + 2 * ec → mem' i = mem i) := by
  refine Met.ofW (cc := c_Gr_addElement) (maxL := 3) (ret := (some (.object "AbnfChart$Element"))) (by decide) rfl ?_
  intro p e s m args below meth c s₁ B hml hv
  obtain ⟨rfl, E, hP, hD⟩ := hv
  have hx := B.exec
  have hb := B.bytes
  have hr := B.returns
  have hlocks := B.notSynchronized
  have Bx : MB p s m [.ref (ad 5), .int (kd)].toArray c c_Gr_addElement "AbnfChart$Grammar" D cy := ⟨hx, hb, tb_all (atoms_spec B.pre) E.2.1, findClass_of_methodNamed B.named, E.1⟩
  have hS : va_S (Az sz) s.heap s.heap [] := va_S.rf
  have hl := lv_entry ([.ref (ad 5), .int (kd)]) (n := 3) (Nat.le_of_ble_eq_true rfl)
  rw [lg_entry_eq]
  generalize (lg_sl ([.ref (ad 5), .int (kd)]) ++ List.replicate (3 - (lg_sl ([.ref (ad 5), .int (kd)])).length) Slot.unset).toArray = ls at hl ⊢
  have hl : lv_has ls 3 [(0, .ref (ad 5)), (1, .int (kd))] := hl
  obtain ⟨at1, ft2, h9_3⟩ := hRS.2.1
  have h1_4 : mem 1 = .inr (0, [.ref (ad 2), .int (nI Z)]) := (hRS.2.2 1 (by omega)).trans hT.1
  have h2_5 : mem 2 = .inl (cy 0, 240, .inl f) := (hRS.2.2 2 (by omega)).trans hT.2.2
  have h5_6 := hRS.1.2.1
  have hbd12 := hRS.1.1
  obtain ⟨S7, g8, hS_9, h220_10, h221_11⟩ := hRS.1.2.2.2.2.2.2
  refine lv_aload_n Bx.1 Bx.2.1 d_Gr_addElement_0 rfl (lv_at hl 0 rfl) ?_
  refine f_get Bx hP (by omega) h5_6 rfl inGr 1 (by decide) kw_116 rfl rfl d_Gr_addElement_1 ?_
  refine lv_aload_n Bx.1 Bx.2.1 d_Gr_addElement_4 rfl (lv_at hl 0 rfl) ?_
  refine f_get Bx hP (by omega) h5_6 rfl inGr 4 (by decide) kw_122 rfl rfl d_Gr_addElement_5 ?_
  refine f_aald (t0 := 4) Bx hP (by omega) hRS.1.2.2.2.1 rfl ec rfl hc (by decide) (if_pos hc) d_Gr_addElement_8 ?_
  refine lv_astore_n (lv' := [(2, .ref (ad (20 + 2 * ec))), (0, .ref (ad 5)), (1, .int (kd))]) Bx.1 Bx.2.1 d_Gr_addElement_9 rfl hl (by decide) rfl (fun ls hl => ?_)
  refine lv_aload_n Bx.1 Bx.2.1 d_Gr_addElement_10 rfl (lv_at hl 1 rfl) ?_
  refine lv_dup Bx.1 Bx.2.1 d_Gr_addElement_11 rfl ?_
  refine f_get Bx hP (by omega) h5_6 rfl inGr 4 (by decide) kw_122 rfl rfl d_Gr_addElement_12 ?_
  refine lv_iconst (v := 1) Bx.1 Bx.2.1 d_Gr_addElement_15 (by decide) ?_
  refine lv_iadd Bx.1 Bx.2.1 d_Gr_addElement_16 ?_
  rw [nI_1]
  obtain ⟨k13, lo14, hi15, as16, pa17, ne18, hcell, -⟩ := (hRS.1.2.2.2.2.2.1 ec hc).1
  refine f_put Bx hP hD hS (by omega) h5_6 rfl inGr tyGr okGr nmGr 4 (by decide) kw_122 rfl rfl rfl rfl (Nat.le_of_ble_eq_true rfl) d_Gr_addElement_17 (fun H locs hP hS => ?_)
  obtain ⟨mem19, e_mem19⟩ : ∃ z, z = va_up mem (5) (.inr (3, [.ref (ad 6), .ref (ad 19), .ref (ad 220), .int (nI rc), .int (nI (ec + 1)), .int (0)])) := ⟨_, rfl⟩
  have hP : va_P D vcl (fw n ad mem19) H := by rw [e_mem19]; exact hP
  have hD : va_D (Az sz) (fw n ad mem19) := fw_D hD
  have h_mem19 : mem19 (5) = .inr (3, [.ref (ad 6), .ref (ad 19), .ref (ad 220), .int (nI rc), .int (nI (ec + 1)), .int (0)]) := by rw [e_mem19, va_up_self]
  have hh20 := (va_up_ne mem (.inr (3, [.ref (ad 6), .ref (ad 19), .ref (ad 220), .int (nI rc), .int (nI (ec + 1)), .int (0)])) (show (222 : Nat) ≠ 5 by first | decide | assumption | omega)).trans h9_3
  rw [← e_mem19] at hh20
  have hh21 := (va_up_ne mem (.inr (3, [.ref (ad 6), .ref (ad 19), .ref (ad 220), .int (nI rc), .int (nI (ec + 1)), .int (0)])) (show (1 : Nat) ≠ 5 by first | decide | assumption | omega)).trans h1_4
  rw [← e_mem19] at hh21
  have hh22 := (va_up_ne mem (.inr (3, [.ref (ad 6), .ref (ad 19), .ref (ad 220), .int (nI rc), .int (nI (ec + 1)), .int (0)])) (show (220 : Nat) ≠ 5 by first | decide | assumption | omega)).trans h220_10
  rw [← e_mem19] at hh22
  have hh23 := (va_up_ne mem (.inr (3, [.ref (ad 6), .ref (ad 19), .ref (ad 220), .int (nI rc), .int (nI (ec + 1)), .int (0)])) (show ((20 + 2 * ec) : Nat) ≠ 5 by first | decide | assumption | omega)).trans hcell
  rw [← e_mem19] at hh23
  refine lv_aload_n Bx.1 Bx.2.1 d_Gr_addElement_20 rfl (lv_at hl 0 rfl) ?_
  refine lv_iload_n Bx.1 Bx.2.1 d_Gr_addElement_21 rfl (lv_at hl 2 rfl) ?_
  refine f_callVv (na := 1) (As := [.int (kd)]) (rest := []) Bx hml E hP hD hS (by omega) hh23 rfl (m_El_begin l (by omega) hh23) kw_431 kw_432 kw_433 kw_5 kw_434 (by decide +kernel) ⟨rfl, rfl⟩ ⟨Nat.le_of_ble_eq_true rfl, Nat.le_of_ble_eq_true rfl⟩ rfl hl.1 (Nat.le_of_ble_eq_true rfl) d_Gr_addElement_22 ⟨Nat.le_of_ble_eq_true rfl, Nat.le_of_ble_eq_true rfl⟩ (fun mem25 H locs hq hP hS => ?_)
  have hD : va_D (Az sz) (fw n ad mem25) := fw_D hD
  refine lv_aload_n Bx.1 Bx.2.1 d_Gr_addElement_25 rfl (lv_at hl 0 rfl) ?_
  exact r_aret hx hb hlocks hr (⟨rfl, by rw [hq, e_mem19]; exact hRS.addE hc _, fun i q1 q2 => by rw [hq, e_mem19, va_up_ne _ _ q2, va_up_ne _ _ q1]⟩) hP hS d_Gr_addElement_26
set_option maxHeartbeats 4000000 in
set_option maxRecDepth 100000 in
theorem m_Gr_addRuleX (l : Launch) {D : va_G} {cy : Nat → ClassId} {sz n : Nat} {ad : Nat → Nat} {mem : Nat → va_E} {Z : Nat} {f : Nat → Int32} {lim rc ec : Nat} {m0 : Nat → va_E} {nm : Int64} (hn : 224 ≤ n) (hT : TX cy ad Z f m0) (hRS : RS cy ad lim rc ec m0 mem) (hc : rc < 12) : MR l D cy sz n ad y_Gr_addRule c_Gr_addRule 4 (some (.object "AbnfChart$Rule")) ({ frames := 1, cells := 0, slots := 0, locals := 30 } : Room) mem [.ref (ad 5), .long (nm)] (fun r mem' => r = ad (7 + rc) ∧ RS cy ad lim (rc + 1) ec m0 mem' ∧ mem' (7 + rc) = .inr (5, [.long nm, .null, .null]) ∧ ∀ i, i ≠ 5 → i ≠ 7 + rc → mem' i = mem i) := by
  refine Met.ofW (cc := c_Gr_addRule) (maxL := 4) (ret := (some (.object "AbnfChart$Rule"))) (by decide) rfl ?_
  intro p e s m args below meth c s₁ B hml hv
  obtain ⟨rfl, E, hP, hD⟩ := hv
  have hx := B.exec
  have hb := B.bytes
  have hr := B.returns
  have hlocks := B.notSynchronized
  have Bx : MB p s m [.ref (ad 5), .long (nm)].toArray c c_Gr_addRule "AbnfChart$Grammar" D cy := ⟨hx, hb, tb_all (atoms_spec B.pre) E.2.1, findClass_of_methodNamed B.named, E.1⟩
  have hS : va_S (Az sz) s.heap s.heap [] := va_S.rf
  have hl := lv_entry ([.ref (ad 5), .long (nm)]) (n := 4) (Nat.le_of_ble_eq_true rfl)
  rw [lg_entry_eq]
  generalize (lg_sl ([.ref (ad 5), .long (nm)]) ++ List.replicate (4 - (lg_sl ([.ref (ad 5), .long (nm)])).length) Slot.unset).toArray = ls at hl ⊢
  have hl : lv_has ls 4 [(0, .ref (ad 5)), (1, .long (nm))] := hl
  obtain ⟨at1, ft2, h9_3⟩ := hRS.2.1
  have h1_4 : mem 1 = .inr (0, [.ref (ad 2), .int (nI Z)]) := (hRS.2.2 1 (by omega)).trans hT.1
  have h2_5 : mem 2 = .inl (cy 0, 240, .inl f) := (hRS.2.2 2 (by omega)).trans hT.2.2
  have h5_6 := hRS.1.2.1
  have hbd12 := hRS.1.1
  obtain ⟨S7, g8, hS_9, h220_10, h221_11⟩ := hRS.1.2.2.2.2.2.2
  refine lv_aload_n Bx.1 Bx.2.1 d_Gr_addRule_0 rfl (lv_at hl 0 rfl) ?_
  refine f_get Bx hP (by omega) h5_6 rfl inGr 0 (by decide) kw_113 rfl rfl d_Gr_addRule_1 ?_
  refine lv_aload_n Bx.1 Bx.2.1 d_Gr_addRule_4 rfl (lv_at hl 0 rfl) ?_
  refine f_get Bx hP (by omega) h5_6 rfl inGr 3 (by decide) kw_121 rfl rfl d_Gr_addRule_5 ?_
  refine f_aald (t0 := 5) Bx hP (by omega) hRS.1.2.2.1 rfl rc rfl hc (by decide) (by unfold rfA; rw [if_pos hc, Nat.one_mul]) d_Gr_addRule_8 ?_
  refine lv_astore_n (lv' := [(3, .ref (ad (7 + rc))), (0, .ref (ad 5)), (1, .long (nm))]) Bx.1 Bx.2.1 d_Gr_addRule_9 rfl hl (by decide) rfl (fun ls hl => ?_)
  refine lv_aload_n Bx.1 Bx.2.1 d_Gr_addRule_10 rfl (lv_at hl 1 rfl) ?_
  refine lv_dup Bx.1 Bx.2.1 d_Gr_addRule_11 rfl ?_
  refine f_get Bx hP (by omega) h5_6 rfl inGr 3 (by decide) kw_121 rfl rfl d_Gr_addRule_12 ?_
  refine lv_iconst (v := 1) Bx.1 Bx.2.1 d_Gr_addRule_15 (by decide) ?_
  refine lv_iadd Bx.1 Bx.2.1 d_Gr_addRule_16 ?_
  rw [nI_1]
  obtain ⟨nm13, fi14, la15, hcell, -⟩ := hRS.1.2.2.2.2.1 rc hc
  refine f_put Bx hP hD hS (by omega) h5_6 rfl inGr tyGr okGr nmGr 3 (by decide) kw_121 rfl rfl rfl rfl (Nat.le_of_ble_eq_true rfl) d_Gr_addRule_17 (fun H locs hP hS => ?_)
  obtain ⟨mem16, e_mem16⟩ : ∃ z, z = va_up mem (5) (.inr (3, [.ref (ad 6), .ref (ad 19), .ref (ad 220), .int (nI (rc + 1)), .int (nI ec), .int (0)])) := ⟨_, rfl⟩
  have hP : va_P D vcl (fw n ad mem16) H := by rw [e_mem16]; exact hP
  have hD : va_D (Az sz) (fw n ad mem16) := fw_D hD
  have h_mem16 : mem16 (5) = .inr (3, [.ref (ad 6), .ref (ad 19), .ref (ad 220), .int (nI (rc + 1)), .int (nI ec), .int (0)]) := by rw [e_mem16, va_up_self]
  have hh17 := (va_up_ne mem (.inr (3, [.ref (ad 6), .ref (ad 19), .ref (ad 220), .int (nI (rc + 1)), .int (nI ec), .int (0)])) (show (222 : Nat) ≠ 5 by first | decide | assumption | omega)).trans h9_3
  rw [← e_mem16] at hh17
  have hh18 := (va_up_ne mem (.inr (3, [.ref (ad 6), .ref (ad 19), .ref (ad 220), .int (nI (rc + 1)), .int (nI ec), .int (0)])) (show (1 : Nat) ≠ 5 by first | decide | assumption | omega)).trans h1_4
  rw [← e_mem16] at hh18
  have hh19 := (va_up_ne mem (.inr (3, [.ref (ad 6), .ref (ad 19), .ref (ad 220), .int (nI (rc + 1)), .int (nI ec), .int (0)])) (show (220 : Nat) ≠ 5 by first | decide | assumption | omega)).trans h220_10
  rw [← e_mem16] at hh19
  have hh20 := (va_up_ne mem (.inr (3, [.ref (ad 6), .ref (ad 19), .ref (ad 220), .int (nI (rc + 1)), .int (nI ec), .int (0)])) (show ((7 + rc) : Nat) ≠ 5 by first | decide | assumption | omega)).trans hcell
  rw [← e_mem16] at hh20
  refine lv_aload_n Bx.1 Bx.2.1 d_Gr_addRule_20 rfl (lv_at hl 0 rfl) ?_
  refine lv_lload_n Bx.1 Bx.2.1 d_Gr_addRule_21 rfl (lv_at hl 2 rfl) ?_
  refine f_callVv (na := 1) (As := [.long (nm)]) (rest := []) Bx hml E hP hD hS (by omega) hh20 rfl (m_Ru_begin l (by omega) hh20) kw_393 kw_394 kw_395 kw_4 kw_396 (by decide +kernel) ⟨rfl, rfl⟩ ⟨Nat.le_of_ble_eq_true rfl, Nat.le_of_ble_eq_true rfl⟩ rfl hl.1 (Nat.le_of_ble_eq_true rfl) d_Gr_addRule_22 ⟨Nat.le_of_ble_eq_true rfl, Nat.le_of_ble_eq_true rfl⟩ (fun mem22 H locs hq hP hS => ?_)
  have hD : va_D (Az sz) (fw n ad mem22) := fw_D hD
  refine lv_aload_n Bx.1 Bx.2.1 d_Gr_addRule_25 rfl (lv_at hl 0 rfl) ?_
  exact r_aret hx hb hlocks hr (⟨rfl, by rw [hq, e_mem16]; exact hRS.addR hc _, by rw [hq, va_up_self], fun i q1 q2 => by rw [hq, e_mem16, va_up_ne _ _ q2, va_up_ne _ _ q1]⟩) hP hS d_Gr_addRule_26
set_option maxHeartbeats 4000000 in
set_option maxRecDepth 100000 in
theorem m_Rd_addElementX (l : Launch) {D : va_G} {cy : Nat → ClassId} {sz n : Nat} {ad : Nat → Nat} {mem : Nat → va_E} {Z a R Ec lim : Nat} {f T : Nat → Int32} {to : Nat → Int32} {nm : Nat → Int64} {m0 : Nat → va_E} {kd st : Int32} (hlt : l.stackTraces = false) (hn : 224 ≤ n) (hT : TX cy ad Z f m0) (hf : ∀ k, k < Z → f k = T k) (hRX : RX cy ad lim a R Ec to nm m0 mem) (haB : a ≤ 300) : NXr l D cy sz n ad y_Rd_addElement c_Rd_addElement 3 (some (.object "AbnfChart$Element")) ({ frames := 8, cells := 1, slots := 6, locals := 130 } : Room) mem [.ref (ad 222), .int (kd), .int (st)] (fun r mem' => r = ad (20 + 2 * Ec) ∧ Ec < 100 ∧ RX cy ad lim a R (Ec + 1) to nm m0 mem') (fun X mem' => ((X = cIA ∨ X = cIS) ∧ ∃ rc' ec' : Nat, RS cy ad lim rc' ec' m0 mem') ∧ (Ec = 100)) := by
  refine vx_ofW (cc := c_Rd_addElement) (maxL := 3) (ret := (some (.object "AbnfChart$Element"))) (by decide) rfl ?_
  intro p e s m args below meth c s₁ B hml hno hv
  obtain ⟨rfl, E, hP, hD⟩ := hv
  have hx := B.exec
  have hb := B.bytes
  have hr := B.returns
  have hlocks := B.notSynchronized
  have Bx : MB p s m [.ref (ad 222), .int (kd), .int (st)].toArray c c_Rd_addElement "AbnfChart$Reader" D cy := ⟨hx, hb, tb_all (atoms_spec B.pre) E.2.1, findClass_of_methodNamed B.named, E.1⟩
  have hS : va_S (Az sz) s.heap s.heap [] := va_S.rf
  have hl := lv_entry ([.ref (ad 222), .int (kd), .int (st)]) (n := 3) (Nat.le_of_ble_eq_true rfl)
  rw [lg_entry_eq]
  generalize (lg_sl ([.ref (ad 222), .int (kd), .int (st)]) ++ List.replicate (3 - (lg_sl ([.ref (ad 222), .int (kd), .int (st)])).length) Slot.unset).toArray = ls at hl ⊢
  have hl : lv_has ls 3 [(0, .ref (ad 222)), (1, .int (kd)), (2, .int (st))] := hl
  have hZ9 := hT.2.1
  have hbd9 := hRX.1.1.1
  obtain ⟨ft1, h9_2⟩ := hRX.2.1
  have h1_3 : mem 1 = .inr (0, [.ref (ad 2), .int (nI Z)]) := (hRX.1.2.2 1 (by omega)).trans hT.1
  have h2_4 : mem 2 = .inl (cy 0, 240, .inl f) := (hRX.1.2.2 2 (by omega)).trans hT.2.2
  have h5_5 := hRX.1.1.2.1
  have hbd11 := hRX.1.1.1
  obtain ⟨S6, g7, hS_8, h220_9, h221_10⟩ := hRX.1.1.2.2.2.2.2.2
  refine lv_aload_n Bx.1 Bx.2.1 d_Rd_addElement_0 rfl (lv_at hl 0 rfl) ?_
  refine lv_aload_n Bx.1 Bx.2.1 d_Rd_addElement_1 rfl (lv_at hl 0 rfl) ?_
  refine f_get Bx hP (by omega) h9_2 rfl inRd 1 (by decide) kw_145 rfl rfl d_Rd_addElement_2 ?_
  refine f_callVi (na := 0) (As := []) (rest := [.ref (ad 222)]) Bx hml E hP hD hS (by omega) h5_5 rfl (m_Gr_hasRoomForElementX l hn hT hf hRX (by omega)) kw_423 kw_424 kw_425 kw_3 kw_426 (by decide +kernel) ⟨rfl, rfl⟩ ⟨Nat.le_of_ble_eq_true rfl, Nat.le_of_ble_eq_true rfl⟩ rfl hl.1 (Nat.le_of_ble_eq_true rfl) d_Rd_addElement_5 ⟨Nat.le_of_ble_eq_true rfl, Nat.le_of_ble_eq_true rfl⟩ (fun r12 mem13 H locs hq hP hS => ?_)
  have hD : va_D (Az sz) (fw n ad mem13) := fw_D hD
  obtain ⟨hqe, hro⟩ := hq
  rw [hqe] at hP hD
  rcases hro with ⟨hr0, hE⟩ | ⟨hr0, hE⟩
  · subst hr0
    refine lv_iload_n Bx.1 Bx.2.1 d_Rd_addElement_8 rfl (lv_at hl 2 rfl) ?_
    refine f_xVv (na := 2) (As := [.int (0), .int (st)]) (rest := []) Bx hml E hP hD hS (by omega) h9_2 rfl (m_Rd_needRoomX l hlt hn hT hf hRX (by omega)) kw_383 kw_385 sel_Rd_needRoom kw_6 kw_386 (by decide +kernel) ⟨rfl, rfl⟩ ⟨Nat.le_of_ble_eq_true rfl, Nat.le_of_ble_eq_true rfl⟩ rfl hl.1 (Nat.le_of_ble_eq_true rfl) d_Rd_addElement_9 ⟨Nat.le_of_ble_eq_true rfl, Nat.le_of_ble_eq_true rfl⟩ (fun X ce q9 memx H locs hx9 hP hS g1 g2 g3 => f_out hlocks hno hP hS g1 g2 g3 ⟨Nat.le_of_ble_eq_true rfl, Nat.le_of_ble_eq_true rfl⟩ ⟨hx9.1, hE⟩) (fun mem16 H locs hq hP hS => ?_)
    have hD : va_D (Az sz) (fw n ad mem16) := fw_D hD
    obtain ⟨hqe, hg17⟩ := hq
    rw [hqe] at hP hD
    exact absurd rfl hg17
  · subst hr0
    refine lv_iload_n Bx.1 Bx.2.1 d_Rd_addElement_8 rfl (lv_at hl 2 rfl) ?_
    refine f_xVv (na := 2) (As := [.int (1), .int (st)]) (rest := []) Bx hml E hP hD hS (by omega) h9_2 rfl (m_Rd_needRoomX l hlt hn hT hf hRX (by omega)) kw_383 kw_385 sel_Rd_needRoom kw_6 kw_386 (by decide +kernel) ⟨rfl, rfl⟩ ⟨Nat.le_of_ble_eq_true rfl, Nat.le_of_ble_eq_true rfl⟩ rfl hl.1 (Nat.le_of_ble_eq_true rfl) d_Rd_addElement_9 ⟨Nat.le_of_ble_eq_true rfl, Nat.le_of_ble_eq_true rfl⟩ (fun X ce q9 memx H locs hx9 hP hS g1 g2 g3 => f_out hlocks hno hP hS g1 g2 g3 ⟨Nat.le_of_ble_eq_true rfl, Nat.le_of_ble_eq_true rfl⟩ ⟨hx9.1, absurd hx9.2 (by decide)⟩) (fun mem19 H locs hq hP hS => ?_)
    have hD : va_D (Az sz) (fw n ad mem19) := fw_D hD
    obtain ⟨hqe, hg20⟩ := hq
    rw [hqe] at hP hD
    refine lv_aload_n Bx.1 Bx.2.1 d_Rd_addElement_12 rfl (lv_at hl 0 rfl) ?_
    refine f_get Bx hP (by omega) h9_2 rfl inRd 1 (by decide) kw_145 rfl rfl d_Rd_addElement_13 ?_
    refine lv_iload_n Bx.1 Bx.2.1 d_Rd_addElement_16 rfl (lv_at hl 1 rfl) ?_
    refine f_callVr (na := 1) (As := [.int (kd)]) (rest := []) Bx hml E hP hD hS (by omega) h5_5 rfl (m_Gr_addElementX l hn hT hRX.1 hE) kw_427 kw_428 kw_429 kw_3 kw_430 (by decide +kernel) ⟨rfl, rfl⟩ ⟨Nat.le_of_ble_eq_true rfl, Nat.le_of_ble_eq_true rfl⟩ rfl hl.1 (Nat.le_of_ble_eq_true rfl) d_Rd_addElement_17 ⟨Nat.le_of_ble_eq_true rfl, Nat.le_of_ble_eq_true rfl⟩ (fun r21 mem22 H locs hq3 hP hS => ?_)
    have hD : va_D (Az sz) (fw n ad mem22) := fw_D hD
    exact x_aret hx hb hlocks hr (⟨hq3.1, hE, hRX.fr hq3.2.1 (fun i hi => hq3.2.2 i (by omega) (by omega))⟩) hP hS d_Rd_addElement_20
set_option maxHeartbeats 4000000 in
set_option maxRecDepth 100000 in
theorem m_Gr_findX (l : Launch) {D : va_G} {cy : Nat → ClassId} {sz n : Nat} {ad : Nat → Nat} {mem : Nat → va_E} {Z a R Ec lim : Nat} {f T : Nat → Int32} {to : Nat → Int32} {nm : Nat → Int64} {m0 : Nat → va_E} {x : Int64} (hn : 224 ≤ n) (hT : TX cy ad Z f m0) (hf : ∀ k, k < Z → f k = T k) (hRX : RX cy ad lim a R Ec to nm m0 mem) (haB : a ≤ 300) : MI l D cy sz n ad y_Gr_find c_Gr_find 4 (some .int) ({ frames := 0, cells := 0, slots := 0, locals := 0 } : Room) mem [.ref (ad 5), .long (x)] (fun r mem' => mem' = mem ∧ ((fdF nm x R = none ∧ r = -1) ∨ ∃ i, fdF nm x R = some i ∧ i < R ∧ r = nI i)) := by
  refine Met.ofW (cc := c_Gr_find) (maxL := 4) (ret := (some .int)) (by decide) rfl ?_
  intro p e s m args below meth c s₁ B hml hv
  obtain ⟨rfl, E, hP, hD⟩ := hv
  have hx := B.exec
  have hb := B.bytes
  have hr := B.returns
  have hlocks := B.notSynchronized
  have Bx : MB p s m [.ref (ad 5), .long (x)].toArray c c_Gr_find "AbnfChart$Grammar" D cy := ⟨hx, hb, tb_all (atoms_spec B.pre) E.2.1, findClass_of_methodNamed B.named, E.1⟩
  have hS : va_S (Az sz) s.heap s.heap [] := va_S.rf
  have hl := lv_entry ([.ref (ad 5), .long (x)]) (n := 4) (Nat.le_of_ble_eq_true rfl)
  rw [lg_entry_eq]
  generalize (lg_sl ([.ref (ad 5), .long (x)]) ++ List.replicate (4 - (lg_sl ([.ref (ad 5), .long (x)])).length) Slot.unset).toArray = ls at hl ⊢
  have hl : lv_has ls 4 [(0, .ref (ad 5)), (1, .long (x))] := hl
  have hZ9 := hT.2.1
  have hbd9 := hRX.1.1.1
  obtain ⟨ft1, h9_2⟩ := hRX.2.1
  have h1_3 : mem 1 = .inr (0, [.ref (ad 2), .int (nI Z)]) := (hRX.1.2.2 1 (by omega)).trans hT.1
  have h2_4 : mem 2 = .inl (cy 0, 240, .inl f) := (hRX.1.2.2 2 (by omega)).trans hT.2.2
  have h5_5 := hRX.1.1.2.1
  have hbd11 := hRX.1.1.1
  obtain ⟨S6, g7, hS_8, h220_9, h221_10⟩ := hRX.1.1.2.2.2.2.2.2
  refine lv_iconst (v := 0) Bx.1 Bx.2.1 d_Gr_find_0 (by decide) ?_
  refine lv_istore_n (lv' := [(3, .int (0)), (0, .ref (ad 5)), (1, .long (x))]) Bx.1 Bx.2.1 d_Gr_find_1 rfl hl (by decide) rfl (fun ls hl => ?_)
  have loop12 : ∀ (d13 : Nat) (j : Nat) (ls : Array Slot) (H : Heap) (locs : List Loc), (R - j < d13) → (j ≤ R) → (fdF nm x j = none) → (va_P D vcl (fw n ad mem) H) → (va_D (Az sz) (fw n ad mem)) → (va_S (Az sz) s.heap H locs) → (lv_has ls 4 [(3, .int (nI j)), (0, .ref (ad 5)), (1, .long (x))]) → W p l e (headSpec (Cond.code y_Gr_find c_Gr_find 4 (some .int) :: tg) ({ frames := 0, cells := 0, slots := 0, locals := 0 } : Room)).room s m [.ref (ad 5), .long (x)].toArray below meth c H locs 0 0 (MQ below (va_Qi (fun r mem' => mem' = mem ∧ ((fdF nm x R = none ∧ r = -1) ∨ ∃ i, fdF nm x R = some i ∧ i < R ∧ r = nI i)) (PP D n ad) (Az sz)) [.ref (ad 5), .long (x)].toArray s 0 0 (Az sz)) (F0 m 2 ls []) := by
    intro d13
    induction d13 with
    | zero => intro j ls H locs hmeas17; exact absurd hmeas17 (Nat.not_lt_zero _)
    | succ d13 ih16 =>
      intro j ls H locs hmeas17 hz14 hz15 hP hD hS hl
      refine lv_iload_n Bx.1 Bx.2.1 d_Gr_find_2 rfl (lv_at hl 0 rfl) ?_
      refine lv_aload_n Bx.1 Bx.2.1 d_Gr_find_3 rfl (lv_at hl 1 rfl) ?_
      refine f_get Bx hP (by omega) h5_5 rfl inGr 3 (by decide) kw_121 rfl rfl d_Gr_find_4 ?_
      refine lv_icmp_ge Bx.1 Bx.2.1 d_Gr_find_7 rfl (fun hb18 => ?_) (fun hb18 => ?_)
      · have hN19 : R ≤ j := (nI_leI (by omega) (by omega)).mp (show nI (R) ≤ nI (j) from hb18)
        have hfR : fdF nm x R = none := by rw [show R = j by omega]; exact hz15
        refine lv_iconst (v := -1) Bx.1 Bx.2.1 d_Gr_find_32 (by decide) ?_
        exact W.iret (v := (-1)) hx hb hr (fun t ht hW => ⟨⟨(-1), mem, rfl, ⟨rfl, Or.inl ⟨hfR, rfl⟩⟩, by show va_P _ _ _ t.heap; rw [ht]; exact hP⟩, hS.F ht⟩) hS.2.2 d_Gr_find_33
      · have hN20 : ¬ R ≤ j := fun q9 => hb18 (show nI (R) ≤ nI (j) from (nI_leI (by omega) (by omega)).mpr q9)
        refine lv_aload_n Bx.1 Bx.2.1 d_Gr_find_10 rfl (lv_at hl 1 rfl) ?_
        refine f_get Bx hP (by omega) h5_5 rfl inGr 0 (by decide) kw_113 rfl rfl d_Gr_find_11 ?_
        refine lv_iload_n Bx.1 Bx.2.1 d_Gr_find_14 rfl (lv_at hl 0 rfl) ?_
        refine f_aald (t0 := 5) Bx hP (by omega) hRX.1.1.2.2.1 rfl j rfl (by omega) (by decide) (q := ad (7 + j)) (by unfold rfA; rw [if_pos (by omega), Nat.one_mul]) d_Gr_find_15 ?_
        obtain ⟨v9, w9, hru, -⟩ := hRX.2.2 j (by omega)
        refine f_getN Bx hP (by omega) hru rfl inRu 0 (by decide) kw_56 rfl rfl d_Gr_find_16 ?_
        refine lv_lload_n Bx.1 Bx.2.1 d_Gr_find_19 rfl (lv_at hl 2 rfl) ?_
        refine W.lcmp Bx.1 Bx.2.1 d_Gr_find_20 ?_
        refine lv_if_ne Bx.1 Bx.2.1 d_Gr_find_21 rfl (fun h7 => ?_) (fun h7 => ?_)
        · refine lv_iinc (lv' := [(3, .int ((nI j + (1)))), (0, .ref (ad 5)), (1, .long (x))]) Bx.1 Bx.2.1 d_Gr_find_26 hl (k := 0) rfl rfl (by decide) rfl (fun ls hl => ?_)
          rw [show (nI j + (1) : Int32) = nI (j + 1) from nI_1 (j)] at hl
          refine lv_goto Bx.1 Bx.2.1 d_Gr_find_29 rfl ?_
          exact ih16 (j + 1) _ _ _ (by have := hmeas17; omega) (by omega) (fdF_miss hz15 (fun z => h7 ((lg_cmp_eq _ _).mpr z))) hP hD hS (lv_sub hl [0, 1, 2] rfl)
        · have hhit : fdF nm x R = some j := by
            have := fdF_hit hz15 ((lg_cmp_eq _ _).mp h7) (R - (j + 1))
            rw [show j + 1 + (R - (j + 1)) = R by omega] at this
            exact this
          refine lv_iload_n Bx.1 Bx.2.1 d_Gr_find_24 rfl (lv_at hl 0 rfl) ?_
          exact W.iret (v := nI j) hx hb hr (fun t ht hW => ⟨⟨nI j, mem, rfl, ⟨rfl, Or.inr ⟨j, hhit, by omega, rfl⟩⟩, by show va_P _ _ _ t.heap; rw [ht]; exact hP⟩, hS.F ht⟩) hS.2.2 d_Gr_find_25
  exact loop12 _ (0) _ _ _ (Nat.lt_succ_self _) (by omega) (rfl) hP hD hS (lv_sub hl [0, 1, 2] rfl)
