theorem figF_nn {x b : Int32} (h : ¬ figF x b < 0) : ∃ d, d ≤ 15 ∧ figF x b = nI d := by
  obtain ⟨j, hj, e⟩ := nI_of h
  refine ⟨j, ?_, e⟩
  have e2 : (figF x b).toInt = j := by rw [e]; exact nI_toInt hj
  unfold figF at e2 h
  by_cases q : dgF x ≠ 0
  · rw [if_pos q] at e2
    have h2 : ¬ (x < 48 ∨ 57 < x) := fun z => q (by unfold dgF; rw [if_pos z])
    simp only [Int32.lt_iff_toInt_lt, ti_48, ti_57] at h2
    rw [Int32.toInt_sub, ti_48, Int.bmod_eq_of_le (by omega) (by omega)] at e2
    omega
  · rw [if_neg q] at e2 h
    by_cases q2 : b = 16 ∧ ¬ (smF x < 97 ∨ 102 < smF x)
    · rw [if_pos q2] at e2
      have h2 := q2.2
      simp only [Int32.lt_iff_toInt_lt, ti_97, ti_102] at h2
      rw [Int32.toInt_sub, ti_87, Int.bmod_eq_of_le (by omega) (by omega)] at e2
      omega
    · rw [if_neg q2] at h
      exact absurd (by decide) h
theorem numN_nn {T : Nat → Int32} {L bb : Nat} (hb : bb ≤ 16) : ∀ (r a x : Nat), ∃ y, (numN T L (nI bb) r a (nI x)).1 = nI y ∧ y + 1 ≤ 16 ^ r * (x + 1)
  | 0, a, x => ⟨x, rfl, by simp⟩
  | r + 1, a, x => by
    rw [numN]
    by_cases q : figF (hereF L T a) (nI bb) < 0
    · rw [if_pos q]
      refine ⟨x, rfl, ?_⟩
      have : 1 ≤ 16 ^ (r + 1) := Nat.le_trans (Nat.one_le_two_pow (n := r + 1)) (Nat.pow_le_pow_left (by decide) _)
      calc x + 1 = 1 * (x + 1) := by omega
        _ ≤ 16 ^ (r + 1) * (x + 1) := Nat.mul_le_mul_right _ this
    · rw [if_neg q]
      obtain ⟨d, hd, e⟩ := figF_nn q
      have e2 : nI bb * nI x + figF (hereF L T a) (nI bb) = nI (bb * x + d) := by rw [e, nI_mul, nI_add]
      obtain ⟨y, e3, h3⟩ := numN_nn hb r (a + 1) (bb * x + d)
      refine ⟨y, by show (numN T L (nI bb) r (a + 1) _).1 = _; rw [e2]; exact e3, ?_⟩
      have h4 : bb * x + d + 1 ≤ 16 * (x + 1) := by
        have : bb * x ≤ 16 * x := Nat.mul_le_mul_right _ hb
        omega
      calc y + 1 ≤ 16 ^ r * (bb * x + d + 1) := h3
        _ ≤ 16 ^ r * (16 * (x + 1)) := Nat.mul_le_mul_left _ h4
        _ = 16 ^ (r + 1) * (x + 1) := by rw [Nat.pow_succ, Nat.mul_assoc]
theorem numS_r {T : Nat → Int32} {L a a' : Nat} {b v : Int32} (hb : b = 10 ∨ b = 16) (h : numS T L a b = some (v, a')) : ¬ v < 0 ∧ v ≤ 127 := by
  unfold numS at h
  simp only [] at h
  by_cases q : (numN T L b (if b = 10 then 3 else 2) a 0).2 = 0 ∨ 127 < (numN T L b (if b = 10 then 3 else 2) a 0).1
  · rw [if_pos q] at h; cases h
  · rw [if_neg q] at h
    have hv : (numN T L b (if b = 10 then 3 else 2) a 0).1 = v := by cases h; rfl
    rw [hv] at q
    refine ⟨?_, Int32.not_lt.mp (fun z => q (Or.inr z))⟩
    rw [← hv]
    rcases hb with rfl | rfl
    · obtain ⟨y, e, hy⟩ := numN_nn (T := T) (L := L) (bb := 10) (by decide) 3 a 0
      show ¬ (numN T L (nI 10) 3 a (nI 0)).1 < 0
      rw [e]; exact nI_pos (by omega)
    · obtain ⟨y, e, hy⟩ := numN_nn (T := T) (L := L) (bb := 16) (by decide) 2 a 0
      show ¬ (numN T L (nI 16) 2 a (nI 0)).1 < 0
      rw [e]; exact nI_pos (by omega)
/-- only element e's numbers and new characters -/
def SPn (e u : Nat) (A A' : Ro) : Prop := (∀ j, j ≠ 228 → j ≠ 229 → j ≠ 230 → j ≠ 234 → A' j = A j) ∧ (∀ k, k ≠ e → A' 228 k = A 228 k ∧ A' 229 k = A 229 k ∧ A' 230 k = A 230 k) ∧ ∀ m, m < u → A' 234 m = A 234 m
set_option maxHeartbeats 4000000 in
set_option maxRecDepth 100000 in
theorem m_Rd_readValueY (l : Launch) {D : va_G} {cy : Nat → ClassId} {sz n : Nat} {ad : Nat → Nat} {mem : Nat → va_E} {Z a R Ec lim : Nat} {f T : Nat → Int32} {to : Nat → Int32} {nm : Nat → Int64} {m0 : Nat → va_E} {S : Nat} {s8 : Nat → Int32} {u8 e8 : Nat} {A0 : Ro} (hlt : l.stackTraces = false) (hn : 224 ≤ n) (hT : TX cy ad Z f m0) (hf : ∀ k, k < Z → f k = T k) (hRX : RX cy ad lim a R Ec to nm m0 mem) (haB : a ≤ 300) (h220 : mem 220 = .inr (0, [.ref (ad 221), .int (nI S)])) (h221 : mem 221 = .inl (cy 0, 240, .inl s8)) (haZ : a < Z) (hSa : S ≤ a) : NXr l D cy sz n ad y_Rd_readValue c_Rd_readValue 7 (some (.object "AbnfChart$Element")) ({ frames := 12, cells := 1, slots := 6, locals := 280 } : Room) mem [.ref (ad 222)] (fun r mem' => Ec < 100 ∧ ∃ (ba : Int32) (a' u' : Nat) (A' : Ro), ((smF (hereF Z T (a + 1)) = 100 ∧ ba = 10) ∨ (smF (hereF Z T (a + 1)) = 120 ∧ ba = 16)) ∧ numsS T Z (a + 1 + 1) u8 e8 ba A0 = some (a', u', A') ∧ r = ad (20 + 2 * Ec) ∧ a < a' ∧ a' ≤ Z ∧ RX cy ad lim a' R (Ec + 1) to nm m0 mem' ∧ SPn e8 u8 A0 A' ∧ ((∃ v w : Int32, mem' (20 + 2 * Ec) = eCl ad Ec 7 v w .null .null .null ∧ A' 228 e8 = 5 ∧ A' 229 e8 = v ∧ A' 230 e8 = w ∧ mem' 220 = .inr (0, [.ref (ad 221), .int (nI S)]) ∧ mem' 221 = .inl (cy 0, 240, .inl s8) ∧ u' = u8 + 1) ∨ (∃ (t9 : Nat) (s9 : Nat → Int32), mem' (20 + 2 * Ec) = eCl ad Ec 6 (nI S) (nI (S + t9)) .null .null .null ∧ A' 228 e8 = A0 228 e8 ∧ A' 229 e8 = nI u8 ∧ A' 230 e8 = nI t9 ∧ mem' 220 = .inr (0, [.ref (ad 221), .int (nI (S + t9))]) ∧ mem' 221 = .inl (cy 0, 240, .inl s9) ∧ (∀ m, m < S → s9 m = s8 m) ∧ (∀ m, m < t9 → s9 (S + m) = A' 234 (u8 + m)) ∧ S + t9 < a' ∧ u' = u8 + t9)) ∧ ∀ i, 7 ≤ i ∧ i < 220 ∧ i ≠ 20 + 2 * Ec → mem' i = mem i) (fun X mem' => ((X = cIA ∨ X = cIS) ∧ ∃ rc' ec' : Nat, RS cy ad lim rc' ec' m0 mem') ∧ ((¬ smF (hereF Z T (a + 1)) = 100 ∧ ¬ smF (hereF Z T (a + 1)) = 120) ∨ Ec = 100 ∨ ∃ ba : Int32, ((smF (hereF Z T (a + 1)) = 100 ∧ ba = 10) ∨ (smF (hereF Z T (a + 1)) = 120 ∧ ba = 16)) ∧ numsP T Z (a + 1 + 1) ba = none)) := by
  refine vx_ofW (cc := c_Rd_readValue) (maxL := 7) (ret := (some (.object "AbnfChart$Element"))) (by decide) rfl ?_
  intro p e s m args below meth c s₁ B hml hno hv
  obtain ⟨rfl, E, hP, hD⟩ := hv
  have hx := B.exec
  have hb := B.bytes
  have hr := B.returns
  have hlocks := B.notSynchronized
  have Bx : MB p s m [.ref (ad 222)].toArray c c_Rd_readValue "AbnfChart$Reader" D cy := ⟨hx, hb, tb_all (atoms_spec B.pre) E.2.1, findClass_of_methodNamed B.named, E.1⟩
  have hS : va_S (Az sz) s.heap s.heap [] := va_S.rf
  have hl := lv_entry ([.ref (ad 222)]) (n := 7) (Nat.le_of_ble_eq_true rfl)
  rw [lg_entry_eq]
  generalize (lg_sl ([.ref (ad 222)]) ++ List.replicate (7 - (lg_sl ([.ref (ad 222)])).length) Slot.unset).toArray = ls at hl ⊢
  have hl : lv_has ls 7 [(0, .ref (ad 222))] := hl
  have hZ9 := hT.2.1
  have hbd9 := hRX.1.1.1
  have hfr0 : ∀ i, 7 ≤ i ∧ i < 220 ∧ i ≠ 20 + 2 * Ec → mem i = mem i := fun _ _ => rfl
  obtain ⟨ft1, h9_2⟩ := hRX.2.1
  have h1_3 : mem 1 = .inr (0, [.ref (ad 2), .int (nI Z)]) := (hRX.1.2.2 1 (by omega)).trans hT.1
  have h2_4 : mem 2 = .inl (cy 0, 240, .inl f) := (hRX.1.2.2 2 (by omega)).trans hT.2.2
  have h5_5 := hRX.1.1.2.1
  have hbd11 := hRX.1.1.1
  obtain ⟨S6, g7, hS_8, h220_9, h221_10⟩ := hRX.1.1.2.2.2.2.2.2
  refine lv_aload_n Bx.1 Bx.2.1 d_Rd_readValue_0 rfl (lv_at hl 0 rfl) ?_
  refine f_get Bx hP (by omega) h9_2 rfl inRd 2 (by decide) kw_146 rfl rfl d_Rd_readValue_1 ?_
  refine lv_istore_n (lv' := [(1, .int (nI a)), (0, .ref (ad 222))]) Bx.1 Bx.2.1 d_Rd_readValue_4 rfl hl (by decide) rfl (fun ls hl => ?_)
  refine lv_aload_n Bx.1 Bx.2.1 d_Rd_readValue_5 rfl (lv_at hl 1 rfl) ?_
  refine lv_dup Bx.1 Bx.2.1 d_Rd_readValue_6 rfl ?_
  refine f_get Bx hP (by omega) h9_2 rfl inRd 2 (by decide) kw_146 rfl rfl d_Rd_readValue_7 ?_
  refine lv_iconst (v := 1) Bx.1 Bx.2.1 d_Rd_readValue_10 (by decide) ?_
  refine lv_iadd Bx.1 Bx.2.1 d_Rd_readValue_11 ?_
  rw [show nI a + 1 = nI (a + 1) from nI_add (a) (1)]
  refine f_put Bx hP hD hS (by omega) h9_2 rfl inRd tyRd okRd nmRd 2 (by decide) kw_146 rfl rfl rfl rfl (Nat.le_of_ble_eq_true rfl) d_Rd_readValue_12 (fun H locs hP hS => ?_)
  obtain ⟨mem12, e_mem12⟩ : ∃ z, z = va_up mem (222) (.inr (4, [.ref (ad 1), .ref (ad 5), .int (nI (a + 1)), .int (ft1)])) := ⟨_, rfl⟩
  have hP : va_P D vcl (fw n ad mem12) H := by rw [e_mem12]; exact hP
  have hD : va_D (Az sz) (fw n ad mem12) := fw_D hD
  have h_mem12 : mem12 (222) = .inr (4, [.ref (ad 1), .ref (ad 5), .int (nI (a + 1)), .int (ft1)]) := by rw [e_mem12, va_up_self]
  have hh13 := (va_up_ne mem (.inr (4, [.ref (ad 1), .ref (ad 5), .int (nI (a + 1)), .int (ft1)])) (show (1 : Nat) ≠ 222 by first | decide | assumption | omega)).trans h1_3
  rw [← e_mem12] at hh13
  have hh14 := (va_up_ne mem (.inr (4, [.ref (ad 1), .ref (ad 5), .int (nI (a + 1)), .int (ft1)])) (show (5 : Nat) ≠ 222 by first | decide | assumption | omega)).trans h5_5
  rw [← e_mem12] at hh14
  have hh15 := (va_up_ne mem (.inr (4, [.ref (ad 1), .ref (ad 5), .int (nI (a + 1)), .int (ft1)])) (show (220 : Nat) ≠ 222 by first | decide | assumption | omega)).trans h220
  rw [← e_mem12] at hh15
  have hfr16 : ∀ i, 7 ≤ i ∧ i < 220 ∧ i ≠ 20 + 2 * Ec → mem12 i = mem i := fun i q => (show mem12 i = mem i by rw [e_mem12]; exact va_up_ne _ _ (by omega)).trans (hfr0 i q)
  have h221_17 : mem12 221 = .inl (cy 0, 240, .inl (s8)) := by rw [e_mem12, va_up_ne _ _ (by omega)]; exact h221
  have hRX18 : RX cy ad lim (a + 1) (R) (Ec) (to) (nm) m0 mem12 := by rw [e_mem12]; exact hRX.at
  refine lv_aload_n Bx.1 Bx.2.1 d_Rd_readValue_15 rfl (lv_at hl 1 rfl) ?_
  refine f_callVi (na := 0) (As := []) (rest := []) Bx hml E hP hD hS (by omega) h_mem12 rfl (m_Rd_peekX l hn hT hf hRX18 (by omega)) kw_353 kw_355 sel_Rd_peek kw_6 kw_356 (by decide +kernel) ⟨rfl, rfl⟩ ⟨Nat.le_of_ble_eq_true rfl, Nat.le_of_ble_eq_true rfl⟩ rfl hl.1 (Nat.le_of_ble_eq_true rfl) d_Rd_readValue_16 ⟨Nat.le_of_ble_eq_true rfl, Nat.le_of_ble_eq_true rfl⟩ (fun r20 mem21 H locs hq hP hS => ?_)
  have hD : va_D (Az sz) (fw n ad mem21) := fw_D hD
  obtain ⟨hqe, hpk19⟩ := hq
  rw [hqe] at hP hD
  subst hpk19
  refine f_callSNi (na := 1) (As := [.int (hereF Z T (a + 1))]) (rest := []) Bx hml E.2.1 (m_Ab_smallOfX l (hereF Z T (a + 1))) kw_372 kw_373 kw_1 kw_374 (by decide +kernel) ⟨rfl, rfl⟩ ⟨Nat.le_of_ble_eq_true rfl, Nat.le_of_ble_eq_true rfl⟩ rfl hl.1 (Nat.le_of_ble_eq_true rfl) d_Rd_readValue_19 ⟨Nat.le_of_ble_eq_true rfl, Nat.le_of_ble_eq_true rfl⟩ (fun r24 hs23 => ?_)
  subst hs23
  refine lv_istore_n (lv' := [(2, .int (smF (hereF Z T (a + 1)))), (1, .int (nI a)), (0, .ref (ad 222))]) Bx.1 Bx.2.1 d_Rd_readValue_22 rfl hl (by decide) rfl (fun ls hl => ?_)
  refine lv_aload_n Bx.1 Bx.2.1 d_Rd_readValue_23 rfl (lv_at hl 2 rfl) ?_
  refine lv_iload_n Bx.1 Bx.2.1 d_Rd_readValue_24 rfl (lv_at hl 0 rfl) ?_
  refine lv_bipush (v := 100) Bx.1 Bx.2.1 d_Rd_readValue_25 (by decide) ?_
  refine lv_icmp_eq Bx.1 Bx.2.1 d_Rd_readValue_27 rfl (fun hb25 => ?_) (fun hb25 => ?_)
  · have hlt8 := hereF_lt (smF_ne (Or.inl hb25))
    rw [hb25] at hl
    refine lv_iconst (v := 1) Bx.1 Bx.2.1 d_Rd_readValue_36 (by decide) ?_
    refine lv_goto Bx.1 Bx.2.1 d_Rd_readValue_37 rfl ?_
    refine lv_aload_n Bx.1 Bx.2.1 d_Rd_readValue_41 rfl (lv_at hl 2 rfl) ?_
    refine f_get Bx hP (by omega) h_mem12 rfl inRd 2 (by decide) kw_146 rfl rfl d_Rd_readValue_42 ?_
    refine f_xVv (na := 2) (As := [.int (1), .int (nI (a + 1))]) (rest := []) Bx hml E hP hD hS (by omega) h_mem12 rfl (m_Rd_needReadableX l hlt hn hT hf hRX18 (by omega)) kw_360 kw_362 sel_Rd_needReadable kw_6 kw_363 (by decide +kernel) ⟨rfl, rfl⟩ ⟨Nat.le_of_ble_eq_true rfl, Nat.le_of_ble_eq_true rfl⟩ rfl hl.1 (Nat.le_of_ble_eq_true rfl) d_Rd_readValue_45 ⟨Nat.le_of_ble_eq_true rfl, Nat.le_of_ble_eq_true rfl⟩ (fun X ce q9 memx H locs hx9 hP hS g1 g2 g3 => f_out hlocks hno hP hS g1 g2 g3 ⟨Nat.le_of_ble_eq_true rfl, Nat.le_of_ble_eq_true rfl⟩ ⟨hx9.1, absurd hx9.2 (by decide)⟩) (fun mem27 H locs hq hP hS => ?_)
    have hD : va_D (Az sz) (fw n ad mem27) := fw_D hD
    obtain ⟨hqe, hg28⟩ := hq
    rw [hqe] at hP hD
    refine lv_aload_n Bx.1 Bx.2.1 d_Rd_readValue_48 rfl (lv_at hl 2 rfl) ?_
    refine lv_dup Bx.1 Bx.2.1 d_Rd_readValue_49 rfl ?_
    refine f_get Bx hP (by omega) h_mem12 rfl inRd 2 (by decide) kw_146 rfl rfl d_Rd_readValue_50 ?_
    refine lv_iconst (v := 1) Bx.1 Bx.2.1 d_Rd_readValue_53 (by decide) ?_
    refine lv_iadd Bx.1 Bx.2.1 d_Rd_readValue_54 ?_
    rw [show nI (a + 1) + 1 = nI (a + 1 + 1) from nI_add (a + 1) (1)]
    refine f_put Bx hP hD hS (by omega) h_mem12 rfl inRd tyRd okRd nmRd 2 (by decide) kw_146 rfl rfl rfl rfl (Nat.le_of_ble_eq_true rfl) d_Rd_readValue_55 (fun H locs hP hS => ?_)
    obtain ⟨mem29, e_mem29⟩ : ∃ z, z = va_up mem12 (222) (.inr (4, [.ref (ad 1), .ref (ad 5), .int (nI (a + 1 + 1)), .int (ft1)])) := ⟨_, rfl⟩
    have hP : va_P D vcl (fw n ad mem29) H := by rw [e_mem29]; exact hP
    have hD : va_D (Az sz) (fw n ad mem29) := fw_D hD
    have h_mem29 : mem29 (222) = .inr (4, [.ref (ad 1), .ref (ad 5), .int (nI (a + 1 + 1)), .int (ft1)]) := by rw [e_mem29, va_up_self]
    have hh30 := (va_up_ne mem12 (.inr (4, [.ref (ad 1), .ref (ad 5), .int (nI (a + 1 + 1)), .int (ft1)])) (show (1 : Nat) ≠ 222 by first | decide | assumption | omega)).trans hh13
    rw [← e_mem29] at hh30
    have hh31 := (va_up_ne mem12 (.inr (4, [.ref (ad 1), .ref (ad 5), .int (nI (a + 1 + 1)), .int (ft1)])) (show (5 : Nat) ≠ 222 by first | decide | assumption | omega)).trans hh14
    rw [← e_mem29] at hh31
    have hh32 := (va_up_ne mem12 (.inr (4, [.ref (ad 1), .ref (ad 5), .int (nI (a + 1 + 1)), .int (ft1)])) (show (220 : Nat) ≠ 222 by first | decide | assumption | omega)).trans hh15
    rw [← e_mem29] at hh32
    have hfr33 : ∀ i, 7 ≤ i ∧ i < 220 ∧ i ≠ 20 + 2 * Ec → mem29 i = mem i := fun i q => (show mem29 i = mem12 i by rw [e_mem29]; exact va_up_ne _ _ (by omega)).trans (hfr16 i q)
    have h221_34 : mem29 221 = .inl (cy 0, 240, .inl (s8)) := by rw [e_mem29, va_up_ne _ _ (by omega)]; exact h221_17
    have hRX35 : RX cy ad lim (a + 1 + 1) (R) (Ec) (to) (nm) m0 mem29 := by rw [e_mem29]; exact hRX18.at
    refine lv_iload_n Bx.1 Bx.2.1 d_Rd_readValue_58 rfl (lv_at hl 0 rfl) ?_
    refine lv_bipush (v := 100) Bx.1 Bx.2.1 d_Rd_readValue_59 (by decide) ?_
    refine lv_icmp_ne Bx.1 Bx.2.1 d_Rd_readValue_61 rfl (fun hb36 => ?_) (fun hb36 => ?_)
    · exact absurd hb36 (by decide)
    · refine lv_bipush (v := 10) Bx.1 Bx.2.1 d_Rd_readValue_64 (by decide) ?_
      refine lv_goto Bx.1 Bx.2.1 d_Rd_readValue_66 rfl ?_
      refine lv_istore_n (lv' := [(3, .int (10)), (2, .int (100)), (1, .int (nI a)), (0, .ref (ad 222))]) Bx.1 Bx.2.1 d_Rd_readValue_71 rfl hl (by decide) rfl (fun ls hl => ?_)
      refine lv_aload_n Bx.1 Bx.2.1 d_Rd_readValue_72 rfl (lv_at hl 3 rfl) ?_
      refine lv_bipush (v := 7) Bx.1 Bx.2.1 d_Rd_readValue_73 (by decide) ?_
      refine lv_iload_n Bx.1 Bx.2.1 d_Rd_readValue_75 rfl (lv_at hl 2 rfl) ?_
      refine f_xVr (na := 2) (As := [.int (7), .int (nI a)]) (rest := []) Bx hml E hP hD hS (by omega) h_mem29 rfl (m_Rd_addElementY l hlt hn hT hf hRX35 (by omega)) kw_419 kw_421 sel_Rd_addElement kw_6 kw_422 (by decide +kernel) ⟨rfl, rfl⟩ ⟨Nat.le_of_ble_eq_true rfl, Nat.le_of_ble_eq_true rfl⟩ rfl hl.1 (Nat.le_of_ble_eq_true rfl) d_Rd_readValue_76 ⟨Nat.le_of_ble_eq_true rfl, Nat.le_of_ble_eq_true rfl⟩ (fun X ce q9 memx H locs hx9 hP hS g1 g2 g3 => f_out hlocks hno hP hS g1 g2 g3 ⟨Nat.le_of_ble_eq_true rfl, Nat.le_of_ble_eq_true rfl⟩ ⟨hx9.1, Or.inr (Or.inl hx9.2)⟩) (fun r37 mem38 H locs hq hP hS => ?_)
      have hD : va_D (Az sz) (fw n ad mem38) := fw_D hD
      obtain ⟨hr939, hec40, hRX41, hcl42, hfa43⟩ := hq
      subst hr939
      have h220_44 := (hfa43 220 (by omega)).trans hh32
      have h221_45 := (hfa43 221 (by omega)).trans h221_34
      have hfr46 : ∀ i, 7 ≤ i ∧ i < 220 ∧ i ≠ 20 + 2 * Ec → mem38 i = mem i := fun i q => (hfa43 i (by omega)).trans (hfr33 i q)
      obtain ⟨ft47, h9_48⟩ := hRX41.2.1
      have h1_49 : mem38 1 = .inr (0, [.ref (ad 2), .int (nI Z)]) := (hRX41.1.2.2 1 (by omega)).trans hT.1
      have h2_50 : mem38 2 = .inl (cy 0, 240, .inl f) := (hRX41.1.2.2 2 (by omega)).trans hT.2.2
      have h5_51 := hRX41.1.1.2.1
      have hbd57 := hRX41.1.1.1
      obtain ⟨S52, g53, hS_54, h220_55, h221_56⟩ := hRX41.1.1.2.2.2.2.2.2
      obtain ⟨ft58, h9_59⟩ := hRX41.2.1
      have h1_60 : mem38 1 = .inr (0, [.ref (ad 2), .int (nI Z)]) := (hRX41.1.2.2 1 (by omega)).trans hT.1
      have h2_61 : mem38 2 = .inl (cy 0, 240, .inl f) := (hRX41.1.2.2 2 (by omega)).trans hT.2.2
      have h5_62 := hRX41.1.1.2.1
      have hbd68 := hRX41.1.1.1
      obtain ⟨S63, g64, hS_65, h220_66, h221_67⟩ := hRX41.1.1.2.2.2.2.2.2
      refine lv_astore (lv' := [(4, .ref (ad (20 + 2 * Ec))), (3, .int (10)), (2, .int (100)), (1, .int (nI a)), (0, .ref (ad 222))]) Bx.1 Bx.2.1 d_Rd_readValue_79 hl (by decide) rfl (fun ls hl => ?_)
      refine lv_aload_n Bx.1 Bx.2.1 d_Rd_readValue_81 rfl (lv_at hl 4 rfl) ?_
      refine lv_iload_n Bx.1 Bx.2.1 d_Rd_readValue_82 rfl (lv_at hl 3 rfl) ?_
      refine lv_iload_n Bx.1 Bx.2.1 d_Rd_readValue_83 rfl (lv_at hl 1 rfl) ?_
      refine f_xVi (na := 2) (As := [.int (nI a), .int (10)]) (rest := []) Bx hml E hP hD hS (by omega) h9_59 rfl (m_Rd_readNumberX l hlt hn hT hf hRX41 (by omega) (by omega)) kw_471 kw_473 sel_Rd_readNumber kw_6 kw_474 (by decide +kernel) ⟨rfl, rfl⟩ ⟨Nat.le_of_ble_eq_true rfl, Nat.le_of_ble_eq_true rfl⟩ rfl hl.1 (Nat.le_of_ble_eq_true rfl) d_Rd_readValue_84 ⟨Nat.le_of_ble_eq_true rfl, Nat.le_of_ble_eq_true rfl⟩ (fun X ce q9 memx H locs hx9 hP hS g1 g2 g3 => f_out hlocks hno hP hS g1 g2 g3 ⟨Nat.le_of_ble_eq_true rfl, Nat.le_of_ble_eq_true rfl⟩ ⟨hx9.1, Or.inr (Or.inr ⟨10, Or.inl ⟨hb25, rfl⟩, numsP_n1 hx9.2⟩)⟩) (fun r69 mem70 H locs hq hP hS => ?_)
      have hD : va_D (Az sz) (fw n ad mem70) := fw_D hD
      obtain ⟨a71, hns72, hg73, hg74, hRX75, hfa76⟩ := hq
      have hel77 := (hfa76 (20 + 2 * Ec) (by omega)).trans hcl42
      have h220_78 := (hfa76 220 (by omega)).trans h220_44
      have h221_79 := (hfa76 221 (by omega)).trans h221_45
      have hfr80 : ∀ i, 7 ≤ i ∧ i < 220 ∧ i ≠ 20 + 2 * Ec → mem70 i = mem i := fun i q => (hfa76 i (by omega)).trans (hfr46 i q)
      obtain ⟨ft81, h9_82⟩ := hRX75.2.1
      have h1_83 : mem70 1 = .inr (0, [.ref (ad 2), .int (nI Z)]) := (hRX75.1.2.2 1 (by omega)).trans hT.1
      have h2_84 : mem70 2 = .inl (cy 0, 240, .inl f) := (hRX75.1.2.2 2 (by omega)).trans hT.2.2
      have h5_85 := hRX75.1.1.2.1
      have hbd91 := hRX75.1.1.1
      obtain ⟨S86, g87, hS_88, h220_89, h221_90⟩ := hRX75.1.1.2.2.2.2.2.2
      refine lv_istore (lv' := [(5, .int (r69)), (4, .ref (ad (20 + 2 * Ec))), (3, .int (10)), (2, .int (100)), (1, .int (nI a)), (0, .ref (ad 222))]) Bx.1 Bx.2.1 d_Rd_readValue_87 hl (by decide) rfl (fun ls hl => ?_)
      refine lv_aload_n Bx.1 Bx.2.1 d_Rd_readValue_89 rfl (lv_at hl 5 rfl) ?_
      refine f_callVi (na := 0) (As := []) (rest := []) Bx hml E hP hD hS (by omega) h9_82 rfl (m_Rd_peekX l hn hT hf hRX75 (by omega)) kw_353 kw_355 sel_Rd_peek kw_6 kw_356 (by decide +kernel) ⟨rfl, rfl⟩ ⟨Nat.le_of_ble_eq_true rfl, Nat.le_of_ble_eq_true rfl⟩ rfl hl.1 (Nat.le_of_ble_eq_true rfl) d_Rd_readValue_90 ⟨Nat.le_of_ble_eq_true rfl, Nat.le_of_ble_eq_true rfl⟩ (fun r93 mem94 H locs hq hP hS => ?_)
      have hD : va_D (Az sz) (fw n ad mem94) := fw_D hD
      obtain ⟨hqe, hpk92⟩ := hq
      rw [hqe] at hP hD
      subst hpk92
      refine lv_bipush (v := 45) Bx.1 Bx.2.1 d_Rd_readValue_93 (by decide) ?_
      refine lv_icmp_ne Bx.1 Bx.2.1 d_Rd_readValue_95 rfl (fun hb96 => ?_) (fun hb96 => ?_)
      · refine lv_aload Bx.1 Bx.2.1 d_Rd_readValue_152 (lv_at hl 1 rfl) ?_
        refine lv_bipush (v := 6) Bx.1 Bx.2.1 d_Rd_readValue_154 (by decide) ?_
        refine f_putN Bx hP hD hS (by omega) hel77 rfl inEl tyEl okEl nmEl 0 (by decide) kw_76 rfl rfl rfl rfl (Nat.le_of_ble_eq_true rfl) d_Rd_readValue_156 (fun H locs hP hS => ?_)
        obtain ⟨mem97, e_mem97⟩ : ∃ z, z = va_up mem70 ((20 + 2 * Ec)) (.inr (2, [.int (6), .int (0), .int (0), .null, .null, .null, .ref (ad (21 + 2 * Ec))])) := ⟨_, rfl⟩
        have hP : va_P D vcl (fw n ad mem97) H := by rw [e_mem97]; exact hP
        have hD : va_D (Az sz) (fw n ad mem97) := fw_D hD
        have h_mem97 : mem97 ((20 + 2 * Ec)) = .inr (2, [.int (6), .int (0), .int (0), .null, .null, .null, .ref (ad (21 + 2 * Ec))]) := by rw [e_mem97, va_up_self]
        have hh98 := (va_up_ne mem70 (.inr (2, [.int (6), .int (0), .int (0), .null, .null, .null, .ref (ad (21 + 2 * Ec))])) (show (222 : Nat) ≠ (20 + 2 * Ec) by first | decide | assumption | omega)).trans h9_82
        rw [← e_mem97] at hh98
        have hh99 := (va_up_ne mem70 (.inr (2, [.int (6), .int (0), .int (0), .null, .null, .null, .ref (ad (21 + 2 * Ec))])) (show (1 : Nat) ≠ (20 + 2 * Ec) by first | decide | assumption | omega)).trans h1_83
        rw [← e_mem97] at hh99
        have hh100 := (va_up_ne mem70 (.inr (2, [.int (6), .int (0), .int (0), .null, .null, .null, .ref (ad (21 + 2 * Ec))])) (show (5 : Nat) ≠ (20 + 2 * Ec) by first | decide | assumption | omega)).trans h5_85
        rw [← e_mem97] at hh100
        have hh101 := (va_up_ne mem70 (.inr (2, [.int (6), .int (0), .int (0), .null, .null, .null, .ref (ad (21 + 2 * Ec))])) (show (220 : Nat) ≠ (20 + 2 * Ec) by first | decide | assumption | omega)).trans h220_78
        rw [← e_mem97] at hh101
        have hfr102 : ∀ i, 7 ≤ i ∧ i < 220 ∧ i ≠ 20 + 2 * Ec → mem97 i = mem i := fun i q => (show mem97 i = mem70 i by rw [e_mem97]; exact va_up_ne _ _ (by omega)).trans (hfr80 i q)
        have h221_103 : mem97 221 = .inl (cy 0, 240, .inl (s8)) := by rw [e_mem97, va_up_ne _ _ (by omega)]; exact h221_79
        have hRX104 : RX cy ad lim (a71) (R) (Ec + 1) (to) (nm) m0 mem97 := by rw [e_mem97]; exact hRX75.el (by omega) (hRX75.1.mk (by omega) (hRX75.1.1.upEl (by omega) (fun _ => ⟨Or.inl rfl, Or.inl rfl, Or.inl rfl⟩)))
        refine lv_aload Bx.1 Bx.2.1 d_Rd_readValue_159 (lv_at hl 1 rfl) ?_
        refine lv_aload_n Bx.1 Bx.2.1 d_Rd_readValue_161 rfl (lv_at hl 5 rfl) ?_
        refine f_get Bx hP (by omega) hh98 rfl inRd 1 (by decide) kw_145 rfl rfl d_Rd_readValue_162 ?_
        refine f_getN Bx hP (by omega) hh100 rfl inGr 2 (by decide) kw_120 rfl rfl d_Rd_readValue_165 ?_
        refine f_getN Bx hP (by omega) hh101 rfl inCh 1 (by decide) kw_33 rfl rfl d_Rd_readValue_168 ?_
        refine f_putN Bx hP hD hS (by omega) h_mem97 rfl inEl tyEl okEl nmEl 1 (by decide) kw_79 rfl rfl rfl rfl (Nat.le_of_ble_eq_true rfl) d_Rd_readValue_171 (fun H locs hP hS => ?_)
        obtain ⟨mem105, e_mem105⟩ : ∃ z, z = va_up mem97 ((20 + 2 * Ec)) (.inr (2, [.int (6), .int (nI S), .int (0), .null, .null, .null, .ref (ad (21 + 2 * Ec))])) := ⟨_, rfl⟩
        have hP : va_P D vcl (fw n ad mem105) H := by rw [e_mem105]; exact hP
        have hD : va_D (Az sz) (fw n ad mem105) := fw_D hD
        have h_mem105 : mem105 ((20 + 2 * Ec)) = .inr (2, [.int (6), .int (nI S), .int (0), .null, .null, .null, .ref (ad (21 + 2 * Ec))]) := by rw [e_mem105, va_up_self]
        have hh106 := (va_up_ne mem97 (.inr (2, [.int (6), .int (nI S), .int (0), .null, .null, .null, .ref (ad (21 + 2 * Ec))])) (show (222 : Nat) ≠ (20 + 2 * Ec) by first | decide | assumption | omega)).trans hh98
        rw [← e_mem105] at hh106
        have hh107 := (va_up_ne mem97 (.inr (2, [.int (6), .int (nI S), .int (0), .null, .null, .null, .ref (ad (21 + 2 * Ec))])) (show (1 : Nat) ≠ (20 + 2 * Ec) by first | decide | assumption | omega)).trans hh99
        rw [← e_mem105] at hh107
        have hh108 := (va_up_ne mem97 (.inr (2, [.int (6), .int (nI S), .int (0), .null, .null, .null, .ref (ad (21 + 2 * Ec))])) (show (5 : Nat) ≠ (20 + 2 * Ec) by first | decide | assumption | omega)).trans hh100
        rw [← e_mem105] at hh108
        have hh109 := (va_up_ne mem97 (.inr (2, [.int (6), .int (nI S), .int (0), .null, .null, .null, .ref (ad (21 + 2 * Ec))])) (show (220 : Nat) ≠ (20 + 2 * Ec) by first | decide | assumption | omega)).trans hh101
        rw [← e_mem105] at hh109
        have hfr110 : ∀ i, 7 ≤ i ∧ i < 220 ∧ i ≠ 20 + 2 * Ec → mem105 i = mem i := fun i q => (show mem105 i = mem97 i by rw [e_mem105]; exact va_up_ne _ _ (by omega)).trans (hfr102 i q)
        have h221_111 : mem105 221 = .inl (cy 0, 240, .inl (s8)) := by rw [e_mem105, va_up_ne _ _ (by omega)]; exact h221_103
        have hRX112 : RX cy ad lim (a71) (R) (Ec + 1) (to) (nm) m0 mem105 := by rw [e_mem105]; exact hRX104.el (by omega) (hRX104.1.mk (by omega) (hRX104.1.1.upEl (by omega) (fun _ => ⟨Or.inl rfl, Or.inl rfl, Or.inl rfl⟩)))
        refine lv_aload_n Bx.1 Bx.2.1 d_Rd_readValue_174 rfl (lv_at hl 5 rfl) ?_
        refine f_get Bx hP (by omega) hh106 rfl inRd 1 (by decide) kw_145 rfl rfl d_Rd_readValue_175 ?_
        refine f_getN Bx hP (by omega) hh108 rfl inGr 2 (by decide) kw_120 rfl rfl d_Rd_readValue_178 ?_
        refine lv_iload Bx.1 Bx.2.1 d_Rd_readValue_181 (lv_at hl 0 rfl) ?_
        refine f_callVv (na := 1) (As := [.int (r69)]) (rest := []) Bx hml E hP hD hS (by omega) hh109 rfl (m_Ch_appendY l hn hT hf hRX112 (by omega) hh109 h221_111 (by omega)) kw_462 kw_318 kw_319 kw_2 kw_320 (by decide +kernel) ⟨rfl, rfl⟩ ⟨Nat.le_of_ble_eq_true rfl, Nat.le_of_ble_eq_true rfl⟩ rfl hl.1 (Nat.le_of_ble_eq_true rfl) d_Rd_readValue_183 ⟨Nat.le_of_ble_eq_true rfl, Nat.le_of_ble_eq_true rfl⟩ (fun mem114 H locs hq hP hS => ?_)
        have hD : va_D (Az sz) (fw n ad mem114) := fw_D hD
        obtain ⟨hRX115, h220_116, h221_117, hfa118⟩ := hq
        rw [charN (numS_r (Or.inl rfl) hns72).1 (numS_r (Or.inl rfl) hns72).2] at h221_117
        obtain ⟨st119, est119⟩ : ∃ z, z = upd (s8) (S) (r69) := ⟨_, rfl⟩
        rw [← est119] at h221_117
        have hel120 := (hfa118 (20 + 2 * Ec) (by omega)).trans h_mem105
        have hfr121 : ∀ i, 7 ≤ i ∧ i < 220 ∧ i ≠ 20 + 2 * Ec → mem114 i = mem i := fun i q => (hfa118 i (by omega)).trans (hfr110 i q)
        obtain ⟨ft122, h9_123⟩ := hRX115.2.1
        have h1_124 : mem114 1 = .inr (0, [.ref (ad 2), .int (nI Z)]) := (hRX115.1.2.2 1 (by omega)).trans hT.1
        have h2_125 : mem114 2 = .inl (cy 0, 240, .inl f) := (hRX115.1.2.2 2 (by omega)).trans hT.2.2
        have h5_126 := hRX115.1.1.2.1
        have hbd132 := hRX115.1.1.1
        obtain ⟨S127, g128, hS_129, h220_130, h221_131⟩ := hRX115.1.1.2.2.2.2.2.2
        refine lv_iconst (v := 0) Bx.1 Bx.2.1 d_Rd_readValue_186 (by decide) ?_
        refine lv_istore (lv' := [(6, .int (0)), (5, .int (r69)), (4, .ref (ad (20 + 2 * Ec))), (3, .int (10)), (2, .int (100)), (1, .int (nI a)), (0, .ref (ad 222))]) Bx.1 Bx.2.1 d_Rd_readValue_187 hl (by decide) rfl (fun ls hl => ?_)
        have hec9 := hec40
        obtain ⟨A1, eA1⟩ : ∃ z, z = va_up (va_up (va_up A0 229 (upd (A0 229) e8 (nI u8))) 230 (upd (A0 230) e8 1)) 234 (upd (A0 234) u8 r69) := ⟨_, rfl⟩
        have hfu0 : furS T Z 10 e8 3 a71 (u8 + 1) A1 = numsS T Z (a + 1 + 1) u8 e8 10 A0 := by rw [eA1]; exact (numsS_fu hns72 hb96).symm
        have hsp0 : (∀ j, j ≠ 229 → j ≠ 230 → j ≠ 234 → A1 j = A0 j) ∧ (∀ i, i ≠ e8 → A1 229 i = A0 229 i ∧ A1 230 i = A0 230 i) ∧ A1 229 e8 = nI u8 ∧ A1 230 e8 = nI (1 + 0) ∧ (∀ m, m < u8 → A1 234 m = A0 234 m) ∧ ∀ m, m < 1 + 0 → st119 (S + m) = A1 234 (u8 + m) := by
          rw [eA1]
          refine ⟨fun j q9 q0 q4 => by rw [va_up_ne _ _ q4, va_up_ne _ _ q0, va_up_ne _ _ q9], fun i hi => ⟨by show upd _ e8 _ i = _; rw [upd_ne hi], by show upd _ e8 _ i = _; rw [upd_ne hi]⟩, by show upd _ e8 _ e8 = _; rw [upd_self], by show upd _ e8 _ e8 = _; rw [upd_self]; rfl, fun m hm => by show upd _ u8 _ m = _; rw [upd_ne (by omega)], fun m hm => ?_⟩
          obtain rfl : m = 0 := by omega
          show st119 (S + 0) = upd _ u8 _ (u8 + 0)
          rw [est119, Nat.add_zero, Nat.add_zero, upd_self, upd_self]
        have loop133 : ∀ (d134 : Nat) (mem9 : Nat → va_E) (a1 : Nat) (k : Nat) (s9 : Nat → Int32) (A9 : Ro) (ls : Array Slot) (H : Heap) (locs : List Loc), (3 - k < d134) → (RX cy ad lim a1 R (Ec + 1) to nm m0 mem9) → (a < a1 ∧ a1 ≤ Z ∧ k ≤ 3 ∧ S + (1 + k) < a1) → (furP T Z 10 (3 - k) a1 = furP T Z 10 3 a71) → (mem9 (20 + 2 * Ec) = eCl ad Ec 6 (nI S) 0 .null .null .null) → (mem9 220 = .inr (0, [.ref (ad 221), .int (nI (S + (1 + k)))]) ∧ mem9 221 = .inl (cy 0, 240, .inl s9) ∧ ∀ m, m < S → s9 m = s8 m) → (furS T Z 10 e8 (3 - k) a1 (u8 + (1 + k)) A9 = numsS T Z (a + 1 + 1) u8 e8 10 A0) → ((∀ j, j ≠ 229 → j ≠ 230 → j ≠ 234 → A9 j = A0 j) ∧ (∀ i, i ≠ e8 → A9 229 i = A0 229 i ∧ A9 230 i = A0 230 i) ∧ A9 229 e8 = nI u8 ∧ A9 230 e8 = nI (1 + k) ∧ (∀ m, m < u8 → A9 234 m = A0 234 m) ∧ ∀ m, m < 1 + k → s9 (S + m) = A9 234 (u8 + m)) → (∀ i, 7 ≤ i ∧ i < 220 ∧ i ≠ 20 + 2 * Ec → mem9 i = mem i) → (va_P D vcl (fw n ad mem9) H) → (va_D (Az sz) (fw n ad mem9)) → (va_S (Az sz) s.heap H locs) → (lv_has ls 7 [(6, .int (nI k)), (4, .ref (ad (20 + 2 * Ec))), (3, .int (10)), (1, .int (nI a)), (0, .ref (ad 222))]) → W p l e (headSpec (Cond.code y_Rd_readValue c_Rd_readValue 7 (some (.object "AbnfChart$Element")) :: tg) ({ frames := 12, cells := 1, slots := 6, locals := 280 } : Room)).room s m [.ref (ad 222)].toArray below meth c H locs 0 0 (vx_MQ below (QX (QR (fun r mem' => Ec < 100 ∧ ∃ (ba : Int32) (a' u' : Nat) (A' : Ro), ((smF (hereF Z T (a + 1)) = 100 ∧ ba = 10) ∨ (smF (hereF Z T (a + 1)) = 120 ∧ ba = 16)) ∧ numsS T Z (a + 1 + 1) u8 e8 ba A0 = some (a', u', A') ∧ r = ad (20 + 2 * Ec) ∧ a < a' ∧ a' ≤ Z ∧ RX cy ad lim a' R (Ec + 1) to nm m0 mem' ∧ SPn e8 u8 A0 A' ∧ ((∃ v w : Int32, mem' (20 + 2 * Ec) = eCl ad Ec 7 v w .null .null .null ∧ A' 228 e8 = 5 ∧ A' 229 e8 = v ∧ A' 230 e8 = w ∧ mem' 220 = .inr (0, [.ref (ad 221), .int (nI S)]) ∧ mem' 221 = .inl (cy 0, 240, .inl s8) ∧ u' = u8 + 1) ∨ (∃ (t9 : Nat) (s9 : Nat → Int32), mem' (20 + 2 * Ec) = eCl ad Ec 6 (nI S) (nI (S + t9)) .null .null .null ∧ A' 228 e8 = A0 228 e8 ∧ A' 229 e8 = nI u8 ∧ A' 230 e8 = nI t9 ∧ mem' 220 = .inr (0, [.ref (ad 221), .int (nI (S + t9))]) ∧ mem' 221 = .inl (cy 0, 240, .inl s9) ∧ (∀ m, m < S → s9 m = s8 m) ∧ (∀ m, m < t9 → s9 (S + m) = A' 234 (u8 + m)) ∧ S + t9 < a' ∧ u' = u8 + t9)) ∧ ∀ i, 7 ≤ i ∧ i < 220 ∧ i ≠ 20 + 2 * Ec → mem' i = mem i) (PP D n ad) (Az sz))) (XQ D sz n ad (fun X mem' => ((X = cIA ∨ X = cIS) ∧ ∃ rc' ec' : Nat, RS cy ad lim rc' ec' m0 mem') ∧ ((¬ smF (hereF Z T (a + 1)) = 100 ∧ ¬ smF (hereF Z T (a + 1)) = 120) ∨ Ec = 100 ∨ ∃ ba : Int32, ((smF (hereF Z T (a + 1)) = 100 ∧ ba = 10) ∨ (smF (hereF Z T (a + 1)) = 120 ∧ ba = 16)) ∧ numsP T Z (a + 1 + 1) ba = none))) [.ref (ad 222)].toArray s 1 6 (Az sz)) (F0 m 189 ls []) := by
          intro d134
          induction d134 with
          | zero => intro mem9 a1 k s9 A9 ls H locs hmeas144; exact absurd hmeas144 (Nat.not_lt_zero _)
          | succ d134 ih143 =>
            intro mem9 a1 k s9 A9 ls H locs hmeas144 hz135 hz136 hz137 hz138 hz139 hz140 hz141 hz142 hP hD hS hl
            have hbd8 := hz136
            obtain ⟨h2209, h2219, hs1⟩ := hz139
            obtain ⟨r1, r2, r3, r4, r5, r6⟩ := hz141
            obtain ⟨ft145, h9_146⟩ := hz135.2.1
            have h1_147 : mem9 1 = .inr (0, [.ref (ad 2), .int (nI Z)]) := (hz135.1.2.2 1 (by omega)).trans hT.1
            have h2_148 : mem9 2 = .inl (cy 0, 240, .inl f) := (hz135.1.2.2 2 (by omega)).trans hT.2.2
            have h5_149 := hz135.1.1.2.1
            have hbd155 := hz135.1.1.1
            obtain ⟨S150, g151, hS_152, h220_153, h221_154⟩ := hz135.1.1.2.2.2.2.2.2
            refine lv_iload Bx.1 Bx.2.1 d_Rd_readValue_189 (lv_at hl 0 rfl) ?_
            refine lv_iconst (v := 3) Bx.1 Bx.2.1 d_Rd_readValue_191 (by decide) ?_
            refine lv_icmp_ge Bx.1 Bx.2.1 d_Rd_readValue_192 rfl (fun hb156 => ?_) (fun hb156 => ?_)
            · have hN157 : 3 ≤ k := (nI_leI (by omega) (by omega)).mp (show nI (3) ≤ nI (k) from hb156)
              have hns9 : numsS T Z (a + 1 + 1) u8 e8 10 A0 = some (a1, u8 + (1 + k), A9) := by rw [← hz140]; exact by rw [show 3 - k = 0 by omega]; rfl
              refine lv_aload Bx.1 Bx.2.1 d_Rd_readValue_236 (lv_at hl 1 rfl) ?_
              refine lv_aload_n Bx.1 Bx.2.1 d_Rd_readValue_238 rfl (lv_at hl 4 rfl) ?_
              refine f_get Bx hP (by omega) h9_146 rfl inRd 1 (by decide) kw_145 rfl rfl d_Rd_readValue_239 ?_
              refine f_getN Bx hP (by omega) h5_149 rfl inGr 2 (by decide) kw_120 rfl rfl d_Rd_readValue_242 ?_
              refine f_getN Bx hP (by omega) h2209 rfl inCh 1 (by decide) kw_33 rfl rfl d_Rd_readValue_245 ?_
              refine f_putN Bx hP hD hS (by omega) hz138 rfl inEl tyEl okEl nmEl 2 (by decide) kw_82 rfl rfl rfl rfl (Nat.le_of_ble_eq_true rfl) d_Rd_readValue_248 (fun H locs hP hS => ?_)
              obtain ⟨mem158, e_mem158⟩ : ∃ z, z = va_up mem9 ((20 + 2 * Ec)) (.inr (2, [.int (6), .int (nI S), .int (nI (S + (1 + k))), .null, .null, .null, .ref (ad (21 + 2 * Ec))])) := ⟨_, rfl⟩
              have hP : va_P D vcl (fw n ad mem158) H := by rw [e_mem158]; exact hP
              have hD : va_D (Az sz) (fw n ad mem158) := fw_D hD
              have h_mem158 : mem158 ((20 + 2 * Ec)) = .inr (2, [.int (6), .int (nI S), .int (nI (S + (1 + k))), .null, .null, .null, .ref (ad (21 + 2 * Ec))]) := by rw [e_mem158, va_up_self]
              have hh159 := (va_up_ne mem9 (.inr (2, [.int (6), .int (nI S), .int (nI (S + (1 + k))), .null, .null, .null, .ref (ad (21 + 2 * Ec))])) (show (222 : Nat) ≠ (20 + 2 * Ec) by first | decide | assumption | omega)).trans h9_146
              rw [← e_mem158] at hh159
              have hh160 := (va_up_ne mem9 (.inr (2, [.int (6), .int (nI S), .int (nI (S + (1 + k))), .null, .null, .null, .ref (ad (21 + 2 * Ec))])) (show (1 : Nat) ≠ (20 + 2 * Ec) by first | decide | assumption | omega)).trans h1_147
              rw [← e_mem158] at hh160
              have hh161 := (va_up_ne mem9 (.inr (2, [.int (6), .int (nI S), .int (nI (S + (1 + k))), .null, .null, .null, .ref (ad (21 + 2 * Ec))])) (show (5 : Nat) ≠ (20 + 2 * Ec) by first | decide | assumption | omega)).trans h5_149
              rw [← e_mem158] at hh161
              have hh162 := (va_up_ne mem9 (.inr (2, [.int (6), .int (nI S), .int (nI (S + (1 + k))), .null, .null, .null, .ref (ad (21 + 2 * Ec))])) (show (220 : Nat) ≠ (20 + 2 * Ec) by first | decide | assumption | omega)).trans h2209
              rw [← e_mem158] at hh162
              have hfr163 : ∀ i, 7 ≤ i ∧ i < 220 ∧ i ≠ 20 + 2 * Ec → mem158 i = mem i := fun i q => (show mem158 i = mem9 i by rw [e_mem158]; exact va_up_ne _ _ (by omega)).trans (hz142 i q)
              have h221_164 : mem158 221 = .inl (cy 0, 240, .inl (s9)) := by rw [e_mem158, va_up_ne _ _ (by omega)]; exact h2219
              have hRX165 : RX cy ad lim (a1) (R) (Ec + 1) (to) (nm) m0 mem158 := by rw [e_mem158]; exact hz135.el (by omega) (hz135.1.mk (by omega) (hz135.1.1.upEl (by omega) (fun _ => ⟨Or.inl rfl, Or.inl rfl, Or.inl rfl⟩)))
              refine lv_aload Bx.1 Bx.2.1 d_Rd_readValue_251 (lv_at hl 1 rfl) ?_
              exact x_aret hx hb hlocks hr (⟨by omega, 10, a1, u8 + (1 + k), A9, Or.inl ⟨hb25, rfl⟩, hns9, rfl, by omega, by omega, hRX165, ⟨fun j q1 q2 q3 q4 => r1 j q2 q3 q4, fun k hk => ⟨by rw [r1 228 (by decide) (by decide) (by decide)], (r2 k hk).1, (r2 k hk).2⟩, r5⟩, Or.inr ⟨1 + k, s9, h_mem158, by rw [r1 228 (by decide) (by decide) (by decide)], r3, r4, hh162, h221_164, hs1, r6, by omega, rfl⟩, hfr163⟩) hP hS d_Rd_readValue_253
            · have hN166 : ¬ 3 ≤ k := fun q9 => hb156 (show nI (3) ≤ nI (k) from (nI_leI (by omega) (by omega)).mpr q9)
              refine lv_aload_n Bx.1 Bx.2.1 d_Rd_readValue_195 rfl (lv_at hl 4 rfl) ?_
              refine f_callVi (na := 0) (As := []) (rest := []) Bx hml E hP hD hS (by omega) h9_146 rfl (m_Rd_peekX l hn hT hf hz135 (by omega)) kw_353 kw_355 sel_Rd_peek kw_6 kw_356 (by decide +kernel) ⟨rfl, rfl⟩ ⟨Nat.le_of_ble_eq_true rfl, Nat.le_of_ble_eq_true rfl⟩ rfl hl.1 (Nat.le_of_ble_eq_true rfl) d_Rd_readValue_196 ⟨Nat.le_of_ble_eq_true rfl, Nat.le_of_ble_eq_true rfl⟩ (fun r168 mem169 H locs hq hP hS => ?_)
              have hD : va_D (Az sz) (fw n ad mem169) := fw_D hD
              obtain ⟨hqe, hpk167⟩ := hq
              rw [hqe] at hP hD
              subst hpk167
              refine lv_bipush (v := 46) Bx.1 Bx.2.1 d_Rd_readValue_199 (by decide) ?_
              refine lv_icmp_ne Bx.1 Bx.2.1 d_Rd_readValue_201 rfl (fun hb171 => ?_) (fun hb171 => ?_)
              · have hns9 : numsS T Z (a + 1 + 1) u8 e8 10 A0 = some (a1, u8 + (1 + k), A9) := by rw [← hz140]; exact furS_no hb171
                refine lv_aload Bx.1 Bx.2.1 d_Rd_readValue_236 (lv_at hl 1 rfl) ?_
                refine lv_aload_n Bx.1 Bx.2.1 d_Rd_readValue_238 rfl (lv_at hl 4 rfl) ?_
                refine f_get Bx hP (by omega) h9_146 rfl inRd 1 (by decide) kw_145 rfl rfl d_Rd_readValue_239 ?_
                refine f_getN Bx hP (by omega) h5_149 rfl inGr 2 (by decide) kw_120 rfl rfl d_Rd_readValue_242 ?_
                refine f_getN Bx hP (by omega) h2209 rfl inCh 1 (by decide) kw_33 rfl rfl d_Rd_readValue_245 ?_
                refine f_putN Bx hP hD hS (by omega) hz138 rfl inEl tyEl okEl nmEl 2 (by decide) kw_82 rfl rfl rfl rfl (Nat.le_of_ble_eq_true rfl) d_Rd_readValue_248 (fun H locs hP hS => ?_)
                obtain ⟨mem172, e_mem172⟩ : ∃ z, z = va_up mem9 ((20 + 2 * Ec)) (.inr (2, [.int (6), .int (nI S), .int (nI (S + (1 + k))), .null, .null, .null, .ref (ad (21 + 2 * Ec))])) := ⟨_, rfl⟩
                have hP : va_P D vcl (fw n ad mem172) H := by rw [e_mem172]; exact hP
                have hD : va_D (Az sz) (fw n ad mem172) := fw_D hD
                have h_mem172 : mem172 ((20 + 2 * Ec)) = .inr (2, [.int (6), .int (nI S), .int (nI (S + (1 + k))), .null, .null, .null, .ref (ad (21 + 2 * Ec))]) := by rw [e_mem172, va_up_self]
                have hh173 := (va_up_ne mem9 (.inr (2, [.int (6), .int (nI S), .int (nI (S + (1 + k))), .null, .null, .null, .ref (ad (21 + 2 * Ec))])) (show (222 : Nat) ≠ (20 + 2 * Ec) by first | decide | assumption | omega)).trans h9_146
                rw [← e_mem172] at hh173
                have hh174 := (va_up_ne mem9 (.inr (2, [.int (6), .int (nI S), .int (nI (S + (1 + k))), .null, .null, .null, .ref (ad (21 + 2 * Ec))])) (show (1 : Nat) ≠ (20 + 2 * Ec) by first | decide | assumption | omega)).trans h1_147
                rw [← e_mem172] at hh174
                have hh175 := (va_up_ne mem9 (.inr (2, [.int (6), .int (nI S), .int (nI (S + (1 + k))), .null, .null, .null, .ref (ad (21 + 2 * Ec))])) (show (5 : Nat) ≠ (20 + 2 * Ec) by first | decide | assumption | omega)).trans h5_149
                rw [← e_mem172] at hh175
                have hh176 := (va_up_ne mem9 (.inr (2, [.int (6), .int (nI S), .int (nI (S + (1 + k))), .null, .null, .null, .ref (ad (21 + 2 * Ec))])) (show (220 : Nat) ≠ (20 + 2 * Ec) by first | decide | assumption | omega)).trans h2209
                rw [← e_mem172] at hh176
                have hfr177 : ∀ i, 7 ≤ i ∧ i < 220 ∧ i ≠ 20 + 2 * Ec → mem172 i = mem i := fun i q => (show mem172 i = mem9 i by rw [e_mem172]; exact va_up_ne _ _ (by omega)).trans (hz142 i q)
                have h221_178 : mem172 221 = .inl (cy 0, 240, .inl (s9)) := by rw [e_mem172, va_up_ne _ _ (by omega)]; exact h2219
                have hRX179 : RX cy ad lim (a1) (R) (Ec + 1) (to) (nm) m0 mem172 := by rw [e_mem172]; exact hz135.el (by omega) (hz135.1.mk (by omega) (hz135.1.1.upEl (by omega) (fun _ => ⟨Or.inl rfl, Or.inl rfl, Or.inl rfl⟩)))
                refine lv_aload Bx.1 Bx.2.1 d_Rd_readValue_251 (lv_at hl 1 rfl) ?_
                exact x_aret hx hb hlocks hr (⟨by omega, 10, a1, u8 + (1 + k), A9, Or.inl ⟨hb25, rfl⟩, hns9, rfl, by omega, by omega, hRX179, ⟨fun j q1 q2 q3 q4 => r1 j q2 q3 q4, fun k hk => ⟨by rw [r1 228 (by decide) (by decide) (by decide)], (r2 k hk).1, (r2 k hk).2⟩, r5⟩, Or.inr ⟨1 + k, s9, h_mem172, by rw [r1 228 (by decide) (by decide) (by decide)], r3, r4, hh176, h221_178, hs1, r6, by omega, rfl⟩, hfr177⟩) hP hS d_Rd_readValue_253
              · have hlt180 := hereF_lt (by rw [hb171]; decide)
                refine lv_aload_n Bx.1 Bx.2.1 d_Rd_readValue_204 rfl (lv_at hl 4 rfl) ?_
                refine lv_dup Bx.1 Bx.2.1 d_Rd_readValue_205 rfl ?_
                refine f_get Bx hP (by omega) h9_146 rfl inRd 2 (by decide) kw_146 rfl rfl d_Rd_readValue_206 ?_
                refine lv_iconst (v := 1) Bx.1 Bx.2.1 d_Rd_readValue_209 (by decide) ?_
                refine lv_iadd Bx.1 Bx.2.1 d_Rd_readValue_210 ?_
                rw [show nI a1 + 1 = nI (a1 + 1) from nI_add (a1) (1)]
                refine f_put Bx hP hD hS (by omega) h9_146 rfl inRd tyRd okRd nmRd 2 (by decide) kw_146 rfl rfl rfl rfl (Nat.le_of_ble_eq_true rfl) d_Rd_readValue_211 (fun H locs hP hS => ?_)
                obtain ⟨mem181, e_mem181⟩ : ∃ z, z = va_up mem9 (222) (.inr (4, [.ref (ad 1), .ref (ad 5), .int (nI (a1 + 1)), .int (ft145)])) := ⟨_, rfl⟩
                have hP : va_P D vcl (fw n ad mem181) H := by rw [e_mem181]; exact hP
                have hD : va_D (Az sz) (fw n ad mem181) := fw_D hD
                have h_mem181 : mem181 (222) = .inr (4, [.ref (ad 1), .ref (ad 5), .int (nI (a1 + 1)), .int (ft145)]) := by rw [e_mem181, va_up_self]
                have hh182 := (va_up_ne mem9 (.inr (4, [.ref (ad 1), .ref (ad 5), .int (nI (a1 + 1)), .int (ft145)])) (show (1 : Nat) ≠ 222 by first | decide | assumption | omega)).trans h1_147
                rw [← e_mem181] at hh182
                have hh183 := (va_up_ne mem9 (.inr (4, [.ref (ad 1), .ref (ad 5), .int (nI (a1 + 1)), .int (ft145)])) (show (5 : Nat) ≠ 222 by first | decide | assumption | omega)).trans h5_149
                rw [← e_mem181] at hh183
                have hh184 := (va_up_ne mem9 (.inr (4, [.ref (ad 1), .ref (ad 5), .int (nI (a1 + 1)), .int (ft145)])) (show (220 : Nat) ≠ 222 by first | decide | assumption | omega)).trans h2209
                rw [← e_mem181] at hh184
                have hh185 := (va_up_ne mem9 (.inr (4, [.ref (ad 1), .ref (ad 5), .int (nI (a1 + 1)), .int (ft145)])) (show ((20 + 2 * Ec) : Nat) ≠ 222 by first | decide | assumption | omega)).trans hz138
                rw [← e_mem181] at hh185
                have hfr186 : ∀ i, 7 ≤ i ∧ i < 220 ∧ i ≠ 20 + 2 * Ec → mem181 i = mem i := fun i q => (show mem181 i = mem9 i by rw [e_mem181]; exact va_up_ne _ _ (by omega)).trans (hz142 i q)
                have h221_187 : mem181 221 = .inl (cy 0, 240, .inl (s9)) := by rw [e_mem181, va_up_ne _ _ (by omega)]; exact h2219
                have hRX188 : RX cy ad lim (a1 + 1) (R) (Ec + 1) (to) (nm) m0 mem181 := by rw [e_mem181]; exact hz135.at
                refine lv_aload_n Bx.1 Bx.2.1 d_Rd_readValue_214 rfl (lv_at hl 4 rfl) ?_
                refine f_get Bx hP (by omega) h_mem181 rfl inRd 1 (by decide) kw_145 rfl rfl d_Rd_readValue_215 ?_
                refine f_getN Bx hP (by omega) hh183 rfl inGr 2 (by decide) kw_120 rfl rfl d_Rd_readValue_218 ?_
                refine lv_aload_n Bx.1 Bx.2.1 d_Rd_readValue_221 rfl (lv_at hl 4 rfl) ?_
                refine lv_iload_n Bx.1 Bx.2.1 d_Rd_readValue_222 rfl (lv_at hl 3 rfl) ?_
                refine lv_iload_n Bx.1 Bx.2.1 d_Rd_readValue_223 rfl (lv_at hl 2 rfl) ?_
                refine f_xVi (na := 2) (As := [.int (nI a), .int (10)]) (rest := [.ref (ad 220)]) Bx hml E hP hD hS (by omega) h_mem181 rfl (m_Rd_readNumberX l hlt hn hT hf hRX188 (by omega) (by omega)) kw_471 kw_473 sel_Rd_readNumber kw_6 kw_474 (by decide +kernel) ⟨rfl, rfl⟩ ⟨Nat.le_of_ble_eq_true rfl, Nat.le_of_ble_eq_true rfl⟩ rfl hl.1 (Nat.le_of_ble_eq_true rfl) d_Rd_readValue_224 ⟨Nat.le_of_ble_eq_true rfl, Nat.le_of_ble_eq_true rfl⟩ (fun X ce q9 memx H locs hx9 hP hS g1 g2 g3 => f_out hlocks hno hP hS g1 g2 g3 ⟨Nat.le_of_ble_eq_true rfl, Nat.le_of_ble_eq_true rfl⟩ ⟨hx9.1, Or.inr (Or.inr ⟨10, Or.inl ⟨hb25, rfl⟩, (by rw [numsP_fu hns72 hb96, ← hz137, show 3 - k = (3 - (k + 1)) + 1 by omega]; exact furP_bad hb171 hx9.2)⟩)⟩) (fun r189 mem190 H locs hq hP hS => ?_)
                have hD : va_D (Az sz) (fw n ad mem190) := fw_D hD
                obtain ⟨a191, hns192, hg193, hg194, hRX195, hfa196⟩ := hq
                have hel197 := (hfa196 (20 + 2 * Ec) (by omega)).trans hh185
                have h220_198 := (hfa196 220 (by omega)).trans hh184
                have h221_199 := (hfa196 221 (by omega)).trans h221_187
                have hfr200 : ∀ i, 7 ≤ i ∧ i < 220 ∧ i ≠ 20 + 2 * Ec → mem190 i = mem i := fun i q => (hfa196 i (by omega)).trans (hfr186 i q)
                obtain ⟨ft201, h9_202⟩ := hRX195.2.1
                have h1_203 : mem190 1 = .inr (0, [.ref (ad 2), .int (nI Z)]) := (hRX195.1.2.2 1 (by omega)).trans hT.1
                have h2_204 : mem190 2 = .inl (cy 0, 240, .inl f) := (hRX195.1.2.2 2 (by omega)).trans hT.2.2
                have h5_205 := hRX195.1.1.2.1
                have hbd211 := hRX195.1.1.1
                obtain ⟨S206, g207, hS_208, h220_209, h221_210⟩ := hRX195.1.1.2.2.2.2.2.2
                refine f_callVv (na := 1) (As := [.int (r189)]) (rest := []) Bx hml E hP hD hS (by omega) h220_198 rfl (m_Ch_appendY l hn hT hf hRX195 (by omega) h220_198 h221_199 (by omega)) kw_462 kw_318 kw_319 kw_2 kw_320 (by decide +kernel) ⟨rfl, rfl⟩ ⟨Nat.le_of_ble_eq_true rfl, Nat.le_of_ble_eq_true rfl⟩ rfl hl.1 (Nat.le_of_ble_eq_true rfl) d_Rd_readValue_227 ⟨Nat.le_of_ble_eq_true rfl, Nat.le_of_ble_eq_true rfl⟩ (fun mem213 H locs hq hP hS => ?_)
                have hD : va_D (Az sz) (fw n ad mem213) := fw_D hD
                obtain ⟨hRX214, h220_215, h221_216, hfa217⟩ := hq
                rw [charN (numS_r (Or.inl rfl) hns192).1 (numS_r (Or.inl rfl) hns192).2] at h221_216
                obtain ⟨st218, est218⟩ : ∃ z, z = upd (s9) (S + (1 + k)) (r189) := ⟨_, rfl⟩
                rw [← est218] at h221_216
                have hel219 := (hfa217 (20 + 2 * Ec) (by omega)).trans hel197
                have hfr220 : ∀ i, 7 ≤ i ∧ i < 220 ∧ i ≠ 20 + 2 * Ec → mem213 i = mem i := fun i q => (hfa217 i (by omega)).trans (hfr200 i q)
                obtain ⟨ft221, h9_222⟩ := hRX214.2.1
                have h1_223 : mem213 1 = .inr (0, [.ref (ad 2), .int (nI Z)]) := (hRX214.1.2.2 1 (by omega)).trans hT.1
                have h2_224 : mem213 2 = .inl (cy 0, 240, .inl f) := (hRX214.1.2.2 2 (by omega)).trans hT.2.2
                have h5_225 := hRX214.1.1.2.1
                have hbd231 := hRX214.1.1.1
                obtain ⟨S226, g227, hS_228, h220_229, h221_230⟩ := hRX214.1.1.2.2.2.2.2.2
                refine lv_iinc (lv' := [(6, .int ((nI k + (1)))), (4, .ref (ad (20 + 2 * Ec))), (3, .int (10)), (1, .int (nI a)), (0, .ref (ad 222))]) Bx.1 Bx.2.1 d_Rd_readValue_230 hl (k := 0) rfl rfl (by decide) rfl (fun ls hl => ?_)
                rw [show (nI k + (1) : Int32) = nI (k + 1) from nI_1 (k)] at hl
                refine lv_goto Bx.1 Bx.2.1 d_Rd_readValue_233 rfl ?_
                obtain ⟨A10, eA10⟩ : ∃ z, z = va_up (va_up A9 234 (upd (A9 234) (u8 + (1 + k)) r189)) 230 (upd (A9 230) e8 (A9 230 e8 + 1)) := ⟨_, rfl⟩
                have hfs2 : furS T Z 10 e8 (3 - (k + 1)) a191 (u8 + (1 + (k + 1))) A10 = numsS T Z (a + 1 + 1) u8 e8 10 A0 := by
                  rw [← hz140, show 3 - k = (3 - (k + 1)) + 1 by omega, furS_on hb171 hns192, eA10]; rfl
                have hsp2 : (∀ j, j ≠ 229 → j ≠ 230 → j ≠ 234 → A10 j = A0 j) ∧ (∀ i, i ≠ e8 → A10 229 i = A0 229 i ∧ A10 230 i = A0 230 i) ∧ A10 229 e8 = nI u8 ∧ A10 230 e8 = nI (1 + (k + 1)) ∧ (∀ m, m < u8 → A10 234 m = A0 234 m) ∧ ∀ m, m < 1 + (k + 1) → st218 (S + m) = A10 234 (u8 + m) := by
                  rw [eA10]
                  refine ⟨fun j q9 q0 q4 => by rw [va_up_ne _ _ q0, va_up_ne _ _ q4]; exact r1 j q9 q0 q4, fun i hi => ⟨(r2 i hi).1, by show upd _ e8 _ i = _; rw [upd_ne hi]; exact (r2 i hi).2⟩, r3, by show upd _ e8 _ e8 = _; rw [upd_self, r4]; exact nI_1 (1 + k), fun m hm => by show upd _ (u8 + (1 + k)) _ m = _; rw [upd_ne (by omega)]; exact r5 m hm, fun m hm => ?_⟩
                  show st218 (S + m) = upd _ (u8 + (1 + k)) _ (u8 + m)
                  rw [est218]
                  by_cases q9 : m = 1 + k
                  · rw [q9, upd_self, upd_self]
                  · rw [upd_ne (by omega), upd_ne (by omega)]; exact r6 m (by omega)
                exact ih143 mem213 (a191) (k + 1) (st218) (A10) _ _ _ (by have := hmeas144; omega) (hRX214) (⟨by omega, by omega, by omega, by omega⟩) (by rw [← hz137, show 3 - k = (3 - (k + 1)) + 1 by omega, furP_on hb171 hns192]) (hel219) (⟨h220_215, h221_216, fun m hm => by rw [est218, upd_ne (by omega)]; exact hs1 m hm⟩) (hfs2) (hsp2) (hfr220) hP hD hS (lv_sub hl [0, 1, 2, 3, 4] rfl)
        exact loop133 _ mem114 (a71) (0) (st119) (A1) _ _ _ (Nat.lt_succ_self _) (hRX115) (⟨by omega, by omega, by omega, by omega⟩) (rfl) (hel120) (⟨h220_116, h221_117, fun m hm => by rw [est119, upd_ne (by omega)]⟩) (hfu0) (hsp0) (hfr121) hP hD hS (lv_sub hl [0, 2, 3, 5, 6] rfl)
      · have hlt232 := hereF_lt (by rw [hb96]; decide)
        refine lv_aload_n Bx.1 Bx.2.1 d_Rd_readValue_98 rfl (lv_at hl 5 rfl) ?_
        refine lv_dup Bx.1 Bx.2.1 d_Rd_readValue_99 rfl ?_
        refine f_get Bx hP (by omega) h9_82 rfl inRd 2 (by decide) kw_146 rfl rfl d_Rd_readValue_100 ?_
        refine lv_iconst (v := 1) Bx.1 Bx.2.1 d_Rd_readValue_103 (by decide) ?_
        refine lv_iadd Bx.1 Bx.2.1 d_Rd_readValue_104 ?_
        rw [show nI a71 + 1 = nI (a71 + 1) from nI_add (a71) (1)]
        refine f_put Bx hP hD hS (by omega) h9_82 rfl inRd tyRd okRd nmRd 2 (by decide) kw_146 rfl rfl rfl rfl (Nat.le_of_ble_eq_true rfl) d_Rd_readValue_105 (fun H locs hP hS => ?_)
        obtain ⟨mem233, e_mem233⟩ : ∃ z, z = va_up mem70 (222) (.inr (4, [.ref (ad 1), .ref (ad 5), .int (nI (a71 + 1)), .int (ft81)])) := ⟨_, rfl⟩
        have hP : va_P D vcl (fw n ad mem233) H := by rw [e_mem233]; exact hP
        have hD : va_D (Az sz) (fw n ad mem233) := fw_D hD
        have h_mem233 : mem233 (222) = .inr (4, [.ref (ad 1), .ref (ad 5), .int (nI (a71 + 1)), .int (ft81)]) := by rw [e_mem233, va_up_self]
        have hh234 := (va_up_ne mem70 (.inr (4, [.ref (ad 1), .ref (ad 5), .int (nI (a71 + 1)), .int (ft81)])) (show (1 : Nat) ≠ 222 by first | decide | assumption | omega)).trans h1_83
        rw [← e_mem233] at hh234
        have hh235 := (va_up_ne mem70 (.inr (4, [.ref (ad 1), .ref (ad 5), .int (nI (a71 + 1)), .int (ft81)])) (show (5 : Nat) ≠ 222 by first | decide | assumption | omega)).trans h5_85
        rw [← e_mem233] at hh235
        have hh236 := (va_up_ne mem70 (.inr (4, [.ref (ad 1), .ref (ad 5), .int (nI (a71 + 1)), .int (ft81)])) (show (220 : Nat) ≠ 222 by first | decide | assumption | omega)).trans h220_78
        rw [← e_mem233] at hh236
        have hh237 := (va_up_ne mem70 (.inr (4, [.ref (ad 1), .ref (ad 5), .int (nI (a71 + 1)), .int (ft81)])) (show ((20 + 2 * Ec) : Nat) ≠ 222 by first | decide | assumption | omega)).trans hel77
        rw [← e_mem233] at hh237
        have hfr238 : ∀ i, 7 ≤ i ∧ i < 220 ∧ i ≠ 20 + 2 * Ec → mem233 i = mem i := fun i q => (show mem233 i = mem70 i by rw [e_mem233]; exact va_up_ne _ _ (by omega)).trans (hfr80 i q)
        have h221_239 : mem233 221 = .inl (cy 0, 240, .inl (s8)) := by rw [e_mem233, va_up_ne _ _ (by omega)]; exact h221_79
        have hRX240 : RX cy ad lim (a71 + 1) (R) (Ec + 1) (to) (nm) m0 mem233 := by rw [e_mem233]; exact hRX75.at
        refine lv_aload Bx.1 Bx.2.1 d_Rd_readValue_108 (lv_at hl 1 rfl) ?_
        refine lv_iload Bx.1 Bx.2.1 d_Rd_readValue_110 (lv_at hl 0 rfl) ?_
        refine f_putN Bx hP hD hS (by omega) hh237 rfl inEl tyEl okEl nmEl 1 (by decide) kw_79 rfl rfl rfl rfl (Nat.le_of_ble_eq_true rfl) d_Rd_readValue_112 (fun H locs hP hS => ?_)
        obtain ⟨mem241, e_mem241⟩ : ∃ z, z = va_up mem233 ((20 + 2 * Ec)) (.inr (2, [.int (7), .int (r69), .int (0), .null, .null, .null, .ref (ad (21 + 2 * Ec))])) := ⟨_, rfl⟩
        have hP : va_P D vcl (fw n ad mem241) H := by rw [e_mem241]; exact hP
        have hD : va_D (Az sz) (fw n ad mem241) := fw_D hD
        have h_mem241 : mem241 ((20 + 2 * Ec)) = .inr (2, [.int (7), .int (r69), .int (0), .null, .null, .null, .ref (ad (21 + 2 * Ec))]) := by rw [e_mem241, va_up_self]
        have hh242 := (va_up_ne mem233 (.inr (2, [.int (7), .int (r69), .int (0), .null, .null, .null, .ref (ad (21 + 2 * Ec))])) (show (222 : Nat) ≠ (20 + 2 * Ec) by first | decide | assumption | omega)).trans h_mem233
        rw [← e_mem241] at hh242
        have hh243 := (va_up_ne mem233 (.inr (2, [.int (7), .int (r69), .int (0), .null, .null, .null, .ref (ad (21 + 2 * Ec))])) (show (1 : Nat) ≠ (20 + 2 * Ec) by first | decide | assumption | omega)).trans hh234
        rw [← e_mem241] at hh243
        have hh244 := (va_up_ne mem233 (.inr (2, [.int (7), .int (r69), .int (0), .null, .null, .null, .ref (ad (21 + 2 * Ec))])) (show (5 : Nat) ≠ (20 + 2 * Ec) by first | decide | assumption | omega)).trans hh235
        rw [← e_mem241] at hh244
        have hh245 := (va_up_ne mem233 (.inr (2, [.int (7), .int (r69), .int (0), .null, .null, .null, .ref (ad (21 + 2 * Ec))])) (show (220 : Nat) ≠ (20 + 2 * Ec) by first | decide | assumption | omega)).trans hh236
        rw [← e_mem241] at hh245
        have hfr246 : ∀ i, 7 ≤ i ∧ i < 220 ∧ i ≠ 20 + 2 * Ec → mem241 i = mem i := fun i q => (show mem241 i = mem233 i by rw [e_mem241]; exact va_up_ne _ _ (by omega)).trans (hfr238 i q)
        have h221_247 : mem241 221 = .inl (cy 0, 240, .inl (s8)) := by rw [e_mem241, va_up_ne _ _ (by omega)]; exact h221_239
        have hRX248 : RX cy ad lim (a71 + 1) (R) (Ec + 1) (to) (nm) m0 mem241 := by rw [e_mem241]; exact hRX240.el (by omega) (hRX240.1.mk (by omega) (hRX240.1.1.upEl (by omega) (fun _ => ⟨Or.inl rfl, Or.inl rfl, Or.inl rfl⟩)))
        refine lv_aload Bx.1 Bx.2.1 d_Rd_readValue_115 (lv_at hl 1 rfl) ?_
        refine lv_aload_n Bx.1 Bx.2.1 d_Rd_readValue_117 rfl (lv_at hl 5 rfl) ?_
        refine lv_iload_n Bx.1 Bx.2.1 d_Rd_readValue_118 rfl (lv_at hl 4 rfl) ?_
        refine lv_iload_n Bx.1 Bx.2.1 d_Rd_readValue_119 rfl (lv_at hl 2 rfl) ?_
        refine f_xVi (na := 2) (As := [.int (nI a), .int (10)]) (rest := [.ref (ad (20 + 2 * Ec))]) Bx hml E hP hD hS (by omega) hh242 rfl (m_Rd_readNumberX l hlt hn hT hf hRX248 (by omega) (by omega)) kw_471 kw_473 sel_Rd_readNumber kw_6 kw_474 (by decide +kernel) ⟨rfl, rfl⟩ ⟨Nat.le_of_ble_eq_true rfl, Nat.le_of_ble_eq_true rfl⟩ rfl hl.1 (Nat.le_of_ble_eq_true rfl) d_Rd_readValue_120 ⟨Nat.le_of_ble_eq_true rfl, Nat.le_of_ble_eq_true rfl⟩ (fun X ce q9 memx H locs hx9 hP hS g1 g2 g3 => f_out hlocks hno hP hS g1 g2 g3 ⟨Nat.le_of_ble_eq_true rfl, Nat.le_of_ble_eq_true rfl⟩ ⟨hx9.1, Or.inr (Or.inr ⟨10, Or.inl ⟨hb25, rfl⟩, numsP_n2 hns72 hb96 hx9.2⟩)⟩) (fun r249 mem250 H locs hq hP hS => ?_)
        have hD : va_D (Az sz) (fw n ad mem250) := fw_D hD
        obtain ⟨a251, hns252, hg253, hg254, hRX255, hfa256⟩ := hq
        have hel257 := (hfa256 (20 + 2 * Ec) (by omega)).trans h_mem241
        have h220_258 := (hfa256 220 (by omega)).trans hh245
        have h221_259 := (hfa256 221 (by omega)).trans h221_247
        have hfr260 : ∀ i, 7 ≤ i ∧ i < 220 ∧ i ≠ 20 + 2 * Ec → mem250 i = mem i := fun i q => (hfa256 i (by omega)).trans (hfr246 i q)
        obtain ⟨ft261, h9_262⟩ := hRX255.2.1
        have h1_263 : mem250 1 = .inr (0, [.ref (ad 2), .int (nI Z)]) := (hRX255.1.2.2 1 (by omega)).trans hT.1
        have h2_264 : mem250 2 = .inl (cy 0, 240, .inl f) := (hRX255.1.2.2 2 (by omega)).trans hT.2.2
        have h5_265 := hRX255.1.1.2.1
        have hbd271 := hRX255.1.1.1
        obtain ⟨S266, g267, hS_268, h220_269, h221_270⟩ := hRX255.1.1.2.2.2.2.2.2
        refine f_putN Bx hP hD hS (by omega) hel257 rfl inEl tyEl okEl nmEl 2 (by decide) kw_82 rfl rfl rfl rfl (Nat.le_of_ble_eq_true rfl) d_Rd_readValue_123 (fun H locs hP hS => ?_)
        obtain ⟨mem272, e_mem272⟩ : ∃ z, z = va_up mem250 ((20 + 2 * Ec)) (.inr (2, [.int (7), .int (r69), .int (r249), .null, .null, .null, .ref (ad (21 + 2 * Ec))])) := ⟨_, rfl⟩
        have hP : va_P D vcl (fw n ad mem272) H := by rw [e_mem272]; exact hP
        have hD : va_D (Az sz) (fw n ad mem272) := fw_D hD
        have h_mem272 : mem272 ((20 + 2 * Ec)) = .inr (2, [.int (7), .int (r69), .int (r249), .null, .null, .null, .ref (ad (21 + 2 * Ec))]) := by rw [e_mem272, va_up_self]
        have hh273 := (va_up_ne mem250 (.inr (2, [.int (7), .int (r69), .int (r249), .null, .null, .null, .ref (ad (21 + 2 * Ec))])) (show (222 : Nat) ≠ (20 + 2 * Ec) by first | decide | assumption | omega)).trans h9_262
        rw [← e_mem272] at hh273
        have hh274 := (va_up_ne mem250 (.inr (2, [.int (7), .int (r69), .int (r249), .null, .null, .null, .ref (ad (21 + 2 * Ec))])) (show (1 : Nat) ≠ (20 + 2 * Ec) by first | decide | assumption | omega)).trans h1_263
        rw [← e_mem272] at hh274
        have hh275 := (va_up_ne mem250 (.inr (2, [.int (7), .int (r69), .int (r249), .null, .null, .null, .ref (ad (21 + 2 * Ec))])) (show (5 : Nat) ≠ (20 + 2 * Ec) by first | decide | assumption | omega)).trans h5_265
        rw [← e_mem272] at hh275
        have hh276 := (va_up_ne mem250 (.inr (2, [.int (7), .int (r69), .int (r249), .null, .null, .null, .ref (ad (21 + 2 * Ec))])) (show (220 : Nat) ≠ (20 + 2 * Ec) by first | decide | assumption | omega)).trans h220_258
        rw [← e_mem272] at hh276
        have hfr277 : ∀ i, 7 ≤ i ∧ i < 220 ∧ i ≠ 20 + 2 * Ec → mem272 i = mem i := fun i q => (show mem272 i = mem250 i by rw [e_mem272]; exact va_up_ne _ _ (by omega)).trans (hfr260 i q)
        have h221_278 : mem272 221 = .inl (cy 0, 240, .inl (s8)) := by rw [e_mem272, va_up_ne _ _ (by omega)]; exact h221_259
        have hRX279 : RX cy ad lim (a251) (R) (Ec + 1) (to) (nm) m0 mem272 := by rw [e_mem272]; exact hRX255.el (by omega) (hRX255.1.mk (by omega) (hRX255.1.1.upEl (by omega) (fun _ => ⟨Or.inl rfl, Or.inl rfl, Or.inl rfl⟩)))
        refine lv_aload_n Bx.1 Bx.2.1 d_Rd_readValue_126 rfl (lv_at hl 5 rfl) ?_
        refine lv_aload Bx.1 Bx.2.1 d_Rd_readValue_127 (lv_at hl 1 rfl) ?_
        refine f_getN Bx hP (by omega) h_mem272 rfl inEl 1 (by decide) kw_79 rfl rfl d_Rd_readValue_129 ?_
        refine lv_aload Bx.1 Bx.2.1 d_Rd_readValue_132 (lv_at hl 1 rfl) ?_
        refine f_getN Bx hP (by omega) h_mem272 rfl inEl 2 (by decide) kw_82 rfl rfl d_Rd_readValue_134 ?_
        refine lv_icmp_gt Bx.1 Bx.2.1 d_Rd_readValue_137 rfl (fun hb280 => ?_) (fun hb280 => ?_)
        · refine lv_iconst (v := 0) Bx.1 Bx.2.1 d_Rd_readValue_144 (by decide) ?_
          refine lv_iload_n Bx.1 Bx.2.1 d_Rd_readValue_145 rfl (lv_at hl 4 rfl) ?_
          refine f_xVv (na := 2) (As := [.int (0), .int (nI a)]) (rest := []) Bx hml E hP hD hS (by omega) hh273 rfl (m_Rd_needReadableX l hlt hn hT hf hRX279 (by omega)) kw_360 kw_362 sel_Rd_needReadable kw_6 kw_363 (by decide +kernel) ⟨rfl, rfl⟩ ⟨Nat.le_of_ble_eq_true rfl, Nat.le_of_ble_eq_true rfl⟩ rfl hl.1 (Nat.le_of_ble_eq_true rfl) d_Rd_readValue_146 ⟨Nat.le_of_ble_eq_true rfl, Nat.le_of_ble_eq_true rfl⟩ (fun X ce q9 memx H locs hx9 hP hS g1 g2 g3 => f_out hlocks hno hP hS g1 g2 g3 ⟨Nat.le_of_ble_eq_true rfl, Nat.le_of_ble_eq_true rfl⟩ ⟨hx9.1, Or.inr (Or.inr ⟨10, Or.inl ⟨hb25, rfl⟩, numsP_lt hns72 hb96 hns252 hb280⟩)⟩) (fun mem282 H locs hq hP hS => ?_)
          have hD : va_D (Az sz) (fw n ad mem282) := fw_D hD
          obtain ⟨hqe, hg283⟩ := hq
          rw [hqe] at hP hD
          exact absurd rfl hg283
        · refine lv_iconst (v := 1) Bx.1 Bx.2.1 d_Rd_readValue_140 (by decide) ?_
          refine lv_goto Bx.1 Bx.2.1 d_Rd_readValue_141 rfl ?_
          refine lv_iload_n Bx.1 Bx.2.1 d_Rd_readValue_145 rfl (lv_at hl 4 rfl) ?_
          refine f_xVv (na := 2) (As := [.int (1), .int (nI a)]) (rest := []) Bx hml E hP hD hS (by omega) hh273 rfl (m_Rd_needReadableX l hlt hn hT hf hRX279 (by omega)) kw_360 kw_362 sel_Rd_needReadable kw_6 kw_363 (by decide +kernel) ⟨rfl, rfl⟩ ⟨Nat.le_of_ble_eq_true rfl, Nat.le_of_ble_eq_true rfl⟩ rfl hl.1 (Nat.le_of_ble_eq_true rfl) d_Rd_readValue_146 ⟨Nat.le_of_ble_eq_true rfl, Nat.le_of_ble_eq_true rfl⟩ (fun X ce q9 memx H locs hx9 hP hS g1 g2 g3 => f_out hlocks hno hP hS g1 g2 g3 ⟨Nat.le_of_ble_eq_true rfl, Nat.le_of_ble_eq_true rfl⟩ ⟨hx9.1, absurd hx9.2 (by decide)⟩) (fun mem285 H locs hq hP hS => ?_)
          have hD : va_D (Az sz) (fw n ad mem285) := fw_D hD
          obtain ⟨hqe, hg286⟩ := hq
          rw [hqe] at hP hD
          refine lv_aload Bx.1 Bx.2.1 d_Rd_readValue_149 (lv_at hl 1 rfl) ?_
          have hns9 := numsS_rg (u := u8) (e := e8) (A := A0) hns72 hb96 hns252 hb280
          exact x_aret hx hb hlocks hr (⟨by omega, 10, a251, u8 + 1, _, Or.inl ⟨hb25, rfl⟩, hns9, rfl, by omega, by omega, hRX279, ⟨fun j q1 q2 q3 q4 => by rw [va_up_ne _ _ q3, va_up_ne _ _ q2, va_up_ne _ _ q1, va_up_ne _ _ q4, va_up_ne _ _ q3, va_up_ne _ _ q2], fun k hk => ⟨by show upd _ e8 _ k = _; rw [upd_ne hk] <;> rfl, by show upd _ e8 _ k = _; rw [upd_ne hk]; show upd _ e8 _ k = _; rw [upd_ne hk], by show upd _ e8 _ k = _; rw [upd_ne hk]; show upd _ e8 _ k = _; rw [upd_ne hk] <;> rfl⟩, fun m hm => by show upd _ u8 _ m = _; rw [upd_ne (by omega)] <;> rfl⟩, Or.inl ⟨r69, r249, h_mem272, by show upd _ e8 _ e8 = _; rw [upd_self], by show upd _ e8 _ e8 = _; rw [upd_self], by show upd _ e8 _ e8 = _; rw [upd_self], hh276, h221_278, rfl⟩, hfr277⟩) hP hS d_Rd_readValue_151
  · refine lv_iload_n Bx.1 Bx.2.1 d_Rd_readValue_30 rfl (lv_at hl 0 rfl) ?_
    refine lv_bipush (v := 120) Bx.1 Bx.2.1 d_Rd_readValue_31 (by decide) ?_
    refine lv_icmp_ne Bx.1 Bx.2.1 d_Rd_readValue_33 rfl (fun hb287 => ?_) (fun hb287 => ?_)
    · refine lv_iconst (v := 0) Bx.1 Bx.2.1 d_Rd_readValue_40 (by decide) ?_
      refine lv_aload_n Bx.1 Bx.2.1 d_Rd_readValue_41 rfl (lv_at hl 2 rfl) ?_
      refine f_get Bx hP (by omega) h_mem12 rfl inRd 2 (by decide) kw_146 rfl rfl d_Rd_readValue_42 ?_
      refine f_xVv (na := 2) (As := [.int (0), .int (nI (a + 1))]) (rest := []) Bx hml E hP hD hS (by omega) h_mem12 rfl (m_Rd_needReadableX l hlt hn hT hf hRX18 (by omega)) kw_360 kw_362 sel_Rd_needReadable kw_6 kw_363 (by decide +kernel) ⟨rfl, rfl⟩ ⟨Nat.le_of_ble_eq_true rfl, Nat.le_of_ble_eq_true rfl⟩ rfl hl.1 (Nat.le_of_ble_eq_true rfl) d_Rd_readValue_45 ⟨Nat.le_of_ble_eq_true rfl, Nat.le_of_ble_eq_true rfl⟩ (fun X ce q9 memx H locs hx9 hP hS g1 g2 g3 => f_out hlocks hno hP hS g1 g2 g3 ⟨Nat.le_of_ble_eq_true rfl, Nat.le_of_ble_eq_true rfl⟩ ⟨hx9.1, Or.inl ⟨hb25, hb287⟩⟩) (fun mem289 H locs hq hP hS => ?_)
      have hD : va_D (Az sz) (fw n ad mem289) := fw_D hD
      obtain ⟨hqe, hg290⟩ := hq
      rw [hqe] at hP hD
      exact absurd rfl hg290
    · have hlt8 := hereF_lt (smF_ne (Or.inr (Or.inl hb287)))
      rw [hb287] at hl
      refine lv_iconst (v := 1) Bx.1 Bx.2.1 d_Rd_readValue_36 (by decide) ?_
      refine lv_goto Bx.1 Bx.2.1 d_Rd_readValue_37 rfl ?_
      refine lv_aload_n Bx.1 Bx.2.1 d_Rd_readValue_41 rfl (lv_at hl 2 rfl) ?_
      refine f_get Bx hP (by omega) h_mem12 rfl inRd 2 (by decide) kw_146 rfl rfl d_Rd_readValue_42 ?_
      refine f_xVv (na := 2) (As := [.int (1), .int (nI (a + 1))]) (rest := []) Bx hml E hP hD hS (by omega) h_mem12 rfl (m_Rd_needReadableX l hlt hn hT hf hRX18 (by omega)) kw_360 kw_362 sel_Rd_needReadable kw_6 kw_363 (by decide +kernel) ⟨rfl, rfl⟩ ⟨Nat.le_of_ble_eq_true rfl, Nat.le_of_ble_eq_true rfl⟩ rfl hl.1 (Nat.le_of_ble_eq_true rfl) d_Rd_readValue_45 ⟨Nat.le_of_ble_eq_true rfl, Nat.le_of_ble_eq_true rfl⟩ (fun X ce q9 memx H locs hx9 hP hS g1 g2 g3 => f_out hlocks hno hP hS g1 g2 g3 ⟨Nat.le_of_ble_eq_true rfl, Nat.le_of_ble_eq_true rfl⟩ ⟨hx9.1, absurd hx9.2 (by decide)⟩) (fun mem292 H locs hq hP hS => ?_)
      have hD : va_D (Az sz) (fw n ad mem292) := fw_D hD
      obtain ⟨hqe, hg293⟩ := hq
      rw [hqe] at hP hD
      refine lv_aload_n Bx.1 Bx.2.1 d_Rd_readValue_48 rfl (lv_at hl 2 rfl) ?_
      refine lv_dup Bx.1 Bx.2.1 d_Rd_readValue_49 rfl ?_
      refine f_get Bx hP (by omega) h_mem12 rfl inRd 2 (by decide) kw_146 rfl rfl d_Rd_readValue_50 ?_
      refine lv_iconst (v := 1) Bx.1 Bx.2.1 d_Rd_readValue_53 (by decide) ?_
      refine lv_iadd Bx.1 Bx.2.1 d_Rd_readValue_54 ?_
      rw [show nI (a + 1) + 1 = nI (a + 1 + 1) from nI_add (a + 1) (1)]
      refine f_put Bx hP hD hS (by omega) h_mem12 rfl inRd tyRd okRd nmRd 2 (by decide) kw_146 rfl rfl rfl rfl (Nat.le_of_ble_eq_true rfl) d_Rd_readValue_55 (fun H locs hP hS => ?_)
      obtain ⟨mem294, e_mem294⟩ : ∃ z, z = va_up mem12 (222) (.inr (4, [.ref (ad 1), .ref (ad 5), .int (nI (a + 1 + 1)), .int (ft1)])) := ⟨_, rfl⟩
      have hP : va_P D vcl (fw n ad mem294) H := by rw [e_mem294]; exact hP
      have hD : va_D (Az sz) (fw n ad mem294) := fw_D hD
      have h_mem294 : mem294 (222) = .inr (4, [.ref (ad 1), .ref (ad 5), .int (nI (a + 1 + 1)), .int (ft1)]) := by rw [e_mem294, va_up_self]
      have hh295 := (va_up_ne mem12 (.inr (4, [.ref (ad 1), .ref (ad 5), .int (nI (a + 1 + 1)), .int (ft1)])) (show (1 : Nat) ≠ 222 by first | decide | assumption | omega)).trans hh13
      rw [← e_mem294] at hh295
      have hh296 := (va_up_ne mem12 (.inr (4, [.ref (ad 1), .ref (ad 5), .int (nI (a + 1 + 1)), .int (ft1)])) (show (5 : Nat) ≠ 222 by first | decide | assumption | omega)).trans hh14
      rw [← e_mem294] at hh296
      have hh297 := (va_up_ne mem12 (.inr (4, [.ref (ad 1), .ref (ad 5), .int (nI (a + 1 + 1)), .int (ft1)])) (show (220 : Nat) ≠ 222 by first | decide | assumption | omega)).trans hh15
      rw [← e_mem294] at hh297
      have hfr298 : ∀ i, 7 ≤ i ∧ i < 220 ∧ i ≠ 20 + 2 * Ec → mem294 i = mem i := fun i q => (show mem294 i = mem12 i by rw [e_mem294]; exact va_up_ne _ _ (by omega)).trans (hfr16 i q)
      have h221_299 : mem294 221 = .inl (cy 0, 240, .inl (s8)) := by rw [e_mem294, va_up_ne _ _ (by omega)]; exact h221_17
      have hRX300 : RX cy ad lim (a + 1 + 1) (R) (Ec) (to) (nm) m0 mem294 := by rw [e_mem294]; exact hRX18.at
      refine lv_iload_n Bx.1 Bx.2.1 d_Rd_readValue_58 rfl (lv_at hl 0 rfl) ?_
      refine lv_bipush (v := 100) Bx.1 Bx.2.1 d_Rd_readValue_59 (by decide) ?_
      refine lv_icmp_ne Bx.1 Bx.2.1 d_Rd_readValue_61 rfl (fun hb301 => ?_) (fun hb301 => ?_)
      · refine lv_bipush (v := 16) Bx.1 Bx.2.1 d_Rd_readValue_69 (by decide) ?_
        refine lv_istore_n (lv' := [(3, .int (16)), (2, .int (120)), (1, .int (nI a)), (0, .ref (ad 222))]) Bx.1 Bx.2.1 d_Rd_readValue_71 rfl hl (by decide) rfl (fun ls hl => ?_)
        refine lv_aload_n Bx.1 Bx.2.1 d_Rd_readValue_72 rfl (lv_at hl 3 rfl) ?_
        refine lv_bipush (v := 7) Bx.1 Bx.2.1 d_Rd_readValue_73 (by decide) ?_
        refine lv_iload_n Bx.1 Bx.2.1 d_Rd_readValue_75 rfl (lv_at hl 2 rfl) ?_
        refine f_xVr (na := 2) (As := [.int (7), .int (nI a)]) (rest := []) Bx hml E hP hD hS (by omega) h_mem294 rfl (m_Rd_addElementY l hlt hn hT hf hRX300 (by omega)) kw_419 kw_421 sel_Rd_addElement kw_6 kw_422 (by decide +kernel) ⟨rfl, rfl⟩ ⟨Nat.le_of_ble_eq_true rfl, Nat.le_of_ble_eq_true rfl⟩ rfl hl.1 (Nat.le_of_ble_eq_true rfl) d_Rd_readValue_76 ⟨Nat.le_of_ble_eq_true rfl, Nat.le_of_ble_eq_true rfl⟩ (fun X ce q9 memx H locs hx9 hP hS g1 g2 g3 => f_out hlocks hno hP hS g1 g2 g3 ⟨Nat.le_of_ble_eq_true rfl, Nat.le_of_ble_eq_true rfl⟩ ⟨hx9.1, Or.inr (Or.inl hx9.2)⟩) (fun r302 mem303 H locs hq hP hS => ?_)
        have hD : va_D (Az sz) (fw n ad mem303) := fw_D hD
        obtain ⟨hr9304, hec305, hRX306, hcl307, hfa308⟩ := hq
        subst hr9304
        have h220_309 := (hfa308 220 (by omega)).trans hh297
        have h221_310 := (hfa308 221 (by omega)).trans h221_299
        have hfr311 : ∀ i, 7 ≤ i ∧ i < 220 ∧ i ≠ 20 + 2 * Ec → mem303 i = mem i := fun i q => (hfa308 i (by omega)).trans (hfr298 i q)
        obtain ⟨ft312, h9_313⟩ := hRX306.2.1
        have h1_314 : mem303 1 = .inr (0, [.ref (ad 2), .int (nI Z)]) := (hRX306.1.2.2 1 (by omega)).trans hT.1
        have h2_315 : mem303 2 = .inl (cy 0, 240, .inl f) := (hRX306.1.2.2 2 (by omega)).trans hT.2.2
        have h5_316 := hRX306.1.1.2.1
        have hbd322 := hRX306.1.1.1
        obtain ⟨S317, g318, hS_319, h220_320, h221_321⟩ := hRX306.1.1.2.2.2.2.2.2
        obtain ⟨ft323, h9_324⟩ := hRX306.2.1
        have h1_325 : mem303 1 = .inr (0, [.ref (ad 2), .int (nI Z)]) := (hRX306.1.2.2 1 (by omega)).trans hT.1
        have h2_326 : mem303 2 = .inl (cy 0, 240, .inl f) := (hRX306.1.2.2 2 (by omega)).trans hT.2.2
        have h5_327 := hRX306.1.1.2.1
        have hbd333 := hRX306.1.1.1
        obtain ⟨S328, g329, hS_330, h220_331, h221_332⟩ := hRX306.1.1.2.2.2.2.2.2
        refine lv_astore (lv' := [(4, .ref (ad (20 + 2 * Ec))), (3, .int (16)), (2, .int (120)), (1, .int (nI a)), (0, .ref (ad 222))]) Bx.1 Bx.2.1 d_Rd_readValue_79 hl (by decide) rfl (fun ls hl => ?_)
        refine lv_aload_n Bx.1 Bx.2.1 d_Rd_readValue_81 rfl (lv_at hl 4 rfl) ?_
        refine lv_iload_n Bx.1 Bx.2.1 d_Rd_readValue_82 rfl (lv_at hl 3 rfl) ?_
        refine lv_iload_n Bx.1 Bx.2.1 d_Rd_readValue_83 rfl (lv_at hl 1 rfl) ?_
        refine f_xVi (na := 2) (As := [.int (nI a), .int (16)]) (rest := []) Bx hml E hP hD hS (by omega) h9_324 rfl (m_Rd_readNumberX l hlt hn hT hf hRX306 (by omega) (by omega)) kw_471 kw_473 sel_Rd_readNumber kw_6 kw_474 (by decide +kernel) ⟨rfl, rfl⟩ ⟨Nat.le_of_ble_eq_true rfl, Nat.le_of_ble_eq_true rfl⟩ rfl hl.1 (Nat.le_of_ble_eq_true rfl) d_Rd_readValue_84 ⟨Nat.le_of_ble_eq_true rfl, Nat.le_of_ble_eq_true rfl⟩ (fun X ce q9 memx H locs hx9 hP hS g1 g2 g3 => f_out hlocks hno hP hS g1 g2 g3 ⟨Nat.le_of_ble_eq_true rfl, Nat.le_of_ble_eq_true rfl⟩ ⟨hx9.1, Or.inr (Or.inr ⟨16, Or.inr ⟨hb287, rfl⟩, numsP_n1 hx9.2⟩)⟩) (fun r334 mem335 H locs hq hP hS => ?_)
        have hD : va_D (Az sz) (fw n ad mem335) := fw_D hD
        obtain ⟨a336, hns337, hg338, hg339, hRX340, hfa341⟩ := hq
        have hel342 := (hfa341 (20 + 2 * Ec) (by omega)).trans hcl307
        have h220_343 := (hfa341 220 (by omega)).trans h220_309
        have h221_344 := (hfa341 221 (by omega)).trans h221_310
        have hfr345 : ∀ i, 7 ≤ i ∧ i < 220 ∧ i ≠ 20 + 2 * Ec → mem335 i = mem i := fun i q => (hfa341 i (by omega)).trans (hfr311 i q)
        obtain ⟨ft346, h9_347⟩ := hRX340.2.1
        have h1_348 : mem335 1 = .inr (0, [.ref (ad 2), .int (nI Z)]) := (hRX340.1.2.2 1 (by omega)).trans hT.1
        have h2_349 : mem335 2 = .inl (cy 0, 240, .inl f) := (hRX340.1.2.2 2 (by omega)).trans hT.2.2
        have h5_350 := hRX340.1.1.2.1
        have hbd356 := hRX340.1.1.1
        obtain ⟨S351, g352, hS_353, h220_354, h221_355⟩ := hRX340.1.1.2.2.2.2.2.2
        refine lv_istore (lv' := [(5, .int (r334)), (4, .ref (ad (20 + 2 * Ec))), (3, .int (16)), (2, .int (120)), (1, .int (nI a)), (0, .ref (ad 222))]) Bx.1 Bx.2.1 d_Rd_readValue_87 hl (by decide) rfl (fun ls hl => ?_)
        refine lv_aload_n Bx.1 Bx.2.1 d_Rd_readValue_89 rfl (lv_at hl 5 rfl) ?_
        refine f_callVi (na := 0) (As := []) (rest := []) Bx hml E hP hD hS (by omega) h9_347 rfl (m_Rd_peekX l hn hT hf hRX340 (by omega)) kw_353 kw_355 sel_Rd_peek kw_6 kw_356 (by decide +kernel) ⟨rfl, rfl⟩ ⟨Nat.le_of_ble_eq_true rfl, Nat.le_of_ble_eq_true rfl⟩ rfl hl.1 (Nat.le_of_ble_eq_true rfl) d_Rd_readValue_90 ⟨Nat.le_of_ble_eq_true rfl, Nat.le_of_ble_eq_true rfl⟩ (fun r358 mem359 H locs hq hP hS => ?_)
        have hD : va_D (Az sz) (fw n ad mem359) := fw_D hD
        obtain ⟨hqe, hpk357⟩ := hq
        rw [hqe] at hP hD
        subst hpk357
        refine lv_bipush (v := 45) Bx.1 Bx.2.1 d_Rd_readValue_93 (by decide) ?_
        refine lv_icmp_ne Bx.1 Bx.2.1 d_Rd_readValue_95 rfl (fun hb361 => ?_) (fun hb361 => ?_)
        · refine lv_aload Bx.1 Bx.2.1 d_Rd_readValue_152 (lv_at hl 1 rfl) ?_
          refine lv_bipush (v := 6) Bx.1 Bx.2.1 d_Rd_readValue_154 (by decide) ?_
          refine f_putN Bx hP hD hS (by omega) hel342 rfl inEl tyEl okEl nmEl 0 (by decide) kw_76 rfl rfl rfl rfl (Nat.le_of_ble_eq_true rfl) d_Rd_readValue_156 (fun H locs hP hS => ?_)
          obtain ⟨mem362, e_mem362⟩ : ∃ z, z = va_up mem335 ((20 + 2 * Ec)) (.inr (2, [.int (6), .int (0), .int (0), .null, .null, .null, .ref (ad (21 + 2 * Ec))])) := ⟨_, rfl⟩
          have hP : va_P D vcl (fw n ad mem362) H := by rw [e_mem362]; exact hP
          have hD : va_D (Az sz) (fw n ad mem362) := fw_D hD
          have h_mem362 : mem362 ((20 + 2 * Ec)) = .inr (2, [.int (6), .int (0), .int (0), .null, .null, .null, .ref (ad (21 + 2 * Ec))]) := by rw [e_mem362, va_up_self]
          have hh363 := (va_up_ne mem335 (.inr (2, [.int (6), .int (0), .int (0), .null, .null, .null, .ref (ad (21 + 2 * Ec))])) (show (222 : Nat) ≠ (20 + 2 * Ec) by first | decide | assumption | omega)).trans h9_347
          rw [← e_mem362] at hh363
          have hh364 := (va_up_ne mem335 (.inr (2, [.int (6), .int (0), .int (0), .null, .null, .null, .ref (ad (21 + 2 * Ec))])) (show (1 : Nat) ≠ (20 + 2 * Ec) by first | decide | assumption | omega)).trans h1_348
          rw [← e_mem362] at hh364
          have hh365 := (va_up_ne mem335 (.inr (2, [.int (6), .int (0), .int (0), .null, .null, .null, .ref (ad (21 + 2 * Ec))])) (show (5 : Nat) ≠ (20 + 2 * Ec) by first | decide | assumption | omega)).trans h5_350
          rw [← e_mem362] at hh365
          have hh366 := (va_up_ne mem335 (.inr (2, [.int (6), .int (0), .int (0), .null, .null, .null, .ref (ad (21 + 2 * Ec))])) (show (220 : Nat) ≠ (20 + 2 * Ec) by first | decide | assumption | omega)).trans h220_343
          rw [← e_mem362] at hh366
          have hfr367 : ∀ i, 7 ≤ i ∧ i < 220 ∧ i ≠ 20 + 2 * Ec → mem362 i = mem i := fun i q => (show mem362 i = mem335 i by rw [e_mem362]; exact va_up_ne _ _ (by omega)).trans (hfr345 i q)
          have h221_368 : mem362 221 = .inl (cy 0, 240, .inl (s8)) := by rw [e_mem362, va_up_ne _ _ (by omega)]; exact h221_344
          have hRX369 : RX cy ad lim (a336) (R) (Ec + 1) (to) (nm) m0 mem362 := by rw [e_mem362]; exact hRX340.el (by omega) (hRX340.1.mk (by omega) (hRX340.1.1.upEl (by omega) (fun _ => ⟨Or.inl rfl, Or.inl rfl, Or.inl rfl⟩)))
          refine lv_aload Bx.1 Bx.2.1 d_Rd_readValue_159 (lv_at hl 1 rfl) ?_
          refine lv_aload_n Bx.1 Bx.2.1 d_Rd_readValue_161 rfl (lv_at hl 5 rfl) ?_
          refine f_get Bx hP (by omega) hh363 rfl inRd 1 (by decide) kw_145 rfl rfl d_Rd_readValue_162 ?_
          refine f_getN Bx hP (by omega) hh365 rfl inGr 2 (by decide) kw_120 rfl rfl d_Rd_readValue_165 ?_
          refine f_getN Bx hP (by omega) hh366 rfl inCh 1 (by decide) kw_33 rfl rfl d_Rd_readValue_168 ?_
          refine f_putN Bx hP hD hS (by omega) h_mem362 rfl inEl tyEl okEl nmEl 1 (by decide) kw_79 rfl rfl rfl rfl (Nat.le_of_ble_eq_true rfl) d_Rd_readValue_171 (fun H locs hP hS => ?_)
          obtain ⟨mem370, e_mem370⟩ : ∃ z, z = va_up mem362 ((20 + 2 * Ec)) (.inr (2, [.int (6), .int (nI S), .int (0), .null, .null, .null, .ref (ad (21 + 2 * Ec))])) := ⟨_, rfl⟩
          have hP : va_P D vcl (fw n ad mem370) H := by rw [e_mem370]; exact hP
          have hD : va_D (Az sz) (fw n ad mem370) := fw_D hD
          have h_mem370 : mem370 ((20 + 2 * Ec)) = .inr (2, [.int (6), .int (nI S), .int (0), .null, .null, .null, .ref (ad (21 + 2 * Ec))]) := by rw [e_mem370, va_up_self]
          have hh371 := (va_up_ne mem362 (.inr (2, [.int (6), .int (nI S), .int (0), .null, .null, .null, .ref (ad (21 + 2 * Ec))])) (show (222 : Nat) ≠ (20 + 2 * Ec) by first | decide | assumption | omega)).trans hh363
          rw [← e_mem370] at hh371
          have hh372 := (va_up_ne mem362 (.inr (2, [.int (6), .int (nI S), .int (0), .null, .null, .null, .ref (ad (21 + 2 * Ec))])) (show (1 : Nat) ≠ (20 + 2 * Ec) by first | decide | assumption | omega)).trans hh364
          rw [← e_mem370] at hh372
          have hh373 := (va_up_ne mem362 (.inr (2, [.int (6), .int (nI S), .int (0), .null, .null, .null, .ref (ad (21 + 2 * Ec))])) (show (5 : Nat) ≠ (20 + 2 * Ec) by first | decide | assumption | omega)).trans hh365
          rw [← e_mem370] at hh373
          have hh374 := (va_up_ne mem362 (.inr (2, [.int (6), .int (nI S), .int (0), .null, .null, .null, .ref (ad (21 + 2 * Ec))])) (show (220 : Nat) ≠ (20 + 2 * Ec) by first | decide | assumption | omega)).trans hh366
          rw [← e_mem370] at hh374
          have hfr375 : ∀ i, 7 ≤ i ∧ i < 220 ∧ i ≠ 20 + 2 * Ec → mem370 i = mem i := fun i q => (show mem370 i = mem362 i by rw [e_mem370]; exact va_up_ne _ _ (by omega)).trans (hfr367 i q)
          have h221_376 : mem370 221 = .inl (cy 0, 240, .inl (s8)) := by rw [e_mem370, va_up_ne _ _ (by omega)]; exact h221_368
          have hRX377 : RX cy ad lim (a336) (R) (Ec + 1) (to) (nm) m0 mem370 := by rw [e_mem370]; exact hRX369.el (by omega) (hRX369.1.mk (by omega) (hRX369.1.1.upEl (by omega) (fun _ => ⟨Or.inl rfl, Or.inl rfl, Or.inl rfl⟩)))
          refine lv_aload_n Bx.1 Bx.2.1 d_Rd_readValue_174 rfl (lv_at hl 5 rfl) ?_
          refine f_get Bx hP (by omega) hh371 rfl inRd 1 (by decide) kw_145 rfl rfl d_Rd_readValue_175 ?_
          refine f_getN Bx hP (by omega) hh373 rfl inGr 2 (by decide) kw_120 rfl rfl d_Rd_readValue_178 ?_
          refine lv_iload Bx.1 Bx.2.1 d_Rd_readValue_181 (lv_at hl 0 rfl) ?_
          refine f_callVv (na := 1) (As := [.int (r334)]) (rest := []) Bx hml E hP hD hS (by omega) hh374 rfl (m_Ch_appendY l hn hT hf hRX377 (by omega) hh374 h221_376 (by omega)) kw_462 kw_318 kw_319 kw_2 kw_320 (by decide +kernel) ⟨rfl, rfl⟩ ⟨Nat.le_of_ble_eq_true rfl, Nat.le_of_ble_eq_true rfl⟩ rfl hl.1 (Nat.le_of_ble_eq_true rfl) d_Rd_readValue_183 ⟨Nat.le_of_ble_eq_true rfl, Nat.le_of_ble_eq_true rfl⟩ (fun mem379 H locs hq hP hS => ?_)
          have hD : va_D (Az sz) (fw n ad mem379) := fw_D hD
          obtain ⟨hRX380, h220_381, h221_382, hfa383⟩ := hq
          rw [charN (numS_r (Or.inr rfl) hns337).1 (numS_r (Or.inr rfl) hns337).2] at h221_382
          obtain ⟨st384, est384⟩ : ∃ z, z = upd (s8) (S) (r334) := ⟨_, rfl⟩
          rw [← est384] at h221_382
          have hel385 := (hfa383 (20 + 2 * Ec) (by omega)).trans h_mem370
          have hfr386 : ∀ i, 7 ≤ i ∧ i < 220 ∧ i ≠ 20 + 2 * Ec → mem379 i = mem i := fun i q => (hfa383 i (by omega)).trans (hfr375 i q)
          obtain ⟨ft387, h9_388⟩ := hRX380.2.1
          have h1_389 : mem379 1 = .inr (0, [.ref (ad 2), .int (nI Z)]) := (hRX380.1.2.2 1 (by omega)).trans hT.1
          have h2_390 : mem379 2 = .inl (cy 0, 240, .inl f) := (hRX380.1.2.2 2 (by omega)).trans hT.2.2
          have h5_391 := hRX380.1.1.2.1
          have hbd397 := hRX380.1.1.1
          obtain ⟨S392, g393, hS_394, h220_395, h221_396⟩ := hRX380.1.1.2.2.2.2.2.2
          refine lv_iconst (v := 0) Bx.1 Bx.2.1 d_Rd_readValue_186 (by decide) ?_
          refine lv_istore (lv' := [(6, .int (0)), (5, .int (r334)), (4, .ref (ad (20 + 2 * Ec))), (3, .int (16)), (2, .int (120)), (1, .int (nI a)), (0, .ref (ad 222))]) Bx.1 Bx.2.1 d_Rd_readValue_187 hl (by decide) rfl (fun ls hl => ?_)
          have hec9 := hec305
          obtain ⟨A1, eA1⟩ : ∃ z, z = va_up (va_up (va_up A0 229 (upd (A0 229) e8 (nI u8))) 230 (upd (A0 230) e8 1)) 234 (upd (A0 234) u8 r334) := ⟨_, rfl⟩
          have hfu0 : furS T Z 16 e8 3 a336 (u8 + 1) A1 = numsS T Z (a + 1 + 1) u8 e8 16 A0 := by rw [eA1]; exact (numsS_fu hns337 hb361).symm
          have hsp0 : (∀ j, j ≠ 229 → j ≠ 230 → j ≠ 234 → A1 j = A0 j) ∧ (∀ i, i ≠ e8 → A1 229 i = A0 229 i ∧ A1 230 i = A0 230 i) ∧ A1 229 e8 = nI u8 ∧ A1 230 e8 = nI (1 + 0) ∧ (∀ m, m < u8 → A1 234 m = A0 234 m) ∧ ∀ m, m < 1 + 0 → st384 (S + m) = A1 234 (u8 + m) := by
            rw [eA1]
            refine ⟨fun j q9 q0 q4 => by rw [va_up_ne _ _ q4, va_up_ne _ _ q0, va_up_ne _ _ q9], fun i hi => ⟨by show upd _ e8 _ i = _; rw [upd_ne hi], by show upd _ e8 _ i = _; rw [upd_ne hi]⟩, by show upd _ e8 _ e8 = _; rw [upd_self], by show upd _ e8 _ e8 = _; rw [upd_self]; rfl, fun m hm => by show upd _ u8 _ m = _; rw [upd_ne (by omega)], fun m hm => ?_⟩
            obtain rfl : m = 0 := by omega
            show st384 (S + 0) = upd _ u8 _ (u8 + 0)
            rw [est384, Nat.add_zero, Nat.add_zero, upd_self, upd_self]
          have loop398 : ∀ (d399 : Nat) (mem9 : Nat → va_E) (a1 : Nat) (k : Nat) (s9 : Nat → Int32) (A9 : Ro) (ls : Array Slot) (H : Heap) (locs : List Loc), (3 - k < d399) → (RX cy ad lim a1 R (Ec + 1) to nm m0 mem9) → (a < a1 ∧ a1 ≤ Z ∧ k ≤ 3 ∧ S + (1 + k) < a1) → (furP T Z 16 (3 - k) a1 = furP T Z 16 3 a336) → (mem9 (20 + 2 * Ec) = eCl ad Ec 6 (nI S) 0 .null .null .null) → (mem9 220 = .inr (0, [.ref (ad 221), .int (nI (S + (1 + k)))]) ∧ mem9 221 = .inl (cy 0, 240, .inl s9) ∧ ∀ m, m < S → s9 m = s8 m) → (furS T Z 16 e8 (3 - k) a1 (u8 + (1 + k)) A9 = numsS T Z (a + 1 + 1) u8 e8 16 A0) → ((∀ j, j ≠ 229 → j ≠ 230 → j ≠ 234 → A9 j = A0 j) ∧ (∀ i, i ≠ e8 → A9 229 i = A0 229 i ∧ A9 230 i = A0 230 i) ∧ A9 229 e8 = nI u8 ∧ A9 230 e8 = nI (1 + k) ∧ (∀ m, m < u8 → A9 234 m = A0 234 m) ∧ ∀ m, m < 1 + k → s9 (S + m) = A9 234 (u8 + m)) → (∀ i, 7 ≤ i ∧ i < 220 ∧ i ≠ 20 + 2 * Ec → mem9 i = mem i) → (va_P D vcl (fw n ad mem9) H) → (va_D (Az sz) (fw n ad mem9)) → (va_S (Az sz) s.heap H locs) → (lv_has ls 7 [(6, .int (nI k)), (4, .ref (ad (20 + 2 * Ec))), (3, .int (16)), (1, .int (nI a)), (0, .ref (ad 222))]) → W p l e (headSpec (Cond.code y_Rd_readValue c_Rd_readValue 7 (some (.object "AbnfChart$Element")) :: tg) ({ frames := 12, cells := 1, slots := 6, locals := 280 } : Room)).room s m [.ref (ad 222)].toArray below meth c H locs 0 0 (vx_MQ below (QX (QR (fun r mem' => Ec < 100 ∧ ∃ (ba : Int32) (a' u' : Nat) (A' : Ro), ((smF (hereF Z T (a + 1)) = 100 ∧ ba = 10) ∨ (smF (hereF Z T (a + 1)) = 120 ∧ ba = 16)) ∧ numsS T Z (a + 1 + 1) u8 e8 ba A0 = some (a', u', A') ∧ r = ad (20 + 2 * Ec) ∧ a < a' ∧ a' ≤ Z ∧ RX cy ad lim a' R (Ec + 1) to nm m0 mem' ∧ SPn e8 u8 A0 A' ∧ ((∃ v w : Int32, mem' (20 + 2 * Ec) = eCl ad Ec 7 v w .null .null .null ∧ A' 228 e8 = 5 ∧ A' 229 e8 = v ∧ A' 230 e8 = w ∧ mem' 220 = .inr (0, [.ref (ad 221), .int (nI S)]) ∧ mem' 221 = .inl (cy 0, 240, .inl s8) ∧ u' = u8 + 1) ∨ (∃ (t9 : Nat) (s9 : Nat → Int32), mem' (20 + 2 * Ec) = eCl ad Ec 6 (nI S) (nI (S + t9)) .null .null .null ∧ A' 228 e8 = A0 228 e8 ∧ A' 229 e8 = nI u8 ∧ A' 230 e8 = nI t9 ∧ mem' 220 = .inr (0, [.ref (ad 221), .int (nI (S + t9))]) ∧ mem' 221 = .inl (cy 0, 240, .inl s9) ∧ (∀ m, m < S → s9 m = s8 m) ∧ (∀ m, m < t9 → s9 (S + m) = A' 234 (u8 + m)) ∧ S + t9 < a' ∧ u' = u8 + t9)) ∧ ∀ i, 7 ≤ i ∧ i < 220 ∧ i ≠ 20 + 2 * Ec → mem' i = mem i) (PP D n ad) (Az sz))) (XQ D sz n ad (fun X mem' => ((X = cIA ∨ X = cIS) ∧ ∃ rc' ec' : Nat, RS cy ad lim rc' ec' m0 mem') ∧ ((¬ smF (hereF Z T (a + 1)) = 100 ∧ ¬ smF (hereF Z T (a + 1)) = 120) ∨ Ec = 100 ∨ ∃ ba : Int32, ((smF (hereF Z T (a + 1)) = 100 ∧ ba = 10) ∨ (smF (hereF Z T (a + 1)) = 120 ∧ ba = 16)) ∧ numsP T Z (a + 1 + 1) ba = none))) [.ref (ad 222)].toArray s 1 6 (Az sz)) (F0 m 189 ls []) := by
            intro d399
            induction d399 with
            | zero => intro mem9 a1 k s9 A9 ls H locs hmeas409; exact absurd hmeas409 (Nat.not_lt_zero _)
            | succ d399 ih408 =>
              intro mem9 a1 k s9 A9 ls H locs hmeas409 hz400 hz401 hz402 hz403 hz404 hz405 hz406 hz407 hP hD hS hl
              have hbd8 := hz401
              obtain ⟨h2209, h2219, hs1⟩ := hz404
              obtain ⟨r1, r2, r3, r4, r5, r6⟩ := hz406
              obtain ⟨ft410, h9_411⟩ := hz400.2.1
              have h1_412 : mem9 1 = .inr (0, [.ref (ad 2), .int (nI Z)]) := (hz400.1.2.2 1 (by omega)).trans hT.1
              have h2_413 : mem9 2 = .inl (cy 0, 240, .inl f) := (hz400.1.2.2 2 (by omega)).trans hT.2.2
              have h5_414 := hz400.1.1.2.1
              have hbd420 := hz400.1.1.1
              obtain ⟨S415, g416, hS_417, h220_418, h221_419⟩ := hz400.1.1.2.2.2.2.2.2
              refine lv_iload Bx.1 Bx.2.1 d_Rd_readValue_189 (lv_at hl 0 rfl) ?_
              refine lv_iconst (v := 3) Bx.1 Bx.2.1 d_Rd_readValue_191 (by decide) ?_
              refine lv_icmp_ge Bx.1 Bx.2.1 d_Rd_readValue_192 rfl (fun hb421 => ?_) (fun hb421 => ?_)
              · have hN422 : 3 ≤ k := (nI_leI (by omega) (by omega)).mp (show nI (3) ≤ nI (k) from hb421)
                have hns9 : numsS T Z (a + 1 + 1) u8 e8 16 A0 = some (a1, u8 + (1 + k), A9) := by rw [← hz405]; exact by rw [show 3 - k = 0 by omega]; rfl
                refine lv_aload Bx.1 Bx.2.1 d_Rd_readValue_236 (lv_at hl 1 rfl) ?_
                refine lv_aload_n Bx.1 Bx.2.1 d_Rd_readValue_238 rfl (lv_at hl 4 rfl) ?_
                refine f_get Bx hP (by omega) h9_411 rfl inRd 1 (by decide) kw_145 rfl rfl d_Rd_readValue_239 ?_
                refine f_getN Bx hP (by omega) h5_414 rfl inGr 2 (by decide) kw_120 rfl rfl d_Rd_readValue_242 ?_
                refine f_getN Bx hP (by omega) h2209 rfl inCh 1 (by decide) kw_33 rfl rfl d_Rd_readValue_245 ?_
                refine f_putN Bx hP hD hS (by omega) hz403 rfl inEl tyEl okEl nmEl 2 (by decide) kw_82 rfl rfl rfl rfl (Nat.le_of_ble_eq_true rfl) d_Rd_readValue_248 (fun H locs hP hS => ?_)
                obtain ⟨mem423, e_mem423⟩ : ∃ z, z = va_up mem9 ((20 + 2 * Ec)) (.inr (2, [.int (6), .int (nI S), .int (nI (S + (1 + k))), .null, .null, .null, .ref (ad (21 + 2 * Ec))])) := ⟨_, rfl⟩
                have hP : va_P D vcl (fw n ad mem423) H := by rw [e_mem423]; exact hP
                have hD : va_D (Az sz) (fw n ad mem423) := fw_D hD
                have h_mem423 : mem423 ((20 + 2 * Ec)) = .inr (2, [.int (6), .int (nI S), .int (nI (S + (1 + k))), .null, .null, .null, .ref (ad (21 + 2 * Ec))]) := by rw [e_mem423, va_up_self]
                have hh424 := (va_up_ne mem9 (.inr (2, [.int (6), .int (nI S), .int (nI (S + (1 + k))), .null, .null, .null, .ref (ad (21 + 2 * Ec))])) (show (222 : Nat) ≠ (20 + 2 * Ec) by first | decide | assumption | omega)).trans h9_411
                rw [← e_mem423] at hh424
                have hh425 := (va_up_ne mem9 (.inr (2, [.int (6), .int (nI S), .int (nI (S + (1 + k))), .null, .null, .null, .ref (ad (21 + 2 * Ec))])) (show (1 : Nat) ≠ (20 + 2 * Ec) by first | decide | assumption | omega)).trans h1_412
                rw [← e_mem423] at hh425
                have hh426 := (va_up_ne mem9 (.inr (2, [.int (6), .int (nI S), .int (nI (S + (1 + k))), .null, .null, .null, .ref (ad (21 + 2 * Ec))])) (show (5 : Nat) ≠ (20 + 2 * Ec) by first | decide | assumption | omega)).trans h5_414
                rw [← e_mem423] at hh426
                have hh427 := (va_up_ne mem9 (.inr (2, [.int (6), .int (nI S), .int (nI (S + (1 + k))), .null, .null, .null, .ref (ad (21 + 2 * Ec))])) (show (220 : Nat) ≠ (20 + 2 * Ec) by first | decide | assumption | omega)).trans h2209
                rw [← e_mem423] at hh427
                have hfr428 : ∀ i, 7 ≤ i ∧ i < 220 ∧ i ≠ 20 + 2 * Ec → mem423 i = mem i := fun i q => (show mem423 i = mem9 i by rw [e_mem423]; exact va_up_ne _ _ (by omega)).trans (hz407 i q)
                have h221_429 : mem423 221 = .inl (cy 0, 240, .inl (s9)) := by rw [e_mem423, va_up_ne _ _ (by omega)]; exact h2219
                have hRX430 : RX cy ad lim (a1) (R) (Ec + 1) (to) (nm) m0 mem423 := by rw [e_mem423]; exact hz400.el (by omega) (hz400.1.mk (by omega) (hz400.1.1.upEl (by omega) (fun _ => ⟨Or.inl rfl, Or.inl rfl, Or.inl rfl⟩)))
                refine lv_aload Bx.1 Bx.2.1 d_Rd_readValue_251 (lv_at hl 1 rfl) ?_
                exact x_aret hx hb hlocks hr (⟨by omega, 16, a1, u8 + (1 + k), A9, Or.inr ⟨hb287, rfl⟩, hns9, rfl, by omega, by omega, hRX430, ⟨fun j q1 q2 q3 q4 => r1 j q2 q3 q4, fun k hk => ⟨by rw [r1 228 (by decide) (by decide) (by decide)], (r2 k hk).1, (r2 k hk).2⟩, r5⟩, Or.inr ⟨1 + k, s9, h_mem423, by rw [r1 228 (by decide) (by decide) (by decide)], r3, r4, hh427, h221_429, hs1, r6, by omega, rfl⟩, hfr428⟩) hP hS d_Rd_readValue_253
              · have hN431 : ¬ 3 ≤ k := fun q9 => hb421 (show nI (3) ≤ nI (k) from (nI_leI (by omega) (by omega)).mpr q9)
                refine lv_aload_n Bx.1 Bx.2.1 d_Rd_readValue_195 rfl (lv_at hl 4 rfl) ?_
                refine f_callVi (na := 0) (As := []) (rest := []) Bx hml E hP hD hS (by omega) h9_411 rfl (m_Rd_peekX l hn hT hf hz400 (by omega)) kw_353 kw_355 sel_Rd_peek kw_6 kw_356 (by decide +kernel) ⟨rfl, rfl⟩ ⟨Nat.le_of_ble_eq_true rfl, Nat.le_of_ble_eq_true rfl⟩ rfl hl.1 (Nat.le_of_ble_eq_true rfl) d_Rd_readValue_196 ⟨Nat.le_of_ble_eq_true rfl, Nat.le_of_ble_eq_true rfl⟩ (fun r433 mem434 H locs hq hP hS => ?_)
                have hD : va_D (Az sz) (fw n ad mem434) := fw_D hD
                obtain ⟨hqe, hpk432⟩ := hq
                rw [hqe] at hP hD
                subst hpk432
                refine lv_bipush (v := 46) Bx.1 Bx.2.1 d_Rd_readValue_199 (by decide) ?_
                refine lv_icmp_ne Bx.1 Bx.2.1 d_Rd_readValue_201 rfl (fun hb436 => ?_) (fun hb436 => ?_)
                · have hns9 : numsS T Z (a + 1 + 1) u8 e8 16 A0 = some (a1, u8 + (1 + k), A9) := by rw [← hz405]; exact furS_no hb436
                  refine lv_aload Bx.1 Bx.2.1 d_Rd_readValue_236 (lv_at hl 1 rfl) ?_
                  refine lv_aload_n Bx.1 Bx.2.1 d_Rd_readValue_238 rfl (lv_at hl 4 rfl) ?_
                  refine f_get Bx hP (by omega) h9_411 rfl inRd 1 (by decide) kw_145 rfl rfl d_Rd_readValue_239 ?_
                  refine f_getN Bx hP (by omega) h5_414 rfl inGr 2 (by decide) kw_120 rfl rfl d_Rd_readValue_242 ?_
                  refine f_getN Bx hP (by omega) h2209 rfl inCh 1 (by decide) kw_33 rfl rfl d_Rd_readValue_245 ?_
                  refine f_putN Bx hP hD hS (by omega) hz403 rfl inEl tyEl okEl nmEl 2 (by decide) kw_82 rfl rfl rfl rfl (Nat.le_of_ble_eq_true rfl) d_Rd_readValue_248 (fun H locs hP hS => ?_)
                  obtain ⟨mem437, e_mem437⟩ : ∃ z, z = va_up mem9 ((20 + 2 * Ec)) (.inr (2, [.int (6), .int (nI S), .int (nI (S + (1 + k))), .null, .null, .null, .ref (ad (21 + 2 * Ec))])) := ⟨_, rfl⟩
                  have hP : va_P D vcl (fw n ad mem437) H := by rw [e_mem437]; exact hP
                  have hD : va_D (Az sz) (fw n ad mem437) := fw_D hD
                  have h_mem437 : mem437 ((20 + 2 * Ec)) = .inr (2, [.int (6), .int (nI S), .int (nI (S + (1 + k))), .null, .null, .null, .ref (ad (21 + 2 * Ec))]) := by rw [e_mem437, va_up_self]
                  have hh438 := (va_up_ne mem9 (.inr (2, [.int (6), .int (nI S), .int (nI (S + (1 + k))), .null, .null, .null, .ref (ad (21 + 2 * Ec))])) (show (222 : Nat) ≠ (20 + 2 * Ec) by first | decide | assumption | omega)).trans h9_411
                  rw [← e_mem437] at hh438
                  have hh439 := (va_up_ne mem9 (.inr (2, [.int (6), .int (nI S), .int (nI (S + (1 + k))), .null, .null, .null, .ref (ad (21 + 2 * Ec))])) (show (1 : Nat) ≠ (20 + 2 * Ec) by first | decide | assumption | omega)).trans h1_412
                  rw [← e_mem437] at hh439
                  have hh440 := (va_up_ne mem9 (.inr (2, [.int (6), .int (nI S), .int (nI (S + (1 + k))), .null, .null, .null, .ref (ad (21 + 2 * Ec))])) (show (5 : Nat) ≠ (20 + 2 * Ec) by first | decide | assumption | omega)).trans h5_414
                  rw [← e_mem437] at hh440
                  have hh441 := (va_up_ne mem9 (.inr (2, [.int (6), .int (nI S), .int (nI (S + (1 + k))), .null, .null, .null, .ref (ad (21 + 2 * Ec))])) (show (220 : Nat) ≠ (20 + 2 * Ec) by first | decide | assumption | omega)).trans h2209
                  rw [← e_mem437] at hh441
                  have hfr442 : ∀ i, 7 ≤ i ∧ i < 220 ∧ i ≠ 20 + 2 * Ec → mem437 i = mem i := fun i q => (show mem437 i = mem9 i by rw [e_mem437]; exact va_up_ne _ _ (by omega)).trans (hz407 i q)
                  have h221_443 : mem437 221 = .inl (cy 0, 240, .inl (s9)) := by rw [e_mem437, va_up_ne _ _ (by omega)]; exact h2219
                  have hRX444 : RX cy ad lim (a1) (R) (Ec + 1) (to) (nm) m0 mem437 := by rw [e_mem437]; exact hz400.el (by omega) (hz400.1.mk (by omega) (hz400.1.1.upEl (by omega) (fun _ => ⟨Or.inl rfl, Or.inl rfl, Or.inl rfl⟩)))
                  refine lv_aload Bx.1 Bx.2.1 d_Rd_readValue_251 (lv_at hl 1 rfl) ?_
                  exact x_aret hx hb hlocks hr (⟨by omega, 16, a1, u8 + (1 + k), A9, Or.inr ⟨hb287, rfl⟩, hns9, rfl, by omega, by omega, hRX444, ⟨fun j q1 q2 q3 q4 => r1 j q2 q3 q4, fun k hk => ⟨by rw [r1 228 (by decide) (by decide) (by decide)], (r2 k hk).1, (r2 k hk).2⟩, r5⟩, Or.inr ⟨1 + k, s9, h_mem437, by rw [r1 228 (by decide) (by decide) (by decide)], r3, r4, hh441, h221_443, hs1, r6, by omega, rfl⟩, hfr442⟩) hP hS d_Rd_readValue_253
                · have hlt445 := hereF_lt (by rw [hb436]; decide)
                  refine lv_aload_n Bx.1 Bx.2.1 d_Rd_readValue_204 rfl (lv_at hl 4 rfl) ?_
                  refine lv_dup Bx.1 Bx.2.1 d_Rd_readValue_205 rfl ?_
                  refine f_get Bx hP (by omega) h9_411 rfl inRd 2 (by decide) kw_146 rfl rfl d_Rd_readValue_206 ?_
                  refine lv_iconst (v := 1) Bx.1 Bx.2.1 d_Rd_readValue_209 (by decide) ?_
                  refine lv_iadd Bx.1 Bx.2.1 d_Rd_readValue_210 ?_
                  rw [show nI a1 + 1 = nI (a1 + 1) from nI_add (a1) (1)]
                  refine f_put Bx hP hD hS (by omega) h9_411 rfl inRd tyRd okRd nmRd 2 (by decide) kw_146 rfl rfl rfl rfl (Nat.le_of_ble_eq_true rfl) d_Rd_readValue_211 (fun H locs hP hS => ?_)
                  obtain ⟨mem446, e_mem446⟩ : ∃ z, z = va_up mem9 (222) (.inr (4, [.ref (ad 1), .ref (ad 5), .int (nI (a1 + 1)), .int (ft410)])) := ⟨_, rfl⟩
                  have hP : va_P D vcl (fw n ad mem446) H := by rw [e_mem446]; exact hP
                  have hD : va_D (Az sz) (fw n ad mem446) := fw_D hD
                  have h_mem446 : mem446 (222) = .inr (4, [.ref (ad 1), .ref (ad 5), .int (nI (a1 + 1)), .int (ft410)]) := by rw [e_mem446, va_up_self]
                  have hh447 := (va_up_ne mem9 (.inr (4, [.ref (ad 1), .ref (ad 5), .int (nI (a1 + 1)), .int (ft410)])) (show (1 : Nat) ≠ 222 by first | decide | assumption | omega)).trans h1_412
                  rw [← e_mem446] at hh447
                  have hh448 := (va_up_ne mem9 (.inr (4, [.ref (ad 1), .ref (ad 5), .int (nI (a1 + 1)), .int (ft410)])) (show (5 : Nat) ≠ 222 by first | decide | assumption | omega)).trans h5_414
                  rw [← e_mem446] at hh448
                  have hh449 := (va_up_ne mem9 (.inr (4, [.ref (ad 1), .ref (ad 5), .int (nI (a1 + 1)), .int (ft410)])) (show (220 : Nat) ≠ 222 by first | decide | assumption | omega)).trans h2209
                  rw [← e_mem446] at hh449
                  have hh450 := (va_up_ne mem9 (.inr (4, [.ref (ad 1), .ref (ad 5), .int (nI (a1 + 1)), .int (ft410)])) (show ((20 + 2 * Ec) : Nat) ≠ 222 by first | decide | assumption | omega)).trans hz403
                  rw [← e_mem446] at hh450
                  have hfr451 : ∀ i, 7 ≤ i ∧ i < 220 ∧ i ≠ 20 + 2 * Ec → mem446 i = mem i := fun i q => (show mem446 i = mem9 i by rw [e_mem446]; exact va_up_ne _ _ (by omega)).trans (hz407 i q)
                  have h221_452 : mem446 221 = .inl (cy 0, 240, .inl (s9)) := by rw [e_mem446, va_up_ne _ _ (by omega)]; exact h2219
                  have hRX453 : RX cy ad lim (a1 + 1) (R) (Ec + 1) (to) (nm) m0 mem446 := by rw [e_mem446]; exact hz400.at
                  refine lv_aload_n Bx.1 Bx.2.1 d_Rd_readValue_214 rfl (lv_at hl 4 rfl) ?_
                  refine f_get Bx hP (by omega) h_mem446 rfl inRd 1 (by decide) kw_145 rfl rfl d_Rd_readValue_215 ?_
                  refine f_getN Bx hP (by omega) hh448 rfl inGr 2 (by decide) kw_120 rfl rfl d_Rd_readValue_218 ?_
                  refine lv_aload_n Bx.1 Bx.2.1 d_Rd_readValue_221 rfl (lv_at hl 4 rfl) ?_
                  refine lv_iload_n Bx.1 Bx.2.1 d_Rd_readValue_222 rfl (lv_at hl 3 rfl) ?_
                  refine lv_iload_n Bx.1 Bx.2.1 d_Rd_readValue_223 rfl (lv_at hl 2 rfl) ?_
                  refine f_xVi (na := 2) (As := [.int (nI a), .int (16)]) (rest := [.ref (ad 220)]) Bx hml E hP hD hS (by omega) h_mem446 rfl (m_Rd_readNumberX l hlt hn hT hf hRX453 (by omega) (by omega)) kw_471 kw_473 sel_Rd_readNumber kw_6 kw_474 (by decide +kernel) ⟨rfl, rfl⟩ ⟨Nat.le_of_ble_eq_true rfl, Nat.le_of_ble_eq_true rfl⟩ rfl hl.1 (Nat.le_of_ble_eq_true rfl) d_Rd_readValue_224 ⟨Nat.le_of_ble_eq_true rfl, Nat.le_of_ble_eq_true rfl⟩ (fun X ce q9 memx H locs hx9 hP hS g1 g2 g3 => f_out hlocks hno hP hS g1 g2 g3 ⟨Nat.le_of_ble_eq_true rfl, Nat.le_of_ble_eq_true rfl⟩ ⟨hx9.1, Or.inr (Or.inr ⟨16, Or.inr ⟨hb287, rfl⟩, (by rw [numsP_fu hns337 hb361, ← hz402, show 3 - k = (3 - (k + 1)) + 1 by omega]; exact furP_bad hb436 hx9.2)⟩)⟩) (fun r454 mem455 H locs hq hP hS => ?_)
                  have hD : va_D (Az sz) (fw n ad mem455) := fw_D hD
                  obtain ⟨a456, hns457, hg458, hg459, hRX460, hfa461⟩ := hq
                  have hel462 := (hfa461 (20 + 2 * Ec) (by omega)).trans hh450
                  have h220_463 := (hfa461 220 (by omega)).trans hh449
                  have h221_464 := (hfa461 221 (by omega)).trans h221_452
                  have hfr465 : ∀ i, 7 ≤ i ∧ i < 220 ∧ i ≠ 20 + 2 * Ec → mem455 i = mem i := fun i q => (hfa461 i (by omega)).trans (hfr451 i q)
                  obtain ⟨ft466, h9_467⟩ := hRX460.2.1
                  have h1_468 : mem455 1 = .inr (0, [.ref (ad 2), .int (nI Z)]) := (hRX460.1.2.2 1 (by omega)).trans hT.1
                  have h2_469 : mem455 2 = .inl (cy 0, 240, .inl f) := (hRX460.1.2.2 2 (by omega)).trans hT.2.2
                  have h5_470 := hRX460.1.1.2.1
                  have hbd476 := hRX460.1.1.1
                  obtain ⟨S471, g472, hS_473, h220_474, h221_475⟩ := hRX460.1.1.2.2.2.2.2.2
                  refine f_callVv (na := 1) (As := [.int (r454)]) (rest := []) Bx hml E hP hD hS (by omega) h220_463 rfl (m_Ch_appendY l hn hT hf hRX460 (by omega) h220_463 h221_464 (by omega)) kw_462 kw_318 kw_319 kw_2 kw_320 (by decide +kernel) ⟨rfl, rfl⟩ ⟨Nat.le_of_ble_eq_true rfl, Nat.le_of_ble_eq_true rfl⟩ rfl hl.1 (Nat.le_of_ble_eq_true rfl) d_Rd_readValue_227 ⟨Nat.le_of_ble_eq_true rfl, Nat.le_of_ble_eq_true rfl⟩ (fun mem478 H locs hq hP hS => ?_)
                  have hD : va_D (Az sz) (fw n ad mem478) := fw_D hD
                  obtain ⟨hRX479, h220_480, h221_481, hfa482⟩ := hq
                  rw [charN (numS_r (Or.inr rfl) hns457).1 (numS_r (Or.inr rfl) hns457).2] at h221_481
                  obtain ⟨st483, est483⟩ : ∃ z, z = upd (s9) (S + (1 + k)) (r454) := ⟨_, rfl⟩
                  rw [← est483] at h221_481
                  have hel484 := (hfa482 (20 + 2 * Ec) (by omega)).trans hel462
                  have hfr485 : ∀ i, 7 ≤ i ∧ i < 220 ∧ i ≠ 20 + 2 * Ec → mem478 i = mem i := fun i q => (hfa482 i (by omega)).trans (hfr465 i q)
                  obtain ⟨ft486, h9_487⟩ := hRX479.2.1
                  have h1_488 : mem478 1 = .inr (0, [.ref (ad 2), .int (nI Z)]) := (hRX479.1.2.2 1 (by omega)).trans hT.1
                  have h2_489 : mem478 2 = .inl (cy 0, 240, .inl f) := (hRX479.1.2.2 2 (by omega)).trans hT.2.2
                  have h5_490 := hRX479.1.1.2.1
                  have hbd496 := hRX479.1.1.1
                  obtain ⟨S491, g492, hS_493, h220_494, h221_495⟩ := hRX479.1.1.2.2.2.2.2.2
                  refine lv_iinc (lv' := [(6, .int ((nI k + (1)))), (4, .ref (ad (20 + 2 * Ec))), (3, .int (16)), (1, .int (nI a)), (0, .ref (ad 222))]) Bx.1 Bx.2.1 d_Rd_readValue_230 hl (k := 0) rfl rfl (by decide) rfl (fun ls hl => ?_)
                  rw [show (nI k + (1) : Int32) = nI (k + 1) from nI_1 (k)] at hl
                  refine lv_goto Bx.1 Bx.2.1 d_Rd_readValue_233 rfl ?_
                  obtain ⟨A10, eA10⟩ : ∃ z, z = va_up (va_up A9 234 (upd (A9 234) (u8 + (1 + k)) r454)) 230 (upd (A9 230) e8 (A9 230 e8 + 1)) := ⟨_, rfl⟩
                  have hfs2 : furS T Z 16 e8 (3 - (k + 1)) a456 (u8 + (1 + (k + 1))) A10 = numsS T Z (a + 1 + 1) u8 e8 16 A0 := by
                    rw [← hz405, show 3 - k = (3 - (k + 1)) + 1 by omega, furS_on hb436 hns457, eA10]; rfl
                  have hsp2 : (∀ j, j ≠ 229 → j ≠ 230 → j ≠ 234 → A10 j = A0 j) ∧ (∀ i, i ≠ e8 → A10 229 i = A0 229 i ∧ A10 230 i = A0 230 i) ∧ A10 229 e8 = nI u8 ∧ A10 230 e8 = nI (1 + (k + 1)) ∧ (∀ m, m < u8 → A10 234 m = A0 234 m) ∧ ∀ m, m < 1 + (k + 1) → st483 (S + m) = A10 234 (u8 + m) := by
                    rw [eA10]
                    refine ⟨fun j q9 q0 q4 => by rw [va_up_ne _ _ q0, va_up_ne _ _ q4]; exact r1 j q9 q0 q4, fun i hi => ⟨(r2 i hi).1, by show upd _ e8 _ i = _; rw [upd_ne hi]; exact (r2 i hi).2⟩, r3, by show upd _ e8 _ e8 = _; rw [upd_self, r4]; exact nI_1 (1 + k), fun m hm => by show upd _ (u8 + (1 + k)) _ m = _; rw [upd_ne (by omega)]; exact r5 m hm, fun m hm => ?_⟩
                    show st483 (S + m) = upd _ (u8 + (1 + k)) _ (u8 + m)
                    rw [est483]
                    by_cases q9 : m = 1 + k
                    · rw [q9, upd_self, upd_self]
                    · rw [upd_ne (by omega), upd_ne (by omega)]; exact r6 m (by omega)
                  exact ih408 mem478 (a456) (k + 1) (st483) (A10) _ _ _ (by have := hmeas409; omega) (hRX479) (⟨by omega, by omega, by omega, by omega⟩) (by rw [← hz402, show 3 - k = (3 - (k + 1)) + 1 by omega, furP_on hb436 hns457]) (hel484) (⟨h220_480, h221_481, fun m hm => by rw [est483, upd_ne (by omega)]; exact hs1 m hm⟩) (hfs2) (hsp2) (hfr485) hP hD hS (lv_sub hl [0, 1, 2, 3, 4] rfl)
          exact loop398 _ mem379 (a336) (0) (st384) (A1) _ _ _ (Nat.lt_succ_self _) (hRX380) (⟨by omega, by omega, by omega, by omega⟩) (rfl) (hel385) (⟨h220_381, h221_382, fun m hm => by rw [est384, upd_ne (by omega)]⟩) (hfu0) (hsp0) (hfr386) hP hD hS (lv_sub hl [0, 2, 3, 5, 6] rfl)
        · have hlt497 := hereF_lt (by rw [hb361]; decide)
          refine lv_aload_n Bx.1 Bx.2.1 d_Rd_readValue_98 rfl (lv_at hl 5 rfl) ?_
          refine lv_dup Bx.1 Bx.2.1 d_Rd_readValue_99 rfl ?_
          refine f_get Bx hP (by omega) h9_347 rfl inRd 2 (by decide) kw_146 rfl rfl d_Rd_readValue_100 ?_
          refine lv_iconst (v := 1) Bx.1 Bx.2.1 d_Rd_readValue_103 (by decide) ?_
          refine lv_iadd Bx.1 Bx.2.1 d_Rd_readValue_104 ?_
          rw [show nI a336 + 1 = nI (a336 + 1) from nI_add (a336) (1)]
          refine f_put Bx hP hD hS (by omega) h9_347 rfl inRd tyRd okRd nmRd 2 (by decide) kw_146 rfl rfl rfl rfl (Nat.le_of_ble_eq_true rfl) d_Rd_readValue_105 (fun H locs hP hS => ?_)
          obtain ⟨mem498, e_mem498⟩ : ∃ z, z = va_up mem335 (222) (.inr (4, [.ref (ad 1), .ref (ad 5), .int (nI (a336 + 1)), .int (ft346)])) := ⟨_, rfl⟩
          have hP : va_P D vcl (fw n ad mem498) H := by rw [e_mem498]; exact hP
          have hD : va_D (Az sz) (fw n ad mem498) := fw_D hD
          have h_mem498 : mem498 (222) = .inr (4, [.ref (ad 1), .ref (ad 5), .int (nI (a336 + 1)), .int (ft346)]) := by rw [e_mem498, va_up_self]
          have hh499 := (va_up_ne mem335 (.inr (4, [.ref (ad 1), .ref (ad 5), .int (nI (a336 + 1)), .int (ft346)])) (show (1 : Nat) ≠ 222 by first | decide | assumption | omega)).trans h1_348
          rw [← e_mem498] at hh499
          have hh500 := (va_up_ne mem335 (.inr (4, [.ref (ad 1), .ref (ad 5), .int (nI (a336 + 1)), .int (ft346)])) (show (5 : Nat) ≠ 222 by first | decide | assumption | omega)).trans h5_350
          rw [← e_mem498] at hh500
          have hh501 := (va_up_ne mem335 (.inr (4, [.ref (ad 1), .ref (ad 5), .int (nI (a336 + 1)), .int (ft346)])) (show (220 : Nat) ≠ 222 by first | decide | assumption | omega)).trans h220_343
          rw [← e_mem498] at hh501
          have hh502 := (va_up_ne mem335 (.inr (4, [.ref (ad 1), .ref (ad 5), .int (nI (a336 + 1)), .int (ft346)])) (show ((20 + 2 * Ec) : Nat) ≠ 222 by first | decide | assumption | omega)).trans hel342
          rw [← e_mem498] at hh502
          have hfr503 : ∀ i, 7 ≤ i ∧ i < 220 ∧ i ≠ 20 + 2 * Ec → mem498 i = mem i := fun i q => (show mem498 i = mem335 i by rw [e_mem498]; exact va_up_ne _ _ (by omega)).trans (hfr345 i q)
          have h221_504 : mem498 221 = .inl (cy 0, 240, .inl (s8)) := by rw [e_mem498, va_up_ne _ _ (by omega)]; exact h221_344
          have hRX505 : RX cy ad lim (a336 + 1) (R) (Ec + 1) (to) (nm) m0 mem498 := by rw [e_mem498]; exact hRX340.at
          refine lv_aload Bx.1 Bx.2.1 d_Rd_readValue_108 (lv_at hl 1 rfl) ?_
          refine lv_iload Bx.1 Bx.2.1 d_Rd_readValue_110 (lv_at hl 0 rfl) ?_
          refine f_putN Bx hP hD hS (by omega) hh502 rfl inEl tyEl okEl nmEl 1 (by decide) kw_79 rfl rfl rfl rfl (Nat.le_of_ble_eq_true rfl) d_Rd_readValue_112 (fun H locs hP hS => ?_)
          obtain ⟨mem506, e_mem506⟩ : ∃ z, z = va_up mem498 ((20 + 2 * Ec)) (.inr (2, [.int (7), .int (r334), .int (0), .null, .null, .null, .ref (ad (21 + 2 * Ec))])) := ⟨_, rfl⟩
          have hP : va_P D vcl (fw n ad mem506) H := by rw [e_mem506]; exact hP
          have hD : va_D (Az sz) (fw n ad mem506) := fw_D hD
          have h_mem506 : mem506 ((20 + 2 * Ec)) = .inr (2, [.int (7), .int (r334), .int (0), .null, .null, .null, .ref (ad (21 + 2 * Ec))]) := by rw [e_mem506, va_up_self]
          have hh507 := (va_up_ne mem498 (.inr (2, [.int (7), .int (r334), .int (0), .null, .null, .null, .ref (ad (21 + 2 * Ec))])) (show (222 : Nat) ≠ (20 + 2 * Ec) by first | decide | assumption | omega)).trans h_mem498
          rw [← e_mem506] at hh507
          have hh508 := (va_up_ne mem498 (.inr (2, [.int (7), .int (r334), .int (0), .null, .null, .null, .ref (ad (21 + 2 * Ec))])) (show (1 : Nat) ≠ (20 + 2 * Ec) by first | decide | assumption | omega)).trans hh499
          rw [← e_mem506] at hh508
          have hh509 := (va_up_ne mem498 (.inr (2, [.int (7), .int (r334), .int (0), .null, .null, .null, .ref (ad (21 + 2 * Ec))])) (show (5 : Nat) ≠ (20 + 2 * Ec) by first | decide | assumption | omega)).trans hh500
          rw [← e_mem506] at hh509
          have hh510 := (va_up_ne mem498 (.inr (2, [.int (7), .int (r334), .int (0), .null, .null, .null, .ref (ad (21 + 2 * Ec))])) (show (220 : Nat) ≠ (20 + 2 * Ec) by first | decide | assumption | omega)).trans hh501
          rw [← e_mem506] at hh510
          have hfr511 : ∀ i, 7 ≤ i ∧ i < 220 ∧ i ≠ 20 + 2 * Ec → mem506 i = mem i := fun i q => (show mem506 i = mem498 i by rw [e_mem506]; exact va_up_ne _ _ (by omega)).trans (hfr503 i q)
          have h221_512 : mem506 221 = .inl (cy 0, 240, .inl (s8)) := by rw [e_mem506, va_up_ne _ _ (by omega)]; exact h221_504
          have hRX513 : RX cy ad lim (a336 + 1) (R) (Ec + 1) (to) (nm) m0 mem506 := by rw [e_mem506]; exact hRX505.el (by omega) (hRX505.1.mk (by omega) (hRX505.1.1.upEl (by omega) (fun _ => ⟨Or.inl rfl, Or.inl rfl, Or.inl rfl⟩)))
          refine lv_aload Bx.1 Bx.2.1 d_Rd_readValue_115 (lv_at hl 1 rfl) ?_
          refine lv_aload_n Bx.1 Bx.2.1 d_Rd_readValue_117 rfl (lv_at hl 5 rfl) ?_
          refine lv_iload_n Bx.1 Bx.2.1 d_Rd_readValue_118 rfl (lv_at hl 4 rfl) ?_
          refine lv_iload_n Bx.1 Bx.2.1 d_Rd_readValue_119 rfl (lv_at hl 2 rfl) ?_
          refine f_xVi (na := 2) (As := [.int (nI a), .int (16)]) (rest := [.ref (ad (20 + 2 * Ec))]) Bx hml E hP hD hS (by omega) hh507 rfl (m_Rd_readNumberX l hlt hn hT hf hRX513 (by omega) (by omega)) kw_471 kw_473 sel_Rd_readNumber kw_6 kw_474 (by decide +kernel) ⟨rfl, rfl⟩ ⟨Nat.le_of_ble_eq_true rfl, Nat.le_of_ble_eq_true rfl⟩ rfl hl.1 (Nat.le_of_ble_eq_true rfl) d_Rd_readValue_120 ⟨Nat.le_of_ble_eq_true rfl, Nat.le_of_ble_eq_true rfl⟩ (fun X ce q9 memx H locs hx9 hP hS g1 g2 g3 => f_out hlocks hno hP hS g1 g2 g3 ⟨Nat.le_of_ble_eq_true rfl, Nat.le_of_ble_eq_true rfl⟩ ⟨hx9.1, Or.inr (Or.inr ⟨16, Or.inr ⟨hb287, rfl⟩, numsP_n2 hns337 hb361 hx9.2⟩)⟩) (fun r514 mem515 H locs hq hP hS => ?_)
          have hD : va_D (Az sz) (fw n ad mem515) := fw_D hD
          obtain ⟨a516, hns517, hg518, hg519, hRX520, hfa521⟩ := hq
          have hel522 := (hfa521 (20 + 2 * Ec) (by omega)).trans h_mem506
          have h220_523 := (hfa521 220 (by omega)).trans hh510
          have h221_524 := (hfa521 221 (by omega)).trans h221_512
          have hfr525 : ∀ i, 7 ≤ i ∧ i < 220 ∧ i ≠ 20 + 2 * Ec → mem515 i = mem i := fun i q => (hfa521 i (by omega)).trans (hfr511 i q)
          obtain ⟨ft526, h9_527⟩ := hRX520.2.1
          have h1_528 : mem515 1 = .inr (0, [.ref (ad 2), .int (nI Z)]) := (hRX520.1.2.2 1 (by omega)).trans hT.1
          have h2_529 : mem515 2 = .inl (cy 0, 240, .inl f) := (hRX520.1.2.2 2 (by omega)).trans hT.2.2
          have h5_530 := hRX520.1.1.2.1
          have hbd536 := hRX520.1.1.1
          obtain ⟨S531, g532, hS_533, h220_534, h221_535⟩ := hRX520.1.1.2.2.2.2.2.2
          refine f_putN Bx hP hD hS (by omega) hel522 rfl inEl tyEl okEl nmEl 2 (by decide) kw_82 rfl rfl rfl rfl (Nat.le_of_ble_eq_true rfl) d_Rd_readValue_123 (fun H locs hP hS => ?_)
          obtain ⟨mem537, e_mem537⟩ : ∃ z, z = va_up mem515 ((20 + 2 * Ec)) (.inr (2, [.int (7), .int (r334), .int (r514), .null, .null, .null, .ref (ad (21 + 2 * Ec))])) := ⟨_, rfl⟩
          have hP : va_P D vcl (fw n ad mem537) H := by rw [e_mem537]; exact hP
          have hD : va_D (Az sz) (fw n ad mem537) := fw_D hD
          have h_mem537 : mem537 ((20 + 2 * Ec)) = .inr (2, [.int (7), .int (r334), .int (r514), .null, .null, .null, .ref (ad (21 + 2 * Ec))]) := by rw [e_mem537, va_up_self]
          have hh538 := (va_up_ne mem515 (.inr (2, [.int (7), .int (r334), .int (r514), .null, .null, .null, .ref (ad (21 + 2 * Ec))])) (show (222 : Nat) ≠ (20 + 2 * Ec) by first | decide | assumption | omega)).trans h9_527
          rw [← e_mem537] at hh538
          have hh539 := (va_up_ne mem515 (.inr (2, [.int (7), .int (r334), .int (r514), .null, .null, .null, .ref (ad (21 + 2 * Ec))])) (show (1 : Nat) ≠ (20 + 2 * Ec) by first | decide | assumption | omega)).trans h1_528
          rw [← e_mem537] at hh539
          have hh540 := (va_up_ne mem515 (.inr (2, [.int (7), .int (r334), .int (r514), .null, .null, .null, .ref (ad (21 + 2 * Ec))])) (show (5 : Nat) ≠ (20 + 2 * Ec) by first | decide | assumption | omega)).trans h5_530
          rw [← e_mem537] at hh540
          have hh541 := (va_up_ne mem515 (.inr (2, [.int (7), .int (r334), .int (r514), .null, .null, .null, .ref (ad (21 + 2 * Ec))])) (show (220 : Nat) ≠ (20 + 2 * Ec) by first | decide | assumption | omega)).trans h220_523
          rw [← e_mem537] at hh541
          have hfr542 : ∀ i, 7 ≤ i ∧ i < 220 ∧ i ≠ 20 + 2 * Ec → mem537 i = mem i := fun i q => (show mem537 i = mem515 i by rw [e_mem537]; exact va_up_ne _ _ (by omega)).trans (hfr525 i q)
          have h221_543 : mem537 221 = .inl (cy 0, 240, .inl (s8)) := by rw [e_mem537, va_up_ne _ _ (by omega)]; exact h221_524
          have hRX544 : RX cy ad lim (a516) (R) (Ec + 1) (to) (nm) m0 mem537 := by rw [e_mem537]; exact hRX520.el (by omega) (hRX520.1.mk (by omega) (hRX520.1.1.upEl (by omega) (fun _ => ⟨Or.inl rfl, Or.inl rfl, Or.inl rfl⟩)))
          refine lv_aload_n Bx.1 Bx.2.1 d_Rd_readValue_126 rfl (lv_at hl 5 rfl) ?_
          refine lv_aload Bx.1 Bx.2.1 d_Rd_readValue_127 (lv_at hl 1 rfl) ?_
          refine f_getN Bx hP (by omega) h_mem537 rfl inEl 1 (by decide) kw_79 rfl rfl d_Rd_readValue_129 ?_
          refine lv_aload Bx.1 Bx.2.1 d_Rd_readValue_132 (lv_at hl 1 rfl) ?_
          refine f_getN Bx hP (by omega) h_mem537 rfl inEl 2 (by decide) kw_82 rfl rfl d_Rd_readValue_134 ?_
          refine lv_icmp_gt Bx.1 Bx.2.1 d_Rd_readValue_137 rfl (fun hb545 => ?_) (fun hb545 => ?_)
          · refine lv_iconst (v := 0) Bx.1 Bx.2.1 d_Rd_readValue_144 (by decide) ?_
            refine lv_iload_n Bx.1 Bx.2.1 d_Rd_readValue_145 rfl (lv_at hl 4 rfl) ?_
            refine f_xVv (na := 2) (As := [.int (0), .int (nI a)]) (rest := []) Bx hml E hP hD hS (by omega) hh538 rfl (m_Rd_needReadableX l hlt hn hT hf hRX544 (by omega)) kw_360 kw_362 sel_Rd_needReadable kw_6 kw_363 (by decide +kernel) ⟨rfl, rfl⟩ ⟨Nat.le_of_ble_eq_true rfl, Nat.le_of_ble_eq_true rfl⟩ rfl hl.1 (Nat.le_of_ble_eq_true rfl) d_Rd_readValue_146 ⟨Nat.le_of_ble_eq_true rfl, Nat.le_of_ble_eq_true rfl⟩ (fun X ce q9 memx H locs hx9 hP hS g1 g2 g3 => f_out hlocks hno hP hS g1 g2 g3 ⟨Nat.le_of_ble_eq_true rfl, Nat.le_of_ble_eq_true rfl⟩ ⟨hx9.1, Or.inr (Or.inr ⟨16, Or.inr ⟨hb287, rfl⟩, numsP_lt hns337 hb361 hns517 hb545⟩)⟩) (fun mem547 H locs hq hP hS => ?_)
            have hD : va_D (Az sz) (fw n ad mem547) := fw_D hD
            obtain ⟨hqe, hg548⟩ := hq
            rw [hqe] at hP hD
            exact absurd rfl hg548
          · refine lv_iconst (v := 1) Bx.1 Bx.2.1 d_Rd_readValue_140 (by decide) ?_
            refine lv_goto Bx.1 Bx.2.1 d_Rd_readValue_141 rfl ?_
            refine lv_iload_n Bx.1 Bx.2.1 d_Rd_readValue_145 rfl (lv_at hl 4 rfl) ?_
            refine f_xVv (na := 2) (As := [.int (1), .int (nI a)]) (rest := []) Bx hml E hP hD hS (by omega) hh538 rfl (m_Rd_needReadableX l hlt hn hT hf hRX544 (by omega)) kw_360 kw_362 sel_Rd_needReadable kw_6 kw_363 (by decide +kernel) ⟨rfl, rfl⟩ ⟨Nat.le_of_ble_eq_true rfl, Nat.le_of_ble_eq_true rfl⟩ rfl hl.1 (Nat.le_of_ble_eq_true rfl) d_Rd_readValue_146 ⟨Nat.le_of_ble_eq_true rfl, Nat.le_of_ble_eq_true rfl⟩ (fun X ce q9 memx H locs hx9 hP hS g1 g2 g3 => f_out hlocks hno hP hS g1 g2 g3 ⟨Nat.le_of_ble_eq_true rfl, Nat.le_of_ble_eq_true rfl⟩ ⟨hx9.1, absurd hx9.2 (by decide)⟩) (fun mem550 H locs hq hP hS => ?_)
            have hD : va_D (Az sz) (fw n ad mem550) := fw_D hD
            obtain ⟨hqe, hg551⟩ := hq
            rw [hqe] at hP hD
            refine lv_aload Bx.1 Bx.2.1 d_Rd_readValue_149 (lv_at hl 1 rfl) ?_
            have hns9 := numsS_rg (u := u8) (e := e8) (A := A0) hns337 hb361 hns517 hb545
            exact x_aret hx hb hlocks hr (⟨by omega, 16, a516, u8 + 1, _, Or.inr ⟨hb287, rfl⟩, hns9, rfl, by omega, by omega, hRX544, ⟨fun j q1 q2 q3 q4 => by rw [va_up_ne _ _ q3, va_up_ne _ _ q2, va_up_ne _ _ q1, va_up_ne _ _ q4, va_up_ne _ _ q3, va_up_ne _ _ q2], fun k hk => ⟨by show upd _ e8 _ k = _; rw [upd_ne hk] <;> rfl, by show upd _ e8 _ k = _; rw [upd_ne hk]; show upd _ e8 _ k = _; rw [upd_ne hk], by show upd _ e8 _ k = _; rw [upd_ne hk]; show upd _ e8 _ k = _; rw [upd_ne hk] <;> rfl⟩, fun m hm => by show upd _ u8 _ m = _; rw [upd_ne (by omega)] <;> rfl⟩, Or.inl ⟨r334, r514, h_mem537, by show upd _ e8 _ e8 = _; rw [upd_self], by show upd _ e8 _ e8 = _; rw [upd_self], by show upd _ e8 _ e8 = _; rw [upd_self], hh541, h221_543, rfl⟩, hfr542⟩) hP hS d_Rd_readValue_151
      · exact absurd hb301 (by decide)
