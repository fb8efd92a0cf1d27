def TOK (R R' : Nat) (s s' : Nat → Int32) : Prop := (∀ i, i < R → s' i = s i) ∧ ∀ i, R ≤ i → i < R' → s' i = -1
theorem TOK.of {R : Nat} {s s' : Nat → Int32} (h : s' = s) : TOK R R s s' := ⟨fun i _ => by rw [h], fun i h1 h2 => by omega⟩
theorem TOK.ru {R : Nat} {s : Nat → Int32} : TOK R (R + 1) s (upd s R (-1)) := ⟨fun i hi => upd_ne (by omega), fun i h1 h2 => by rw [show i = R by omega, upd_self]⟩
theorem TOK.trans {R R1 R2 : Nat} {s s1 s2 : Nat → Int32} (h1 : TOK R R1 s s1) (h2 : TOK R1 R2 s1 s2) (ha : R ≤ R1) : TOK R R2 s s2 := by
  refine ⟨fun i hi => (h2.1 i (by omega)).trans (h1.1 i hi), fun i hi hi2 => ?_⟩
  by_cases q : i < R1
  · exact (h2.1 i q).trans (h1.2 i hi q)
  · exact h2.2 i (by omega) hi2
theorem nmC_1 {x : Int32} (h : ¬ nmC x = 0) : ltF x ≠ 0 ∨ dgF x ≠ 0 ∨ x = 45 := Classical.byContradiction (fun q => h (by unfold nmC; rw [if_neg q]))
theorem nmC_0 {x : Int32} (h : nmC x = 0) : ¬ (ltF x ≠ 0 ∨ dgF x ≠ 0 ∨ x = 45) := fun q => by
  unfold nmC at h
  rw [if_pos q] at h
  exact absurd h (by decide)
theorem nmC_ne {x : Int32} (h : ¬ nmC x = 0) : x ≠ -1 := by
  rcases nmC_1 h with q | q | q
  · exact ltF_ne q
  · exact dgF_ne q
  · rw [q]; decide
theorem figF_m {x b : Int32} : figF x b < 0 ↔ figF x b = -1 := by
  unfold figF
  by_cases q : dgF x ≠ 0
  · rw [if_pos q]
    exact ⟨fun z => absurd z (dgF_sub q), fun z => by rw [z]; decide⟩
  · rw [if_neg q]
    by_cases q2 : b = 16 ∧ ¬ (smF x < 97 ∨ 102 < smF x)
    · rw [if_pos q2]
      have h2 := q2.2
      have hno : ¬ smF x - 87 < 0 := by
        simp only [Int32.lt_iff_toInt_lt, ti_97, ti_102] at h2
        rw [Int32.lt_iff_toInt_lt, Int32.toInt_sub, ti_87, Int.bmod_eq_of_le (by omega) (by omega)]
        have e3 : (0 : Int32).toInt = 0 := by decide
        rw [e3]
        omega
      exact ⟨fun z => absurd z hno, fun z => absurd (by rw [z]; decide) hno⟩
    · rw [if_neg q2]
      exact ⟨fun _ => rfl, fun _ => by decide⟩
set_option maxHeartbeats 4000000 in
set_option maxRecDepth 100000 in
theorem m_Rd_readNameX (l : Launch) {D : va_G} {cy : Nat → ClassId} {sz n : Nat} {ad : Nat → Nat} {mem : Nat → va_E} {Z a R Ec lim : Nat} {f T : Nat → Int32} {to : Nat → Int32} {nm : Nat → Int64} {m0 : Nat → va_E} {A : Ro} (hlt : l.stackTraces = false) (hn : 224 ≤ n) (hT : TX cy ad Z f m0) (hf : ∀ k, k < Z → f k = T k) (hRX : RX cy ad lim a R Ec to nm m0 mem) (haB : a ≤ 300) (haZ : a ≤ Z) : NXr l D cy sz n ad y_Rd_readName c_Rd_readName 5 (some (.object "AbnfChart$Rule")) ({ frames := 8, cells := 1, slots := 6, locals := 160 } : Room) mem [.ref (ad 222)] (fun r mem' => ∃ i a' R' A' nm', nameS T Z a R A nm = some (i, a', R', A', nm') ∧ r = ad (7 + i) ∧ i < R' ∧ R ≤ R' ∧ a < a' ∧ a' ≤ Z ∧ (∀ j, j ≠ 227 → A' j = A j) ∧ TOK R R' (A 227) (A' 227) ∧ (∃ to', TOK R R' to to' ∧ RX cy ad lim a' R' Ec to' nm' m0 mem') ∧ ¬ ltF (hereF Z T a) = 0) (fun X mem' => ((X = cIA ∨ X = cIS) ∧ ∃ rc' ec' : Nat, RS cy ad lim rc' ec' m0 mem') ∧ (ltF (hereF Z T a) = 0 ∨ nameS T Z a R A nm = none)) := by
  refine vx_ofW (cc := c_Rd_readName) (maxL := 5) (ret := (some (.object "AbnfChart$Rule"))) (by decide) rfl ?_
  intro p e s m args below meth c s₁ B hml hno hv
  obtain ⟨rfl, E, hP, hD⟩ := hv
  have hx := B.exec
  have hb := B.bytes
  have hr := B.returns
  have hlocks := B.notSynchronized
  have Bx : MB p s m [.ref (ad 222)].toArray c c_Rd_readName "AbnfChart$Reader" D cy := ⟨hx, hb, tb_all (atoms_spec B.pre) E.2.1, findClass_of_methodNamed B.named, E.1⟩
  have hS : va_S (Az sz) s.heap s.heap [] := va_S.rf
  have hl := lv_entry ([.ref (ad 222)]) (n := 5) (Nat.le_of_ble_eq_true rfl)
  rw [lg_entry_eq]
  generalize (lg_sl ([.ref (ad 222)]) ++ List.replicate (5 - (lg_sl ([.ref (ad 222)])).length) Slot.unset).toArray = ls at hl ⊢
  have hl : lv_has ls 5 [(0, .ref (ad 222))] := hl
  have hZ9 := hT.2.1
  have hbd9 := hRX.1.1.1
  obtain ⟨ft1, h9_2⟩ := hRX.2.1
  have h1_3 : mem 1 = .inr (0, [.ref (ad 2), .int (nI Z)]) := (hRX.1.2.2 1 (by omega)).trans hT.1
  have h2_4 : mem 2 = .inl (cy 0, 240, .inl f) := (hRX.1.2.2 2 (by omega)).trans hT.2.2
  have h5_5 := hRX.1.1.2.1
  have hbd11 := hRX.1.1.1
  obtain ⟨S6, g7, hS_8, h220_9, h221_10⟩ := hRX.1.1.2.2.2.2.2.2
  refine lv_aload_n Bx.1 Bx.2.1 d_Rd_readName_0 rfl (lv_at hl 0 rfl) ?_
  refine f_get Bx hP (by omega) h9_2 rfl inRd 2 (by decide) kw_146 rfl rfl d_Rd_readName_1 ?_
  refine lv_istore_n (lv' := [(1, .int (nI a)), (0, .ref (ad 222))]) Bx.1 Bx.2.1 d_Rd_readName_4 rfl hl (by decide) rfl (fun ls hl => ?_)
  refine lv_lconst (v := 0) Bx.1 Bx.2.1 d_Rd_readName_5 (by decide) ?_
  refine lv_lstore_n (lv' := [(2, .long (0)), (1, .int (nI a)), (0, .ref (ad 222))]) Bx.1 Bx.2.1 d_Rd_readName_6 rfl hl (by decide) rfl (fun ls hl => ?_)
  refine lv_aload_n Bx.1 Bx.2.1 d_Rd_readName_7 rfl (lv_at hl 2 rfl) ?_
  refine lv_aload_n Bx.1 Bx.2.1 d_Rd_readName_8 rfl (lv_at hl 2 rfl) ?_
  refine f_callVi (na := 0) (As := []) (rest := [.ref (ad 222)]) Bx hml E hP hD hS (by omega) h9_2 rfl (m_Rd_peekX l hn hT hf hRX (by omega)) kw_353 kw_355 sel_Rd_peek kw_6 kw_356 (by decide +kernel) ⟨rfl, rfl⟩ ⟨Nat.le_of_ble_eq_true rfl, Nat.le_of_ble_eq_true rfl⟩ rfl hl.1 (Nat.le_of_ble_eq_true rfl) d_Rd_readName_9 ⟨Nat.le_of_ble_eq_true rfl, Nat.le_of_ble_eq_true rfl⟩ (fun r13 mem14 H locs hq hP hS => ?_)
  have hD : va_D (Az sz) (fw n ad mem14) := fw_D hD
  obtain ⟨hqe, hpk12⟩ := hq
  rw [hqe] at hP hD
  subst hpk12
  refine f_callSNi (na := 1) (As := [.int (hereF Z T (a))]) (rest := [.ref (ad 222)]) Bx hml E.2.1 (m_Ab_isLetterX l (hereF Z T (a))) kw_357 kw_358 kw_1 kw_359 (by decide +kernel) ⟨rfl, rfl⟩ ⟨Nat.le_of_ble_eq_true rfl, Nat.le_of_ble_eq_true rfl⟩ rfl hl.1 (Nat.le_of_ble_eq_true rfl) d_Rd_readName_12 ⟨Nat.le_of_ble_eq_true rfl, Nat.le_of_ble_eq_true rfl⟩ (fun r17 hs16 => ?_)
  subst hs16
  refine lv_aload_n Bx.1 Bx.2.1 d_Rd_readName_15 rfl (lv_at hl 2 rfl) ?_
  refine f_get Bx hP (by omega) h9_2 rfl inRd 2 (by decide) kw_146 rfl rfl d_Rd_readName_16 ?_
  refine f_xVv (na := 2) (As := [.int (ltF (hereF Z T (a))), .int (nI a)]) (rest := []) Bx hml E hP hD hS (by omega) h9_2 rfl (m_Rd_needReadableX l hlt hn hT hf hRX (by omega)) kw_360 kw_362 sel_Rd_needReadable kw_6 kw_363 (by decide +kernel) ⟨rfl, rfl⟩ ⟨Nat.le_of_ble_eq_true rfl, Nat.le_of_ble_eq_true rfl⟩ rfl hl.1 (Nat.le_of_ble_eq_true rfl) d_Rd_readName_19 ⟨Nat.le_of_ble_eq_true rfl, Nat.le_of_ble_eq_true rfl⟩ (fun X ce q9 memx H locs hx9 hP hS g1 g2 g3 => f_out hlocks hno hP hS g1 g2 g3 ⟨Nat.le_of_ble_eq_true rfl, Nat.le_of_ble_eq_true rfl⟩ ⟨hx9.1, Or.inl hx9.2⟩) (fun mem19 H locs hq hP hS => ?_)
  have hD : va_D (Az sz) (fw n ad mem19) := fw_D hD
  obtain ⟨hqe, hg20⟩ := hq
  rw [hqe] at hP hD
  refine lv_iconst (v := 0) Bx.1 Bx.2.1 d_Rd_readName_22 (by decide) ?_
  refine lv_istore (lv' := [(4, .int (0)), (2, .long (0)), (1, .int (nI a)), (0, .ref (ad 222))]) Bx.1 Bx.2.1 d_Rd_readName_23 hl (by decide) rfl (fun ls hl => ?_)
  have hlet := hg20
  have loop21 : ∀ (d22 : Nat) (mem9 : Nat → va_E) (a1 : Nat) (k : Nat) (v : Int64) (ls : Array Slot) (H : Heap) (locs : List Loc), (6 - k < d22) → (RX cy ad lim a1 R Ec to nm m0 mem9) → (a1 = a + k ∧ a1 ≤ Z ∧ k ≤ 6) → (nmF T Z (6 - k) k a1 v = nmF T Z 6 0 a 0) → (va_P D vcl (fw n ad mem9) H) → (va_D (Az sz) (fw n ad mem9)) → (va_S (Az sz) s.heap H locs) → (lv_has ls 5 [(4, .int (nI k)), (2, .long (v)), (1, .int (nI a)), (0, .ref (ad 222))]) → W p l e (headSpec (Cond.code y_Rd_readName c_Rd_readName 5 (some (.object "AbnfChart$Rule")) :: tg) ({ frames := 8, cells := 1, slots := 6, locals := 160 } : Room)).room s m [.ref (ad 222)].toArray below meth c H locs 0 0 (vx_MQ below (QX (QR (fun r mem' => ∃ i a' R' A' nm', nameS T Z a R A nm = some (i, a', R', A', nm') ∧ r = ad (7 + i) ∧ i < R' ∧ R ≤ R' ∧ a < a' ∧ a' ≤ Z ∧ (∀ j, j ≠ 227 → A' j = A j) ∧ TOK R R' (A 227) (A' 227) ∧ (∃ to', TOK R R' to to' ∧ RX cy ad lim a' R' Ec to' nm' m0 mem') ∧ ¬ ltF (hereF Z T a) = 0) (PP D n ad) (Az sz))) (XQ D sz n ad (fun X mem' => ((X = cIA ∨ X = cIS) ∧ ∃ rc' ec' : Nat, RS cy ad lim rc' ec' m0 mem') ∧ (ltF (hereF Z T a) = 0 ∨ nameS T Z a R A nm = none))) [.ref (ad 222)].toArray s 1 6 (Az sz)) (F0 m 25 ls []) := by
    intro d22
    induction d22 with
    | zero => intro mem9 a1 k v ls H locs hmeas27; exact absurd hmeas27 (Nat.not_lt_zero _)
    | succ d22 ih26 =>
      intro mem9 a1 k v ls H locs hmeas27 hz23 hz24 hz25 hP hD hS hl
      obtain ⟨ft28, h9_29⟩ := hz23.2.1
      have h1_30 : mem9 1 = .inr (0, [.ref (ad 2), .int (nI Z)]) := (hz23.1.2.2 1 (by omega)).trans hT.1
      have h2_31 : mem9 2 = .inl (cy 0, 240, .inl f) := (hz23.1.2.2 2 (by omega)).trans hT.2.2
      have h5_32 := hz23.1.1.2.1
      have hbd38 := hz23.1.1.1
      obtain ⟨S33, g34, hS_35, h220_36, h221_37⟩ := hz23.1.1.2.2.2.2.2.2
      have hbd8 := hz24
      refine lv_iload Bx.1 Bx.2.1 d_Rd_readName_25 (lv_at hl 0 rfl) ?_
      refine lv_bipush (v := 6) Bx.1 Bx.2.1 d_Rd_readName_27 (by decide) ?_
      refine lv_icmp_ge Bx.1 Bx.2.1 d_Rd_readName_29 rfl (fun hb39 => ?_) (fun hb39 => ?_)
      · have hN40 : 6 ≤ k := (nI_leI (by omega) (by omega)).mp (show nI (6) ≤ nI (k) from hb39)
        have hk1 : 1 ≤ k := by first | omega | exact Nat.pos_of_ne_zero (fun q9 => by subst q9; obtain rfl : a1 = a := (by omega); exact trivial)
        have hnm : nmF T Z 6 0 a 0 = (v, a1) := by
          rw [← hz25, show 6 - k = 0 by omega]
          rfl
        have hn2 : (nmF T Z 6 0 a 0).2 = a1 := by rw [hnm]
        have hnv : (nmF T Z 6 0 a 0).1 = v := by rw [hnm]
        refine lv_aload_n Bx.1 Bx.2.1 d_Rd_readName_75 rfl (lv_at hl 3 rfl) ?_
        refine f_get Bx hP (by omega) h9_29 rfl inRd 1 (by decide) kw_145 rfl rfl d_Rd_readName_76 ?_
        refine lv_lload_n Bx.1 Bx.2.1 d_Rd_readName_79 rfl (lv_at hl 1 rfl) ?_
        refine f_callVi (na := 1) (As := [.long (v)]) (rest := []) Bx hml E hP hD hS (by omega) h5_32 rfl (m_Gr_findX l hn hT hf hz23 (by omega)) kw_375 kw_376 kw_377 kw_3 kw_378 (by decide +kernel) ⟨rfl, rfl⟩ ⟨Nat.le_of_ble_eq_true rfl, Nat.le_of_ble_eq_true rfl⟩ rfl hl.1 (Nat.le_of_ble_eq_true rfl) d_Rd_readName_80 ⟨Nat.le_of_ble_eq_true rfl, Nat.le_of_ble_eq_true rfl⟩ (fun r41 mem42 H locs hq hP hS => ?_)
        have hD : va_D (Az sz) (fw n ad mem42) := fw_D hD
        obtain ⟨hqe, hfi⟩ := hq
        rw [hqe] at hP hD
        rcases hfi with ⟨hfn, hre⟩ | ⟨i, hfs, hi, hre⟩
        · subst hre
          refine lv_istore (lv' := [(4, .int ((-1))), (2, .long (v)), (1, .int (nI a)), (0, .ref (ad 222))]) Bx.1 Bx.2.1 d_Rd_readName_83 hl (by decide) rfl (fun ls hl => ?_)
          refine lv_iload Bx.1 Bx.2.1 d_Rd_readName_85 (lv_at hl 0 rfl) ?_
          refine lv_iconst (v := -1) Bx.1 Bx.2.1 d_Rd_readName_87 (by decide) ?_
          refine lv_icmp_eq Bx.1 Bx.2.1 d_Rd_readName_88 rfl (fun hb44 => ?_) (fun hb44 => ?_)
          · refine lv_aload_n Bx.1 Bx.2.1 d_Rd_readName_102 rfl (lv_at hl 3 rfl) ?_
            refine lv_aload_n Bx.1 Bx.2.1 d_Rd_readName_103 rfl (lv_at hl 3 rfl) ?_
            refine f_get Bx hP (by omega) h9_29 rfl inRd 1 (by decide) kw_145 rfl rfl d_Rd_readName_104 ?_
            refine f_callVi (na := 0) (As := []) (rest := [.ref (ad 222)]) Bx hml E hP hD hS (by omega) h5_32 rfl (m_Gr_hasRoomForRuleX l hn hT hf hz23 (by omega)) kw_379 kw_380 kw_381 kw_3 kw_382 (by decide +kernel) ⟨rfl, rfl⟩ ⟨Nat.le_of_ble_eq_true rfl, Nat.le_of_ble_eq_true rfl⟩ rfl hl.1 (Nat.le_of_ble_eq_true rfl) d_Rd_readName_107 ⟨Nat.le_of_ble_eq_true rfl, Nat.le_of_ble_eq_true rfl⟩ (fun r45 mem46 H locs hq hP hS => ?_)
            have hD : va_D (Az sz) (fw n ad mem46) := fw_D hD
            obtain ⟨hqe, hro⟩ := hq
            rw [hqe] at hP hD
            rcases hro with ⟨hr0, hE⟩ | ⟨hr0, hE⟩
            · subst hr0
              refine lv_iload_n Bx.1 Bx.2.1 d_Rd_readName_110 rfl (lv_at hl 2 rfl) ?_
              refine f_xVv (na := 2) (As := [.int (0), .int (nI a)]) (rest := []) Bx hml E hP hD hS (by omega) h9_29 rfl (m_Rd_needRoomX l hlt hn hT hf hz23 (by omega)) kw_383 kw_385 sel_Rd_needRoom kw_6 kw_386 (by decide +kernel) ⟨rfl, rfl⟩ ⟨Nat.le_of_ble_eq_true rfl, Nat.le_of_ble_eq_true rfl⟩ rfl hl.1 (Nat.le_of_ble_eq_true rfl) d_Rd_readName_111 ⟨Nat.le_of_ble_eq_true rfl, Nat.le_of_ble_eq_true rfl⟩ (fun X ce q9 memx H locs hx9 hP hS g1 g2 g3 => f_out hlocks hno hP hS g1 g2 g3 ⟨Nat.le_of_ble_eq_true rfl, Nat.le_of_ble_eq_true rfl⟩ ⟨hx9.1, Or.inr (by unfold nameS; rw [hnv, hfn]; simp only []; rw [if_pos hE])⟩) (fun mem49 H locs hq hP hS => ?_)
              have hD : va_D (Az sz) (fw n ad mem49) := fw_D hD
              obtain ⟨hqe, hg50⟩ := hq
              rw [hqe] at hP hD
              exact absurd rfl hg50
            · subst hr0
              refine lv_iload_n Bx.1 Bx.2.1 d_Rd_readName_110 rfl (lv_at hl 2 rfl) ?_
              refine f_xVv (na := 2) (As := [.int (1), .int (nI a)]) (rest := []) Bx hml E hP hD hS (by omega) h9_29 rfl (m_Rd_needRoomX l hlt hn hT hf hz23 (by omega)) kw_383 kw_385 sel_Rd_needRoom kw_6 kw_386 (by decide +kernel) ⟨rfl, rfl⟩ ⟨Nat.le_of_ble_eq_true rfl, Nat.le_of_ble_eq_true rfl⟩ rfl hl.1 (Nat.le_of_ble_eq_true rfl) d_Rd_readName_111 ⟨Nat.le_of_ble_eq_true rfl, Nat.le_of_ble_eq_true rfl⟩ (fun X ce q9 memx H locs hx9 hP hS g1 g2 g3 => f_out hlocks hno hP hS g1 g2 g3 ⟨Nat.le_of_ble_eq_true rfl, Nat.le_of_ble_eq_true rfl⟩ ⟨hx9.1, absurd hx9.2 (by decide)⟩) (fun mem52 H locs hq hP hS => ?_)
              have hD : va_D (Az sz) (fw n ad mem52) := fw_D hD
              obtain ⟨hqe, hg53⟩ := hq
              rw [hqe] at hP hD
              refine lv_aload_n Bx.1 Bx.2.1 d_Rd_readName_114 rfl (lv_at hl 3 rfl) ?_
              refine f_get Bx hP (by omega) h9_29 rfl inRd 1 (by decide) kw_145 rfl rfl d_Rd_readName_115 ?_
              refine lv_lload_n Bx.1 Bx.2.1 d_Rd_readName_118 rfl (lv_at hl 1 rfl) ?_
              refine f_callVr (na := 1) (As := [.long (v)]) (rest := []) Bx hml E hP hD hS (by omega) h5_32 rfl (m_Gr_addRuleX l hn hT hz23.1 hE) kw_389 kw_390 kw_391 kw_3 kw_392 (by decide +kernel) ⟨rfl, rfl⟩ ⟨Nat.le_of_ble_eq_true rfl, Nat.le_of_ble_eq_true rfl⟩ rfl hl.1 (Nat.le_of_ble_eq_true rfl) d_Rd_readName_119 ⟨Nat.le_of_ble_eq_true rfl, Nat.le_of_ble_eq_true rfl⟩ (fun r54 mem55 H locs hq3 hP hS => ?_)
              have hD : va_D (Az sz) (fw n ad mem55) := fw_D hD
              exact x_aret hx hb hlocks hr (⟨R, a1, R + 1, va_up A 227 (upd (A 227) R (-1)), vp_updL nm R v, by unfold nameS; rw [hnv, hfn, hn2]; simp only []; rw [if_neg (by omega)], hq3.1, by omega, by omega, by omega, by omega, fun j hj => va_up_ne _ _ hj, by rw [va_up_self]; exact TOK.ru, ⟨_, TOK.ru, hz23.ru hq3.2.1 hq3.2.2.1 hq3.2.2.2⟩, hlet⟩) hP hS d_Rd_readName_122
          · exact absurd hb44 (by decide)
        · subst hre
          refine lv_istore (lv' := [(4, .int (nI i)), (2, .long (v)), (1, .int (nI a)), (0, .ref (ad 222))]) Bx.1 Bx.2.1 d_Rd_readName_83 hl (by decide) rfl (fun ls hl => ?_)
          refine lv_iload Bx.1 Bx.2.1 d_Rd_readName_85 (lv_at hl 0 rfl) ?_
          refine lv_iconst (v := -1) Bx.1 Bx.2.1 d_Rd_readName_87 (by decide) ?_
          refine lv_icmp_eq Bx.1 Bx.2.1 d_Rd_readName_88 rfl (fun hb56 => ?_) (fun hb56 => ?_)
          · exact absurd hb56 (nI_m (by omega))
          · refine lv_aload_n Bx.1 Bx.2.1 d_Rd_readName_91 rfl (lv_at hl 3 rfl) ?_
            refine f_get Bx hP (by omega) h9_29 rfl inRd 1 (by decide) kw_145 rfl rfl d_Rd_readName_92 ?_
            refine f_getN Bx hP (by omega) h5_32 rfl inGr 0 (by decide) kw_115 rfl rfl d_Rd_readName_95 ?_
            refine lv_iload Bx.1 Bx.2.1 d_Rd_readName_98 (lv_at hl 0 rfl) ?_
            refine f_aald (t0 := 5) Bx hP (by omega) hz23.1.1.2.2.1 rfl i rfl (by omega) (by decide) (q := ad (7 + i)) (by unfold rfA; rw [if_pos (by omega), Nat.one_mul]) d_Rd_readName_100 ?_
            exact x_aret hx hb hlocks hr (⟨i, a1, R, A, nm, by unfold nameS; rw [hnv, hfs, hn2], rfl, hi, Nat.le_refl _, by omega, by omega, fun _ _ => rfl, TOK.of rfl, ⟨to, TOK.of rfl, hz23⟩, hlet⟩) hP hS d_Rd_readName_101
      · have hN57 : ¬ 6 ≤ k := fun q9 => hb39 (show nI (6) ≤ nI (k) from (nI_leI (by omega) (by omega)).mpr q9)
        refine lv_aload_n Bx.1 Bx.2.1 d_Rd_readName_32 rfl (lv_at hl 3 rfl) ?_
        refine f_callVi (na := 0) (As := []) (rest := []) Bx hml E hP hD hS (by omega) h9_29 rfl (m_Rd_peekX l hn hT hf hz23 (by omega)) kw_353 kw_355 sel_Rd_peek kw_6 kw_356 (by decide +kernel) ⟨rfl, rfl⟩ ⟨Nat.le_of_ble_eq_true rfl, Nat.le_of_ble_eq_true rfl⟩ rfl hl.1 (Nat.le_of_ble_eq_true rfl) d_Rd_readName_33 ⟨Nat.le_of_ble_eq_true rfl, Nat.le_of_ble_eq_true rfl⟩ (fun r59 mem60 H locs hq hP hS => ?_)
        have hD : va_D (Az sz) (fw n ad mem60) := fw_D hD
        obtain ⟨hqe, hpk58⟩ := hq
        rw [hqe] at hP hD
        subst hpk58
        refine f_callSi (na := 1) (As := [.int (hereF Z T (a1))]) (rest := []) Bx hml E.2.1 (m_Rd_isNameCodeX l (hereF Z T (a1))) kw_366 kw_367 kw_6 kw_368 (by decide +kernel) ⟨rfl, rfl⟩ ⟨Nat.le_of_ble_eq_true rfl, Nat.le_of_ble_eq_true rfl⟩ rfl hl.1 (Nat.le_of_ble_eq_true rfl) d_Rd_readName_36 ⟨Nat.le_of_ble_eq_true rfl, Nat.le_of_ble_eq_true rfl⟩ (fun r63 hs62 => ?_)
        subst hs62
        refine lv_if_eq Bx.1 Bx.2.1 d_Rd_readName_39 rfl (fun hb64 => ?_) (fun hb64 => ?_)
        · have hk1 : 1 ≤ k := by first | omega | exact Nat.pos_of_ne_zero (fun q9 => by subst q9; obtain rfl : a1 = a := (by omega); exact nmC_0 hb64 (Or.inl hlet))
          have hnm : nmF T Z 6 0 a 0 = (v, a1) := by
            rw [← hz25]
            obtain ⟨r6, hr6⟩ : ∃ r6, 6 - k = r6 + 1 := ⟨5 - k, by omega⟩
            rw [hr6, nmF, if_neg (fun z => nmC_0 hb64 (z.elim Or.inl (fun y => y.2.elim (fun u => Or.inr (Or.inl u)) (fun u => Or.inr (Or.inr u)))))]
          have hn2 : (nmF T Z 6 0 a 0).2 = a1 := by rw [hnm]
          have hnv : (nmF T Z 6 0 a 0).1 = v := by rw [hnm]
          refine lv_aload_n Bx.1 Bx.2.1 d_Rd_readName_75 rfl (lv_at hl 3 rfl) ?_
          refine f_get Bx hP (by omega) h9_29 rfl inRd 1 (by decide) kw_145 rfl rfl d_Rd_readName_76 ?_
          refine lv_lload_n Bx.1 Bx.2.1 d_Rd_readName_79 rfl (lv_at hl 1 rfl) ?_
          refine f_callVi (na := 1) (As := [.long (v)]) (rest := []) Bx hml E hP hD hS (by omega) h5_32 rfl (m_Gr_findX l hn hT hf hz23 (by omega)) kw_375 kw_376 kw_377 kw_3 kw_378 (by decide +kernel) ⟨rfl, rfl⟩ ⟨Nat.le_of_ble_eq_true rfl, Nat.le_of_ble_eq_true rfl⟩ rfl hl.1 (Nat.le_of_ble_eq_true rfl) d_Rd_readName_80 ⟨Nat.le_of_ble_eq_true rfl, Nat.le_of_ble_eq_true rfl⟩ (fun r65 mem66 H locs hq hP hS => ?_)
          have hD : va_D (Az sz) (fw n ad mem66) := fw_D hD
          obtain ⟨hqe, hfi⟩ := hq
          rw [hqe] at hP hD
          rcases hfi with ⟨hfn, hre⟩ | ⟨i, hfs, hi, hre⟩
          · subst hre
            refine lv_istore (lv' := [(4, .int ((-1))), (2, .long (v)), (1, .int (nI a)), (0, .ref (ad 222))]) Bx.1 Bx.2.1 d_Rd_readName_83 hl (by decide) rfl (fun ls hl => ?_)
            refine lv_iload Bx.1 Bx.2.1 d_Rd_readName_85 (lv_at hl 0 rfl) ?_
            refine lv_iconst (v := -1) Bx.1 Bx.2.1 d_Rd_readName_87 (by decide) ?_
            refine lv_icmp_eq Bx.1 Bx.2.1 d_Rd_readName_88 rfl (fun hb68 => ?_) (fun hb68 => ?_)
            · refine lv_aload_n Bx.1 Bx.2.1 d_Rd_readName_102 rfl (lv_at hl 3 rfl) ?_
              refine lv_aload_n Bx.1 Bx.2.1 d_Rd_readName_103 rfl (lv_at hl 3 rfl) ?_
              refine f_get Bx hP (by omega) h9_29 rfl inRd 1 (by decide) kw_145 rfl rfl d_Rd_readName_104 ?_
              refine f_callVi (na := 0) (As := []) (rest := [.ref (ad 222)]) Bx hml E hP hD hS (by omega) h5_32 rfl (m_Gr_hasRoomForRuleX l hn hT hf hz23 (by omega)) kw_379 kw_380 kw_381 kw_3 kw_382 (by decide +kernel) ⟨rfl, rfl⟩ ⟨Nat.le_of_ble_eq_true rfl, Nat.le_of_ble_eq_true rfl⟩ rfl hl.1 (Nat.le_of_ble_eq_true rfl) d_Rd_readName_107 ⟨Nat.le_of_ble_eq_true rfl, Nat.le_of_ble_eq_true rfl⟩ (fun r69 mem70 H locs hq hP hS => ?_)
              have hD : va_D (Az sz) (fw n ad mem70) := fw_D hD
              obtain ⟨hqe, hro⟩ := hq
              rw [hqe] at hP hD
              rcases hro with ⟨hr0, hE⟩ | ⟨hr0, hE⟩
              · subst hr0
                refine lv_iload_n Bx.1 Bx.2.1 d_Rd_readName_110 rfl (lv_at hl 2 rfl) ?_
                refine f_xVv (na := 2) (As := [.int (0), .int (nI a)]) (rest := []) Bx hml E hP hD hS (by omega) h9_29 rfl (m_Rd_needRoomX l hlt hn hT hf hz23 (by omega)) kw_383 kw_385 sel_Rd_needRoom kw_6 kw_386 (by decide +kernel) ⟨rfl, rfl⟩ ⟨Nat.le_of_ble_eq_true rfl, Nat.le_of_ble_eq_true rfl⟩ rfl hl.1 (Nat.le_of_ble_eq_true rfl) d_Rd_readName_111 ⟨Nat.le_of_ble_eq_true rfl, Nat.le_of_ble_eq_true rfl⟩ (fun X ce q9 memx H locs hx9 hP hS g1 g2 g3 => f_out hlocks hno hP hS g1 g2 g3 ⟨Nat.le_of_ble_eq_true rfl, Nat.le_of_ble_eq_true rfl⟩ ⟨hx9.1, Or.inr (by unfold nameS; rw [hnv, hfn]; simp only []; rw [if_pos hE])⟩) (fun mem73 H locs hq hP hS => ?_)
                have hD : va_D (Az sz) (fw n ad mem73) := fw_D hD
                obtain ⟨hqe, hg74⟩ := hq
                rw [hqe] at hP hD
                exact absurd rfl hg74
              · subst hr0
                refine lv_iload_n Bx.1 Bx.2.1 d_Rd_readName_110 rfl (lv_at hl 2 rfl) ?_
                refine f_xVv (na := 2) (As := [.int (1), .int (nI a)]) (rest := []) Bx hml E hP hD hS (by omega) h9_29 rfl (m_Rd_needRoomX l hlt hn hT hf hz23 (by omega)) kw_383 kw_385 sel_Rd_needRoom kw_6 kw_386 (by decide +kernel) ⟨rfl, rfl⟩ ⟨Nat.le_of_ble_eq_true rfl, Nat.le_of_ble_eq_true rfl⟩ rfl hl.1 (Nat.le_of_ble_eq_true rfl) d_Rd_readName_111 ⟨Nat.le_of_ble_eq_true rfl, Nat.le_of_ble_eq_true rfl⟩ (fun X ce q9 memx H locs hx9 hP hS g1 g2 g3 => f_out hlocks hno hP hS g1 g2 g3 ⟨Nat.le_of_ble_eq_true rfl, Nat.le_of_ble_eq_true rfl⟩ ⟨hx9.1, absurd hx9.2 (by decide)⟩) (fun mem76 H locs hq hP hS => ?_)
                have hD : va_D (Az sz) (fw n ad mem76) := fw_D hD
                obtain ⟨hqe, hg77⟩ := hq
                rw [hqe] at hP hD
                refine lv_aload_n Bx.1 Bx.2.1 d_Rd_readName_114 rfl (lv_at hl 3 rfl) ?_
                refine f_get Bx hP (by omega) h9_29 rfl inRd 1 (by decide) kw_145 rfl rfl d_Rd_readName_115 ?_
                refine lv_lload_n Bx.1 Bx.2.1 d_Rd_readName_118 rfl (lv_at hl 1 rfl) ?_
                refine f_callVr (na := 1) (As := [.long (v)]) (rest := []) Bx hml E hP hD hS (by omega) h5_32 rfl (m_Gr_addRuleX l hn hT hz23.1 hE) kw_389 kw_390 kw_391 kw_3 kw_392 (by decide +kernel) ⟨rfl, rfl⟩ ⟨Nat.le_of_ble_eq_true rfl, Nat.le_of_ble_eq_true rfl⟩ rfl hl.1 (Nat.le_of_ble_eq_true rfl) d_Rd_readName_119 ⟨Nat.le_of_ble_eq_true rfl, Nat.le_of_ble_eq_true rfl⟩ (fun r78 mem79 H locs hq3 hP hS => ?_)
                have hD : va_D (Az sz) (fw n ad mem79) := fw_D hD
                exact x_aret hx hb hlocks hr (⟨R, a1, R + 1, va_up A 227 (upd (A 227) R (-1)), vp_updL nm R v, by unfold nameS; rw [hnv, hfn, hn2]; simp only []; rw [if_neg (by omega)], hq3.1, by omega, by omega, by omega, by omega, fun j hj => va_up_ne _ _ hj, by rw [va_up_self]; exact TOK.ru, ⟨_, TOK.ru, hz23.ru hq3.2.1 hq3.2.2.1 hq3.2.2.2⟩, hlet⟩) hP hS d_Rd_readName_122
            · exact absurd hb68 (by decide)
          · subst hre
            refine lv_istore (lv' := [(4, .int (nI i)), (2, .long (v)), (1, .int (nI a)), (0, .ref (ad 222))]) Bx.1 Bx.2.1 d_Rd_readName_83 hl (by decide) rfl (fun ls hl => ?_)
            refine lv_iload Bx.1 Bx.2.1 d_Rd_readName_85 (lv_at hl 0 rfl) ?_
            refine lv_iconst (v := -1) Bx.1 Bx.2.1 d_Rd_readName_87 (by decide) ?_
            refine lv_icmp_eq Bx.1 Bx.2.1 d_Rd_readName_88 rfl (fun hb80 => ?_) (fun hb80 => ?_)
            · exact absurd hb80 (nI_m (by omega))
            · refine lv_aload_n Bx.1 Bx.2.1 d_Rd_readName_91 rfl (lv_at hl 3 rfl) ?_
              refine f_get Bx hP (by omega) h9_29 rfl inRd 1 (by decide) kw_145 rfl rfl d_Rd_readName_92 ?_
              refine f_getN Bx hP (by omega) h5_32 rfl inGr 0 (by decide) kw_115 rfl rfl d_Rd_readName_95 ?_
              refine lv_iload Bx.1 Bx.2.1 d_Rd_readName_98 (lv_at hl 0 rfl) ?_
              refine f_aald (t0 := 5) Bx hP (by omega) hz23.1.1.2.2.1 rfl i rfl (by omega) (by decide) (q := ad (7 + i)) (by unfold rfA; rw [if_pos (by omega), Nat.one_mul]) d_Rd_readName_100 ?_
              exact x_aret hx hb hlocks hr (⟨i, a1, R, A, nm, by unfold nameS; rw [hnv, hfs, hn2], rfl, hi, Nat.le_refl _, by omega, by omega, fun _ _ => rfl, TOK.of rfl, ⟨to, TOK.of rfl, hz23⟩, hlet⟩) hP hS d_Rd_readName_101
        · have hlt9 : a1 < Z := hereF_lt (nmC_ne hb64)
          refine lv_lload_n Bx.1 Bx.2.1 d_Rd_readName_42 rfl (lv_at hl 1 rfl) ?_
          refine lv_aload_n Bx.1 Bx.2.1 d_Rd_readName_43 rfl (lv_at hl 3 rfl) ?_
          refine f_callVi (na := 0) (As := []) (rest := [.long (v)]) Bx hml E hP hD hS (by omega) h9_29 rfl (m_Rd_peekX l hn hT hf hz23 (by omega)) kw_353 kw_355 sel_Rd_peek kw_6 kw_356 (by decide +kernel) ⟨rfl, rfl⟩ ⟨Nat.le_of_ble_eq_true rfl, Nat.le_of_ble_eq_true rfl⟩ rfl hl.1 (Nat.le_of_ble_eq_true rfl) d_Rd_readName_44 ⟨Nat.le_of_ble_eq_true rfl, Nat.le_of_ble_eq_true rfl⟩ (fun r82 mem83 H locs hq hP hS => ?_)
          have hD : va_D (Az sz) (fw n ad mem83) := fw_D hD
          obtain ⟨hqe, hpk81⟩ := hq
          rw [hqe] at hP hD
          subst hpk81
          refine f_callSNi (na := 1) (As := [.int (hereF Z T (a1))]) (rest := [.long (v)]) Bx hml E.2.1 (m_Ab_smallOfX l (hereF Z T (a1))) kw_372 kw_373 kw_1 kw_374 (by decide +kernel) ⟨rfl, rfl⟩ ⟨Nat.le_of_ble_eq_true rfl, Nat.le_of_ble_eq_true rfl⟩ rfl hl.1 (Nat.le_of_ble_eq_true rfl) d_Rd_readName_47 ⟨Nat.le_of_ble_eq_true rfl, Nat.le_of_ble_eq_true rfl⟩ (fun r86 hs85 => ?_)
          subst hs85
          refine lv_i2l Bx.1 Bx.2.1 d_Rd_readName_50 rfl ?_
          refine lv_bipush (v := 8) Bx.1 Bx.2.1 d_Rd_readName_51 (by decide) ?_
          refine lv_iload Bx.1 Bx.2.1 d_Rd_readName_53 (lv_at hl 0 rfl) ?_
          refine lv_imul Bx.1 Bx.2.1 d_Rd_readName_55 ?_
          rw [show 8 * nI k = nI (8 * k) from nI_mulR (8) (k)]
          refine lv_lshl Bx.1 Bx.2.1 d_Rd_readName_56 rfl ?_
          refine lv_lor Bx.1 Bx.2.1 d_Rd_readName_57 ?_
          refine lv_lstore_n (lv' := [(2, .long (v ||| ((smF (hereF Z T (a1))).toInt64) <<< ((nI (8 * k) : Int32).toInt64 &&& 63))), (4, .int (nI k)), (1, .int (nI a)), (0, .ref (ad 222))]) Bx.1 Bx.2.1 d_Rd_readName_58 rfl hl (by decide) rfl (fun ls hl => ?_)
          refine lv_aload_n Bx.1 Bx.2.1 d_Rd_readName_59 rfl (lv_at hl 3 rfl) ?_
          refine lv_dup Bx.1 Bx.2.1 d_Rd_readName_60 rfl ?_
          refine f_get Bx hP (by omega) h9_29 rfl inRd 2 (by decide) kw_146 rfl rfl d_Rd_readName_61 ?_
          refine lv_iconst (v := 1) Bx.1 Bx.2.1 d_Rd_readName_64 (by decide) ?_
          refine lv_iadd Bx.1 Bx.2.1 d_Rd_readName_65 ?_
          rw [show nI a1 + 1 = nI (a1 + 1) from nI_add (a1) (1)]
          refine f_put Bx hP hD hS (by omega) h9_29 rfl inRd tyRd okRd nmRd 2 (by decide) kw_146 rfl rfl rfl rfl (Nat.le_of_ble_eq_true rfl) d_Rd_readName_66 (fun H locs hP hS => ?_)
          obtain ⟨mem87, e_mem87⟩ : ∃ z, z = va_up mem9 (222) (.inr (4, [.ref (ad 1), .ref (ad 5), .int (nI (a1 + 1)), .int (ft28)])) := ⟨_, rfl⟩
          have hP : va_P D vcl (fw n ad mem87) H := by rw [e_mem87]; exact hP
          have hD : va_D (Az sz) (fw n ad mem87) := fw_D hD
          have h_mem87 : mem87 (222) = .inr (4, [.ref (ad 1), .ref (ad 5), .int (nI (a1 + 1)), .int (ft28)]) := by rw [e_mem87, va_up_self]
          have hh88 := (va_up_ne mem9 (.inr (4, [.ref (ad 1), .ref (ad 5), .int (nI (a1 + 1)), .int (ft28)])) (show (1 : Nat) ≠ 222 by first | decide | assumption | omega)).trans h1_30
          rw [← e_mem87] at hh88
          have hh89 := (va_up_ne mem9 (.inr (4, [.ref (ad 1), .ref (ad 5), .int (nI (a1 + 1)), .int (ft28)])) (show (5 : Nat) ≠ 222 by first | decide | assumption | omega)).trans h5_32
          rw [← e_mem87] at hh89
          have hh90 := (va_up_ne mem9 (.inr (4, [.ref (ad 1), .ref (ad 5), .int (nI (a1 + 1)), .int (ft28)])) (show (220 : Nat) ≠ 222 by first | decide | assumption | omega)).trans h220_36
          rw [← e_mem87] at hh90
          have hRX91 : RX cy ad lim (a1 + 1) (R) (Ec) (to) (nm) m0 mem87 := by rw [e_mem87]; exact hz23.at
          refine lv_iinc (lv' := [(4, .int ((nI k + (1)))), (2, .long (v ||| ((smF (hereF Z T (a1))).toInt64) <<< ((nI (8 * k) : Int32).toInt64 &&& 63))), (1, .int (nI a)), (0, .ref (ad 222))]) Bx.1 Bx.2.1 d_Rd_readName_69 hl (k := 1) rfl rfl (by decide) rfl (fun ls hl => ?_)
          rw [show (nI k + (1) : Int32) = nI (k + 1) from nI_1 (k)] at hl
          refine lv_goto Bx.1 Bx.2.1 d_Rd_readName_72 rfl ?_
          have hnx : nmF T Z (6 - (k + 1)) (k + 1) (a1 + 1) (v ||| ((smF (hereF Z T (a1))).toInt64) <<< ((nI (8 * k) : Int32).toInt64 &&& 63)) = nmF T Z 6 0 a 0 := by
            rw [← hz25]
            obtain ⟨r6, hr6⟩ : ∃ r6, 6 - k = r6 + 1 := ⟨5 - k, by omega⟩
            rw [hr6, show 6 - (k + 1) = r6 by omega]
            have hcd : ltF (hereF Z T a1) ≠ 0 ∨ (0 < k ∧ (dgF (hereF Z T a1) ≠ 0 ∨ hereF Z T a1 = 45)) := by
              by_cases q9 : k = 0
              · subst q9; obtain rfl : a1 = a := (by omega); exact Or.inl hlet
              · exact (nmC_1 hb64).elim Or.inl (fun y => Or.inr ⟨by omega, y⟩)
            conv => rhs; rw [nmF, if_pos hcd]
          exact ih26 mem87 (a1 + 1) (k + 1) (v ||| ((smF (hereF Z T (a1))).toInt64) <<< ((nI (8 * k) : Int32).toInt64 &&& 63)) _ _ _ (by have := hmeas27; omega) (hRX91) (⟨by omega, by omega, by omega⟩) (hnx) hP hD hS (lv_sub hl [0, 1, 2, 3] rfl)
  exact loop21 _ mem (a) (0) (0) _ _ _ (Nat.lt_succ_self _) (hRX) (⟨by omega, by omega, by omega⟩) (rfl) hP hD hS (lv_sub hl [0, 1, 2, 3] rfl)
set_option maxHeartbeats 4000000 in
set_option maxRecDepth 100000 in
theorem m_Rd_readRepeatX (l : Launch) {D : va_G} {cy : Nat → ClassId} {sz n : Nat} {ad : Nat → Nat} {mem : Nat → va_E} {Z a R Ec lim : Nat} {f T : Nat → Int32} {to : Nat → Int32} {nm : Nat → Int64} {m0 : Nat → va_E} {kk : Nat} (hlt : l.stackTraces = false) (hn : 224 ≤ n) (hT : TX cy ad Z f m0) (hf : ∀ k, k < Z → f k = T k) (hRX : RX cy ad lim a R Ec to nm m0 mem) (haB : a ≤ 300) (hk : kk < Ec) (haZ : a ≤ Z) (hdg : ¬ dgF (hereF Z T a) = 0 ∨ hereF Z T a = 42) : NXv l D cy sz n ad y_Rd_readRepeat c_Rd_readRepeat 4 ({ frames := 8, cells := 1, slots := 6, locals := 160 } : Room) mem [.ref (ad 222), .ref (ad (20 + 2 * kk))] (fun mem' => ∃ v1 b1 v2 b2, rpt1 T Z a = (v1, b1) ∧ rpt2 T Z a = (v2, b2) ∧ ¬ (¬ v2 < 0 ∧ v2 < v1) ∧ a < b2 ∧ b2 ≤ Z ∧ RX cy ad lim b2 R Ec to nm m0 mem') (fun X mem' => ((X = cIA ∨ X = cIS) ∧ ∃ rc' ec' : Nat, RS cy ad lim rc' ec' m0 mem') ∧ (∃ v1 b1 v2 b2, rpt1 T Z a = (v1, b1) ∧ rpt2 T Z a = (v2, b2) ∧ (¬ v2 < 0 ∧ v2 < v1))) := by
  refine vx_ofW (cc := c_Rd_readRepeat) (maxL := 4) (ret := none) (by decide) rfl ?_
  intro p e s m args below meth c s₁ B hml hno hv
  obtain ⟨rfl, E, hP, hD⟩ := hv
  have hx := B.exec
  have hb := B.bytes
  have hr := B.returns
  have hlocks := B.notSynchronized
  have Bx : MB p s m [.ref (ad 222), .ref (ad (20 + 2 * kk))].toArray c c_Rd_readRepeat "AbnfChart$Reader" D cy := ⟨hx, hb, tb_all (atoms_spec B.pre) E.2.1, findClass_of_methodNamed B.named, E.1⟩
  have hS : va_S (Az sz) s.heap s.heap [] := va_S.rf
  have hl := lv_entry ([.ref (ad 222), .ref (ad (20 + 2 * kk))]) (n := 4) (Nat.le_of_ble_eq_true rfl)
  rw [lg_entry_eq]
  generalize (lg_sl ([.ref (ad 222), .ref (ad (20 + 2 * kk))]) ++ List.replicate (4 - (lg_sl ([.ref (ad 222), .ref (ad (20 + 2 * kk))])).length) Slot.unset).toArray = ls at hl ⊢
  have hl : lv_has ls 4 [(0, .ref (ad 222)), (1, .ref (ad (20 + 2 * kk)))] := hl
  have hZ9 := hT.2.1
  have hbd9 := hRX.1.1.1
  obtain ⟨ft1, h9_2⟩ := hRX.2.1
  have h1_3 : mem 1 = .inr (0, [.ref (ad 2), .int (nI Z)]) := (hRX.1.2.2 1 (by omega)).trans hT.1
  have h2_4 : mem 2 = .inl (cy 0, 240, .inl f) := (hRX.1.2.2 2 (by omega)).trans hT.2.2
  have h5_5 := hRX.1.1.2.1
  have hbd11 := hRX.1.1.1
  obtain ⟨S6, g7, hS_8, h220_9, h221_10⟩ := hRX.1.1.2.2.2.2.2.2
  obtain ⟨k12, lo13, hi14, as15, pa16, ne17, he_18, ho_19⟩ := (hRX.1.1.2.2.2.2.2.1 kk (by omega)).1
  refine lv_aload_n Bx.1 Bx.2.1 d_Rd_readRepeat_0 rfl (lv_at hl 0 rfl) ?_
  refine f_get Bx hP (by omega) h9_2 rfl inRd 2 (by decide) kw_146 rfl rfl d_Rd_readRepeat_1 ?_
  refine lv_istore_n (lv' := [(2, .int (nI a)), (0, .ref (ad 222)), (1, .ref (ad (20 + 2 * kk)))]) Bx.1 Bx.2.1 d_Rd_readRepeat_4 rfl hl (by decide) rfl (fun ls hl => ?_)
  refine lv_aload_n Bx.1 Bx.2.1 d_Rd_readRepeat_5 rfl (lv_at hl 1 rfl) ?_
  refine f_callVi (na := 0) (As := []) (rest := []) Bx hml E hP hD hS (by omega) h9_2 rfl (m_Rd_readDigitX l hn hT hf hRX (by omega)) kw_486 kw_488 sel_Rd_readDigit kw_6 kw_489 (by decide +kernel) ⟨rfl, rfl⟩ ⟨Nat.le_of_ble_eq_true rfl, Nat.le_of_ble_eq_true rfl⟩ rfl hl.1 (Nat.le_of_ble_eq_true rfl) d_Rd_readRepeat_6 ⟨Nat.le_of_ble_eq_true rfl, Nat.le_of_ble_eq_true rfl⟩ (fun r20 mem21 H locs hq hP hS => ?_)
  have hD : va_D (Az sz) (fw n ad mem21) := fw_D hD
  obtain ⟨a22, hRX23, hdc24, hfr25⟩ := hq
  rcases hdc24 with ⟨hdg26, hrv27, hae28⟩ | ⟨hdg26, hrv27, hae28⟩
  · subst hrv27
    rw [hae28] at hRX23
    obtain ⟨ft29, h9_30⟩ := hRX23.2.1
    have h1_31 : mem21 1 = .inr (0, [.ref (ad 2), .int (nI Z)]) := (hRX23.1.2.2 1 (by omega)).trans hT.1
    have h2_32 : mem21 2 = .inl (cy 0, 240, .inl f) := (hRX23.1.2.2 2 (by omega)).trans hT.2.2
    have h5_33 := hRX23.1.1.2.1
    have hbd39 := hRX23.1.1.1
    obtain ⟨S34, g35, hS_36, h220_37, h221_38⟩ := hRX23.1.1.2.2.2.2.2.2
    obtain ⟨k40, lo41, hi42, as43, pa44, ne45, he_46, ho_47⟩ := (hRX23.1.1.2.2.2.2.2.1 kk (by omega)).1
    have hel48 := (hfr25 (20 + 2 * kk) (by omega)).trans he_18
    refine lv_istore_n (lv' := [(3, .int ((-1))), (2, .int (nI a)), (0, .ref (ad 222)), (1, .ref (ad (20 + 2 * kk)))]) Bx.1 Bx.2.1 d_Rd_readRepeat_9 rfl hl (by decide) rfl (fun ls hl => ?_)
    refine lv_aload_n Bx.1 Bx.2.1 d_Rd_readRepeat_10 rfl (lv_at hl 2 rfl) ?_
    refine f_callVi (na := 0) (As := []) (rest := []) Bx hml E hP hD hS (by omega) h9_30 rfl (m_Rd_peekX l hn hT hf hRX23 (by omega)) kw_353 kw_355 sel_Rd_peek kw_6 kw_356 (by decide +kernel) ⟨rfl, rfl⟩ ⟨Nat.le_of_ble_eq_true rfl, Nat.le_of_ble_eq_true rfl⟩ rfl hl.1 (Nat.le_of_ble_eq_true rfl) d_Rd_readRepeat_11 ⟨Nat.le_of_ble_eq_true rfl, Nat.le_of_ble_eq_true rfl⟩ (fun r50 mem51 H locs hq hP hS => ?_)
    have hD : va_D (Az sz) (fw n ad mem51) := fw_D hD
    obtain ⟨hqe, hpk49⟩ := hq
    rw [hqe] at hP hD
    subst hpk49
    refine lv_bipush (v := 42) Bx.1 Bx.2.1 d_Rd_readRepeat_14 (by decide) ?_
    refine lv_icmp_ne Bx.1 Bx.2.1 d_Rd_readRepeat_16 rfl (fun hb53 => ?_) (fun hb53 => ?_)
    · exact absurd (hdg.resolve_left (fun z => z hdg26)) hb53
    · have hlt54 := hereF_lt (by rw [hb53]; decide)
      refine lv_aload_n Bx.1 Bx.2.1 d_Rd_readRepeat_19 rfl (lv_at hl 2 rfl) ?_
      refine lv_dup Bx.1 Bx.2.1 d_Rd_readRepeat_20 rfl ?_
      refine f_get Bx hP (by omega) h9_30 rfl inRd 2 (by decide) kw_146 rfl rfl d_Rd_readRepeat_21 ?_
      refine lv_iconst (v := 1) Bx.1 Bx.2.1 d_Rd_readRepeat_24 (by decide) ?_
      refine lv_iadd Bx.1 Bx.2.1 d_Rd_readRepeat_25 ?_
      rw [show nI a + 1 = nI (a + 1) from nI_add (a) (1)]
      refine f_put Bx hP hD hS (by omega) h9_30 rfl inRd tyRd okRd nmRd 2 (by decide) kw_146 rfl rfl rfl rfl (Nat.le_of_ble_eq_true rfl) d_Rd_readRepeat_26 (fun H locs hP hS => ?_)
      obtain ⟨mem55, e_mem55⟩ : ∃ z, z = va_up mem21 (222) (.inr (4, [.ref (ad 1), .ref (ad 5), .int (nI (a + 1)), .int (ft29)])) := ⟨_, rfl⟩
      have hP : va_P D vcl (fw n ad mem55) H := by rw [e_mem55]; exact hP
      have hD : va_D (Az sz) (fw n ad mem55) := fw_D hD
      have h_mem55 : mem55 (222) = .inr (4, [.ref (ad 1), .ref (ad 5), .int (nI (a + 1)), .int (ft29)]) := by rw [e_mem55, va_up_self]
      have hh56 := (va_up_ne mem21 (.inr (4, [.ref (ad 1), .ref (ad 5), .int (nI (a + 1)), .int (ft29)])) (show (1 : Nat) ≠ 222 by first | decide | assumption | omega)).trans h1_31
      rw [← e_mem55] at hh56
      have hh57 := (va_up_ne mem21 (.inr (4, [.ref (ad 1), .ref (ad 5), .int (nI (a + 1)), .int (ft29)])) (show (5 : Nat) ≠ 222 by first | decide | assumption | omega)).trans h5_33
      rw [← e_mem55] at hh57
      have hh58 := (va_up_ne mem21 (.inr (4, [.ref (ad 1), .ref (ad 5), .int (nI (a + 1)), .int (ft29)])) (show (220 : Nat) ≠ 222 by first | decide | assumption | omega)).trans h220_37
      rw [← e_mem55] at hh58
      have hh59 := (va_up_ne mem21 (.inr (4, [.ref (ad 1), .ref (ad 5), .int (nI (a + 1)), .int (ft29)])) (show ((20 + 2 * kk) : Nat) ≠ 222 by first | decide | assumption | omega)).trans hel48
      rw [← e_mem55] at hh59
      have hRX60 : RX cy ad lim (a + 1) (R) (Ec) (to) (nm) m0 mem55 := by rw [e_mem55]; exact hRX23.at
      refine lv_aload_n Bx.1 Bx.2.1 d_Rd_readRepeat_29 rfl (lv_at hl 3 rfl) ?_
      refine lv_iload_n Bx.1 Bx.2.1 d_Rd_readRepeat_30 rfl (lv_at hl 0 rfl) ?_
      refine lv_iconst (v := -1) Bx.1 Bx.2.1 d_Rd_readRepeat_31 (by decide) ?_
      refine lv_icmp_ne Bx.1 Bx.2.1 d_Rd_readRepeat_32 rfl (fun hb61 => ?_) (fun hb61 => ?_)
      · exact absurd hb61 (by decide)
      · refine lv_iconst (v := 0) Bx.1 Bx.2.1 d_Rd_readRepeat_35 (by decide) ?_
        refine lv_goto Bx.1 Bx.2.1 d_Rd_readRepeat_36 rfl ?_
        refine f_putN Bx hP hD hS (by omega) hh59 rfl inEl tyEl okEl nmEl 1 (by decide) kw_79 rfl rfl rfl rfl (Nat.le_of_ble_eq_true rfl) d_Rd_readRepeat_40 (fun H locs hP hS => ?_)
        obtain ⟨mem62, e_mem62⟩ : ∃ z, z = va_up mem55 ((20 + 2 * kk)) (.inr (2, [.int (k12), .int (0), .int (hi14), as15, pa16, ne17, .ref (ad (21 + 2 * kk))])) := ⟨_, rfl⟩
        have hP : va_P D vcl (fw n ad mem62) H := by rw [e_mem62]; exact hP
        have hD : va_D (Az sz) (fw n ad mem62) := fw_D hD
        have h_mem62 : mem62 ((20 + 2 * kk)) = .inr (2, [.int (k12), .int (0), .int (hi14), as15, pa16, ne17, .ref (ad (21 + 2 * kk))]) := by rw [e_mem62, va_up_self]
        have hh63 := (va_up_ne mem55 (.inr (2, [.int (k12), .int (0), .int (hi14), as15, pa16, ne17, .ref (ad (21 + 2 * kk))])) (show (222 : Nat) ≠ (20 + 2 * kk) by first | decide | assumption | omega)).trans h_mem55
        rw [← e_mem62] at hh63
        have hh64 := (va_up_ne mem55 (.inr (2, [.int (k12), .int (0), .int (hi14), as15, pa16, ne17, .ref (ad (21 + 2 * kk))])) (show (1 : Nat) ≠ (20 + 2 * kk) by first | decide | assumption | omega)).trans hh56
        rw [← e_mem62] at hh64
        have hh65 := (va_up_ne mem55 (.inr (2, [.int (k12), .int (0), .int (hi14), as15, pa16, ne17, .ref (ad (21 + 2 * kk))])) (show (5 : Nat) ≠ (20 + 2 * kk) by first | decide | assumption | omega)).trans hh57
        rw [← e_mem62] at hh65
        have hh66 := (va_up_ne mem55 (.inr (2, [.int (k12), .int (0), .int (hi14), as15, pa16, ne17, .ref (ad (21 + 2 * kk))])) (show (220 : Nat) ≠ (20 + 2 * kk) by first | decide | assumption | omega)).trans hh58
        rw [← e_mem62] at hh66
        have hRX67 : RX cy ad lim (a + 1) (R) (Ec) (to) (nm) m0 mem62 := by rw [e_mem62]; exact hRX60.el (by omega) (hRX60.1.mk (by omega) (hRX60.1.1.upEl (by omega) ho_19))
        refine lv_aload_n Bx.1 Bx.2.1 d_Rd_readRepeat_43 rfl (lv_at hl 3 rfl) ?_
        refine lv_aload_n Bx.1 Bx.2.1 d_Rd_readRepeat_44 rfl (lv_at hl 2 rfl) ?_
        refine f_callVi (na := 0) (As := []) (rest := [.ref (ad (20 + 2 * kk))]) Bx hml E hP hD hS (by omega) hh63 rfl (m_Rd_readDigitX l hn hT hf hRX67 (by omega)) kw_486 kw_488 sel_Rd_readDigit kw_6 kw_489 (by decide +kernel) ⟨rfl, rfl⟩ ⟨Nat.le_of_ble_eq_true rfl, Nat.le_of_ble_eq_true rfl⟩ rfl hl.1 (Nat.le_of_ble_eq_true rfl) d_Rd_readRepeat_45 ⟨Nat.le_of_ble_eq_true rfl, Nat.le_of_ble_eq_true rfl⟩ (fun r68 mem69 H locs hq hP hS => ?_)
        have hD : va_D (Az sz) (fw n ad mem69) := fw_D hD
        obtain ⟨a70, hRX71, hdc72, hfr73⟩ := hq
        rcases hdc72 with ⟨hdg74, hrv75, hae76⟩ | ⟨hdg74, hrv75, hae76⟩
        · subst hrv75
          rw [hae76] at hRX71
          obtain ⟨ft77, h9_78⟩ := hRX71.2.1
          have h1_79 : mem69 1 = .inr (0, [.ref (ad 2), .int (nI Z)]) := (hRX71.1.2.2 1 (by omega)).trans hT.1
          have h2_80 : mem69 2 = .inl (cy 0, 240, .inl f) := (hRX71.1.2.2 2 (by omega)).trans hT.2.2
          have h5_81 := hRX71.1.1.2.1
          have hbd87 := hRX71.1.1.1
          obtain ⟨S82, g83, hS_84, h220_85, h221_86⟩ := hRX71.1.1.2.2.2.2.2.2
          obtain ⟨k88, lo89, hi90, as91, pa92, ne93, he_94, ho_95⟩ := (hRX71.1.1.2.2.2.2.2.1 kk (by omega)).1
          have hel96 := (hfr73 (20 + 2 * kk) (by omega)).trans h_mem62
          refine f_putN Bx hP hD hS (by omega) hel96 rfl inEl tyEl okEl nmEl 2 (by decide) kw_82 rfl rfl rfl rfl (Nat.le_of_ble_eq_true rfl) d_Rd_readRepeat_48 (fun H locs hP hS => ?_)
          obtain ⟨mem97, e_mem97⟩ : ∃ z, z = va_up mem69 ((20 + 2 * kk)) (.inr (2, [.int (k12), .int (0), .int ((-1)), as15, pa16, ne17, .ref (ad (21 + 2 * kk))])) := ⟨_, rfl⟩
          have hP : va_P D vcl (fw n ad mem97) H := by rw [e_mem97]; exact hP
          have hD : va_D (Az sz) (fw n ad mem97) := fw_D hD
          have h_mem97 : mem97 ((20 + 2 * kk)) = .inr (2, [.int (k12), .int (0), .int ((-1)), as15, pa16, ne17, .ref (ad (21 + 2 * kk))]) := by rw [e_mem97, va_up_self]
          have hh98 := (va_up_ne mem69 (.inr (2, [.int (k12), .int (0), .int ((-1)), as15, pa16, ne17, .ref (ad (21 + 2 * kk))])) (show (222 : Nat) ≠ (20 + 2 * kk) by first | decide | assumption | omega)).trans h9_78
          rw [← e_mem97] at hh98
          have hh99 := (va_up_ne mem69 (.inr (2, [.int (k12), .int (0), .int ((-1)), as15, pa16, ne17, .ref (ad (21 + 2 * kk))])) (show (1 : Nat) ≠ (20 + 2 * kk) by first | decide | assumption | omega)).trans h1_79
          rw [← e_mem97] at hh99
          have hh100 := (va_up_ne mem69 (.inr (2, [.int (k12), .int (0), .int ((-1)), as15, pa16, ne17, .ref (ad (21 + 2 * kk))])) (show (5 : Nat) ≠ (20 + 2 * kk) by first | decide | assumption | omega)).trans h5_81
          rw [← e_mem97] at hh100
          have hh101 := (va_up_ne mem69 (.inr (2, [.int (k12), .int (0), .int ((-1)), as15, pa16, ne17, .ref (ad (21 + 2 * kk))])) (show (220 : Nat) ≠ (20 + 2 * kk) by first | decide | assumption | omega)).trans h220_85
          rw [← e_mem97] at hh101
          have hRX102 : RX cy ad lim (a + 1) (R) (Ec) (to) (nm) m0 mem97 := by rw [e_mem97]; exact hRX71.el (by omega) (hRX71.1.mk (by omega) (hRX71.1.1.upEl (by omega) ho_19))
          refine lv_goto Bx.1 Bx.2.1 d_Rd_readRepeat_51 rfl ?_
          refine lv_aload_n Bx.1 Bx.2.1 d_Rd_readRepeat_64 rfl (lv_at hl 2 rfl) ?_
          refine lv_aload_n Bx.1 Bx.2.1 d_Rd_readRepeat_65 rfl (lv_at hl 3 rfl) ?_
          refine f_getN Bx hP (by omega) h_mem97 rfl inEl 2 (by decide) kw_82 rfl rfl d_Rd_readRepeat_66 ?_
          refine lv_iconst (v := -1) Bx.1 Bx.2.1 d_Rd_readRepeat_69 (by decide) ?_
          refine lv_icmp_eq Bx.1 Bx.2.1 d_Rd_readRepeat_70 rfl (fun hb103 => ?_) (fun hb103 => ?_)
          · refine lv_iconst (v := 1) Bx.1 Bx.2.1 d_Rd_readRepeat_84 (by decide) ?_
            refine lv_goto Bx.1 Bx.2.1 d_Rd_readRepeat_85 rfl ?_
            refine lv_iload_n Bx.1 Bx.2.1 d_Rd_readRepeat_89 rfl (lv_at hl 1 rfl) ?_
            refine f_xVv (na := 2) (As := [.int (1), .int (nI a)]) (rest := []) Bx hml E hP hD hS (by omega) hh98 rfl (m_Rd_needReadableX l hlt hn hT hf hRX102 (by omega)) kw_360 kw_362 sel_Rd_needReadable kw_6 kw_363 (by decide +kernel) ⟨rfl, rfl⟩ ⟨Nat.le_of_ble_eq_true rfl, Nat.le_of_ble_eq_true rfl⟩ rfl hl.1 (Nat.le_of_ble_eq_true rfl) d_Rd_readRepeat_90 ⟨Nat.le_of_ble_eq_true rfl, Nat.le_of_ble_eq_true rfl⟩ (fun X ce q9 memx H locs hx9 hP hS g1 g2 g3 => f_out hlocks hno hP hS g1 g2 g3 ⟨Nat.le_of_ble_eq_true rfl, Nat.le_of_ble_eq_true rfl⟩ ⟨hx9.1, absurd hx9.2 (by decide)⟩) (fun mem105 H locs hq hP hS => ?_)
            have hD : va_D (Az sz) (fw n ad mem105) := fw_D hD
            obtain ⟨hqe, hg106⟩ := hq
            rw [hqe] at hP hD
            exact x_vret hx hb hlocks hr (⟨0, a, -1, a + 1, rpt1_n hdg26, rpt2_x (rpt1_n hdg26) hb53 hdg74, fun z => z.1 (by decide), by omega, by omega, hRX102⟩) hP hS d_Rd_readRepeat_93
          · exact absurd hb103 (by decide)
        · subst hrv75
          have hlt107 := hereF_lt (dgF_ne hdg74)
          rw [hae76] at hRX71
          obtain ⟨ft108, h9_109⟩ := hRX71.2.1
          have h1_110 : mem69 1 = .inr (0, [.ref (ad 2), .int (nI Z)]) := (hRX71.1.2.2 1 (by omega)).trans hT.1
          have h2_111 : mem69 2 = .inl (cy 0, 240, .inl f) := (hRX71.1.2.2 2 (by omega)).trans hT.2.2
          have h5_112 := hRX71.1.1.2.1
          have hbd118 := hRX71.1.1.1
          obtain ⟨S113, g114, hS_115, h220_116, h221_117⟩ := hRX71.1.1.2.2.2.2.2.2
          obtain ⟨k119, lo120, hi121, as122, pa123, ne124, he_125, ho_126⟩ := (hRX71.1.1.2.2.2.2.2.1 kk (by omega)).1
          have hel127 := (hfr73 (20 + 2 * kk) (by omega)).trans h_mem62
          refine f_putN Bx hP hD hS (by omega) hel127 rfl inEl tyEl okEl nmEl 2 (by decide) kw_82 rfl rfl rfl rfl (Nat.le_of_ble_eq_true rfl) d_Rd_readRepeat_48 (fun H locs hP hS => ?_)
          obtain ⟨mem128, e_mem128⟩ : ∃ z, z = va_up mem69 ((20 + 2 * kk)) (.inr (2, [.int (k12), .int (0), .int ((hereF Z T (a + 1) - 48)), as15, pa16, ne17, .ref (ad (21 + 2 * kk))])) := ⟨_, rfl⟩
          have hP : va_P D vcl (fw n ad mem128) H := by rw [e_mem128]; exact hP
          have hD : va_D (Az sz) (fw n ad mem128) := fw_D hD
          have h_mem128 : mem128 ((20 + 2 * kk)) = .inr (2, [.int (k12), .int (0), .int ((hereF Z T (a + 1) - 48)), as15, pa16, ne17, .ref (ad (21 + 2 * kk))]) := by rw [e_mem128, va_up_self]
          have hh129 := (va_up_ne mem69 (.inr (2, [.int (k12), .int (0), .int ((hereF Z T (a + 1) - 48)), as15, pa16, ne17, .ref (ad (21 + 2 * kk))])) (show (222 : Nat) ≠ (20 + 2 * kk) by first | decide | assumption | omega)).trans h9_109
          rw [← e_mem128] at hh129
          have hh130 := (va_up_ne mem69 (.inr (2, [.int (k12), .int (0), .int ((hereF Z T (a + 1) - 48)), as15, pa16, ne17, .ref (ad (21 + 2 * kk))])) (show (1 : Nat) ≠ (20 + 2 * kk) by first | decide | assumption | omega)).trans h1_110
          rw [← e_mem128] at hh130
          have hh131 := (va_up_ne mem69 (.inr (2, [.int (k12), .int (0), .int ((hereF Z T (a + 1) - 48)), as15, pa16, ne17, .ref (ad (21 + 2 * kk))])) (show (5 : Nat) ≠ (20 + 2 * kk) by first | decide | assumption | omega)).trans h5_112
          rw [← e_mem128] at hh131
          have hh132 := (va_up_ne mem69 (.inr (2, [.int (k12), .int (0), .int ((hereF Z T (a + 1) - 48)), as15, pa16, ne17, .ref (ad (21 + 2 * kk))])) (show (220 : Nat) ≠ (20 + 2 * kk) by first | decide | assumption | omega)).trans h220_116
          rw [← e_mem128] at hh132
          have hRX133 : RX cy ad lim (a + 1 + 1) (R) (Ec) (to) (nm) m0 mem128 := by rw [e_mem128]; exact hRX71.el (by omega) (hRX71.1.mk (by omega) (hRX71.1.1.upEl (by omega) ho_19))
          refine lv_goto Bx.1 Bx.2.1 d_Rd_readRepeat_51 rfl ?_
          refine lv_aload_n Bx.1 Bx.2.1 d_Rd_readRepeat_64 rfl (lv_at hl 2 rfl) ?_
          refine lv_aload_n Bx.1 Bx.2.1 d_Rd_readRepeat_65 rfl (lv_at hl 3 rfl) ?_
          refine f_getN Bx hP (by omega) h_mem128 rfl inEl 2 (by decide) kw_82 rfl rfl d_Rd_readRepeat_66 ?_
          refine lv_iconst (v := -1) Bx.1 Bx.2.1 d_Rd_readRepeat_69 (by decide) ?_
          refine lv_icmp_eq Bx.1 Bx.2.1 d_Rd_readRepeat_70 rfl (fun hb134 => ?_) (fun hb134 => ?_)
          · exact absurd (by rw [hb134]; decide) (dgF_sub hdg74)
          · refine lv_aload_n Bx.1 Bx.2.1 d_Rd_readRepeat_73 rfl (lv_at hl 3 rfl) ?_
            refine f_getN Bx hP (by omega) h_mem128 rfl inEl 1 (by decide) kw_79 rfl rfl d_Rd_readRepeat_74 ?_
            refine lv_aload_n Bx.1 Bx.2.1 d_Rd_readRepeat_77 rfl (lv_at hl 3 rfl) ?_
            refine f_getN Bx hP (by omega) h_mem128 rfl inEl 2 (by decide) kw_82 rfl rfl d_Rd_readRepeat_78 ?_
            refine lv_icmp_gt Bx.1 Bx.2.1 d_Rd_readRepeat_81 rfl (fun hb135 => ?_) (fun hb135 => ?_)
            · refine lv_iconst (v := 0) Bx.1 Bx.2.1 d_Rd_readRepeat_88 (by decide) ?_
              refine lv_iload_n Bx.1 Bx.2.1 d_Rd_readRepeat_89 rfl (lv_at hl 1 rfl) ?_
              refine f_xVv (na := 2) (As := [.int (0), .int (nI a)]) (rest := []) Bx hml E hP hD hS (by omega) hh129 rfl (m_Rd_needReadableX l hlt hn hT hf hRX133 (by omega)) kw_360 kw_362 sel_Rd_needReadable kw_6 kw_363 (by decide +kernel) ⟨rfl, rfl⟩ ⟨Nat.le_of_ble_eq_true rfl, Nat.le_of_ble_eq_true rfl⟩ rfl hl.1 (Nat.le_of_ble_eq_true rfl) d_Rd_readRepeat_90 ⟨Nat.le_of_ble_eq_true rfl, Nat.le_of_ble_eq_true rfl⟩ (fun X ce q9 memx H locs hx9 hP hS g1 g2 g3 => f_out hlocks hno hP hS g1 g2 g3 ⟨Nat.le_of_ble_eq_true rfl, Nat.le_of_ble_eq_true rfl⟩ ⟨hx9.1, ⟨0, a, hereF Z T (a + 1) - 48, a + 1 + 1, rpt1_n hdg26, rpt2_d (rpt1_n hdg26) hb53 hdg74, dgF_sub hdg74, hb135⟩⟩) (fun mem137 H locs hq hP hS => ?_)
              have hD : va_D (Az sz) (fw n ad mem137) := fw_D hD
              obtain ⟨hqe, hg138⟩ := hq
              rw [hqe] at hP hD
              exact absurd rfl hg138
            · refine lv_iconst (v := 1) Bx.1 Bx.2.1 d_Rd_readRepeat_84 (by decide) ?_
              refine lv_goto Bx.1 Bx.2.1 d_Rd_readRepeat_85 rfl ?_
              refine lv_iload_n Bx.1 Bx.2.1 d_Rd_readRepeat_89 rfl (lv_at hl 1 rfl) ?_
              refine f_xVv (na := 2) (As := [.int (1), .int (nI a)]) (rest := []) Bx hml E hP hD hS (by omega) hh129 rfl (m_Rd_needReadableX l hlt hn hT hf hRX133 (by omega)) kw_360 kw_362 sel_Rd_needReadable kw_6 kw_363 (by decide +kernel) ⟨rfl, rfl⟩ ⟨Nat.le_of_ble_eq_true rfl, Nat.le_of_ble_eq_true rfl⟩ rfl hl.1 (Nat.le_of_ble_eq_true rfl) d_Rd_readRepeat_90 ⟨Nat.le_of_ble_eq_true rfl, Nat.le_of_ble_eq_true rfl⟩ (fun X ce q9 memx H locs hx9 hP hS g1 g2 g3 => f_out hlocks hno hP hS g1 g2 g3 ⟨Nat.le_of_ble_eq_true rfl, Nat.le_of_ble_eq_true rfl⟩ ⟨hx9.1, absurd hx9.2 (by decide)⟩) (fun mem140 H locs hq hP hS => ?_)
              have hD : va_D (Az sz) (fw n ad mem140) := fw_D hD
              obtain ⟨hqe, hg141⟩ := hq
              rw [hqe] at hP hD
              exact x_vret hx hb hlocks hr (⟨0, a, hereF Z T (a + 1) - 48, a + 1 + 1, rpt1_n hdg26, rpt2_d (rpt1_n hdg26) hb53 hdg74, fun z => absurd z.2 (hb135), by omega, by omega, hRX133⟩) hP hS d_Rd_readRepeat_93
  · subst hrv27
    have hlt142 := hereF_lt (dgF_ne hdg26)
    rw [hae28] at hRX23
    obtain ⟨ft143, h9_144⟩ := hRX23.2.1
    have h1_145 : mem21 1 = .inr (0, [.ref (ad 2), .int (nI Z)]) := (hRX23.1.2.2 1 (by omega)).trans hT.1
    have h2_146 : mem21 2 = .inl (cy 0, 240, .inl f) := (hRX23.1.2.2 2 (by omega)).trans hT.2.2
    have h5_147 := hRX23.1.1.2.1
    have hbd153 := hRX23.1.1.1
    obtain ⟨S148, g149, hS_150, h220_151, h221_152⟩ := hRX23.1.1.2.2.2.2.2.2
    obtain ⟨k154, lo155, hi156, as157, pa158, ne159, he_160, ho_161⟩ := (hRX23.1.1.2.2.2.2.2.1 kk (by omega)).1
    have hel162 := (hfr25 (20 + 2 * kk) (by omega)).trans he_18
    refine lv_istore_n (lv' := [(3, .int ((hereF Z T (a) - 48))), (2, .int (nI a)), (0, .ref (ad 222)), (1, .ref (ad (20 + 2 * kk)))]) Bx.1 Bx.2.1 d_Rd_readRepeat_9 rfl hl (by decide) rfl (fun ls hl => ?_)
    refine lv_aload_n Bx.1 Bx.2.1 d_Rd_readRepeat_10 rfl (lv_at hl 2 rfl) ?_
    refine f_callVi (na := 0) (As := []) (rest := []) Bx hml E hP hD hS (by omega) h9_144 rfl (m_Rd_peekX l hn hT hf hRX23 (by omega)) kw_353 kw_355 sel_Rd_peek kw_6 kw_356 (by decide +kernel) ⟨rfl, rfl⟩ ⟨Nat.le_of_ble_eq_true rfl, Nat.le_of_ble_eq_true rfl⟩ rfl hl.1 (Nat.le_of_ble_eq_true rfl) d_Rd_readRepeat_11 ⟨Nat.le_of_ble_eq_true rfl, Nat.le_of_ble_eq_true rfl⟩ (fun r164 mem165 H locs hq hP hS => ?_)
    have hD : va_D (Az sz) (fw n ad mem165) := fw_D hD
    obtain ⟨hqe, hpk163⟩ := hq
    rw [hqe] at hP hD
    subst hpk163
    refine lv_bipush (v := 42) Bx.1 Bx.2.1 d_Rd_readRepeat_14 (by decide) ?_
    refine lv_icmp_ne Bx.1 Bx.2.1 d_Rd_readRepeat_16 rfl (fun hb167 => ?_) (fun hb167 => ?_)
    · refine lv_aload_n Bx.1 Bx.2.1 d_Rd_readRepeat_54 rfl (lv_at hl 3 rfl) ?_
      refine lv_iload_n Bx.1 Bx.2.1 d_Rd_readRepeat_55 rfl (lv_at hl 0 rfl) ?_
      refine f_putN Bx hP hD hS (by omega) hel162 rfl inEl tyEl okEl nmEl 1 (by decide) kw_79 rfl rfl rfl rfl (Nat.le_of_ble_eq_true rfl) d_Rd_readRepeat_56 (fun H locs hP hS => ?_)
      obtain ⟨mem168, e_mem168⟩ : ∃ z, z = va_up mem21 ((20 + 2 * kk)) (.inr (2, [.int (k12), .int ((hereF Z T (a) - 48)), .int (hi14), as15, pa16, ne17, .ref (ad (21 + 2 * kk))])) := ⟨_, rfl⟩
      have hP : va_P D vcl (fw n ad mem168) H := by rw [e_mem168]; exact hP
      have hD : va_D (Az sz) (fw n ad mem168) := fw_D hD
      have h_mem168 : mem168 ((20 + 2 * kk)) = .inr (2, [.int (k12), .int ((hereF Z T (a) - 48)), .int (hi14), as15, pa16, ne17, .ref (ad (21 + 2 * kk))]) := by rw [e_mem168, va_up_self]
      have hh169 := (va_up_ne mem21 (.inr (2, [.int (k12), .int ((hereF Z T (a) - 48)), .int (hi14), as15, pa16, ne17, .ref (ad (21 + 2 * kk))])) (show (222 : Nat) ≠ (20 + 2 * kk) by first | decide | assumption | omega)).trans h9_144
      rw [← e_mem168] at hh169
      have hh170 := (va_up_ne mem21 (.inr (2, [.int (k12), .int ((hereF Z T (a) - 48)), .int (hi14), as15, pa16, ne17, .ref (ad (21 + 2 * kk))])) (show (1 : Nat) ≠ (20 + 2 * kk) by first | decide | assumption | omega)).trans h1_145
      rw [← e_mem168] at hh170
      have hh171 := (va_up_ne mem21 (.inr (2, [.int (k12), .int ((hereF Z T (a) - 48)), .int (hi14), as15, pa16, ne17, .ref (ad (21 + 2 * kk))])) (show (5 : Nat) ≠ (20 + 2 * kk) by first | decide | assumption | omega)).trans h5_147
      rw [← e_mem168] at hh171
      have hh172 := (va_up_ne mem21 (.inr (2, [.int (k12), .int ((hereF Z T (a) - 48)), .int (hi14), as15, pa16, ne17, .ref (ad (21 + 2 * kk))])) (show (220 : Nat) ≠ (20 + 2 * kk) by first | decide | assumption | omega)).trans h220_151
      rw [← e_mem168] at hh172
      have hRX173 : RX cy ad lim (a + 1) (R) (Ec) (to) (nm) m0 mem168 := by rw [e_mem168]; exact hRX23.el (by omega) (hRX23.1.mk (by omega) (hRX23.1.1.upEl (by omega) ho_19))
      refine lv_aload_n Bx.1 Bx.2.1 d_Rd_readRepeat_59 rfl (lv_at hl 3 rfl) ?_
      refine lv_iload_n Bx.1 Bx.2.1 d_Rd_readRepeat_60 rfl (lv_at hl 0 rfl) ?_
      refine f_putN Bx hP hD hS (by omega) h_mem168 rfl inEl tyEl okEl nmEl 2 (by decide) kw_82 rfl rfl rfl rfl (Nat.le_of_ble_eq_true rfl) d_Rd_readRepeat_61 (fun H locs hP hS => ?_)
      obtain ⟨mem174, e_mem174⟩ : ∃ z, z = va_up mem168 ((20 + 2 * kk)) (.inr (2, [.int (k12), .int ((hereF Z T (a) - 48)), .int ((hereF Z T (a) - 48)), as15, pa16, ne17, .ref (ad (21 + 2 * kk))])) := ⟨_, rfl⟩
      have hP : va_P D vcl (fw n ad mem174) H := by rw [e_mem174]; exact hP
      have hD : va_D (Az sz) (fw n ad mem174) := fw_D hD
      have h_mem174 : mem174 ((20 + 2 * kk)) = .inr (2, [.int (k12), .int ((hereF Z T (a) - 48)), .int ((hereF Z T (a) - 48)), as15, pa16, ne17, .ref (ad (21 + 2 * kk))]) := by rw [e_mem174, va_up_self]
      have hh175 := (va_up_ne mem168 (.inr (2, [.int (k12), .int ((hereF Z T (a) - 48)), .int ((hereF Z T (a) - 48)), as15, pa16, ne17, .ref (ad (21 + 2 * kk))])) (show (222 : Nat) ≠ (20 + 2 * kk) by first | decide | assumption | omega)).trans hh169
      rw [← e_mem174] at hh175
      have hh176 := (va_up_ne mem168 (.inr (2, [.int (k12), .int ((hereF Z T (a) - 48)), .int ((hereF Z T (a) - 48)), as15, pa16, ne17, .ref (ad (21 + 2 * kk))])) (show (1 : Nat) ≠ (20 + 2 * kk) by first | decide | assumption | omega)).trans hh170
      rw [← e_mem174] at hh176
      have hh177 := (va_up_ne mem168 (.inr (2, [.int (k12), .int ((hereF Z T (a) - 48)), .int ((hereF Z T (a) - 48)), as15, pa16, ne17, .ref (ad (21 + 2 * kk))])) (show (5 : Nat) ≠ (20 + 2 * kk) by first | decide | assumption | omega)).trans hh171
      rw [← e_mem174] at hh177
      have hh178 := (va_up_ne mem168 (.inr (2, [.int (k12), .int ((hereF Z T (a) - 48)), .int ((hereF Z T (a) - 48)), as15, pa16, ne17, .ref (ad (21 + 2 * kk))])) (show (220 : Nat) ≠ (20 + 2 * kk) by first | decide | assumption | omega)).trans hh172
      rw [← e_mem174] at hh178
      have hRX179 : RX cy ad lim (a + 1) (R) (Ec) (to) (nm) m0 mem174 := by rw [e_mem174]; exact hRX173.el (by omega) (hRX173.1.mk (by omega) (hRX173.1.1.upEl (by omega) ho_19))
      refine lv_aload_n Bx.1 Bx.2.1 d_Rd_readRepeat_64 rfl (lv_at hl 2 rfl) ?_
      refine lv_aload_n Bx.1 Bx.2.1 d_Rd_readRepeat_65 rfl (lv_at hl 3 rfl) ?_
      refine f_getN Bx hP (by omega) h_mem174 rfl inEl 2 (by decide) kw_82 rfl rfl d_Rd_readRepeat_66 ?_
      refine lv_iconst (v := -1) Bx.1 Bx.2.1 d_Rd_readRepeat_69 (by decide) ?_
      refine lv_icmp_eq Bx.1 Bx.2.1 d_Rd_readRepeat_70 rfl (fun hb180 => ?_) (fun hb180 => ?_)
      · exact absurd (by rw [hb180]; decide) (dgF_sub hdg26)
      · refine lv_aload_n Bx.1 Bx.2.1 d_Rd_readRepeat_73 rfl (lv_at hl 3 rfl) ?_
        refine f_getN Bx hP (by omega) h_mem174 rfl inEl 1 (by decide) kw_79 rfl rfl d_Rd_readRepeat_74 ?_
        refine lv_aload_n Bx.1 Bx.2.1 d_Rd_readRepeat_77 rfl (lv_at hl 3 rfl) ?_
        refine f_getN Bx hP (by omega) h_mem174 rfl inEl 2 (by decide) kw_82 rfl rfl d_Rd_readRepeat_78 ?_
        refine lv_icmp_gt Bx.1 Bx.2.1 d_Rd_readRepeat_81 rfl (fun hb181 => ?_) (fun hb181 => ?_)
        · refine lv_iconst (v := 0) Bx.1 Bx.2.1 d_Rd_readRepeat_88 (by decide) ?_
          refine lv_iload_n Bx.1 Bx.2.1 d_Rd_readRepeat_89 rfl (lv_at hl 1 rfl) ?_
          refine f_xVv (na := 2) (As := [.int (0), .int (nI a)]) (rest := []) Bx hml E hP hD hS (by omega) hh175 rfl (m_Rd_needReadableX l hlt hn hT hf hRX179 (by omega)) kw_360 kw_362 sel_Rd_needReadable kw_6 kw_363 (by decide +kernel) ⟨rfl, rfl⟩ ⟨Nat.le_of_ble_eq_true rfl, Nat.le_of_ble_eq_true rfl⟩ rfl hl.1 (Nat.le_of_ble_eq_true rfl) d_Rd_readRepeat_90 ⟨Nat.le_of_ble_eq_true rfl, Nat.le_of_ble_eq_true rfl⟩ (fun X ce q9 memx H locs hx9 hP hS g1 g2 g3 => f_out hlocks hno hP hS g1 g2 g3 ⟨Nat.le_of_ble_eq_true rfl, Nat.le_of_ble_eq_true rfl⟩ ⟨hx9.1, ⟨hereF Z T a - 48, a + 1, hereF Z T a - 48, a + 1, rpt1_d hdg26, rpt2_n (rpt1_d hdg26) hb167, dgF_sub hdg26, hb181⟩⟩) (fun mem183 H locs hq hP hS => ?_)
          have hD : va_D (Az sz) (fw n ad mem183) := fw_D hD
          obtain ⟨hqe, hg184⟩ := hq
          rw [hqe] at hP hD
          exact absurd rfl hg184
        · refine lv_iconst (v := 1) Bx.1 Bx.2.1 d_Rd_readRepeat_84 (by decide) ?_
          refine lv_goto Bx.1 Bx.2.1 d_Rd_readRepeat_85 rfl ?_
          refine lv_iload_n Bx.1 Bx.2.1 d_Rd_readRepeat_89 rfl (lv_at hl 1 rfl) ?_
          refine f_xVv (na := 2) (As := [.int (1), .int (nI a)]) (rest := []) Bx hml E hP hD hS (by omega) hh175 rfl (m_Rd_needReadableX l hlt hn hT hf hRX179 (by omega)) kw_360 kw_362 sel_Rd_needReadable kw_6 kw_363 (by decide +kernel) ⟨rfl, rfl⟩ ⟨Nat.le_of_ble_eq_true rfl, Nat.le_of_ble_eq_true rfl⟩ rfl hl.1 (Nat.le_of_ble_eq_true rfl) d_Rd_readRepeat_90 ⟨Nat.le_of_ble_eq_true rfl, Nat.le_of_ble_eq_true rfl⟩ (fun X ce q9 memx H locs hx9 hP hS g1 g2 g3 => f_out hlocks hno hP hS g1 g2 g3 ⟨Nat.le_of_ble_eq_true rfl, Nat.le_of_ble_eq_true rfl⟩ ⟨hx9.1, absurd hx9.2 (by decide)⟩) (fun mem186 H locs hq hP hS => ?_)
          have hD : va_D (Az sz) (fw n ad mem186) := fw_D hD
          obtain ⟨hqe, hg187⟩ := hq
          rw [hqe] at hP hD
          exact x_vret hx hb hlocks hr (⟨hereF Z T a - 48, a + 1, hereF Z T a - 48, a + 1, rpt1_d hdg26, rpt2_n (rpt1_d hdg26) hb167, fun z => absurd z.2 (hb181), by omega, by omega, hRX179⟩) hP hS d_Rd_readRepeat_93
    · have hlt188 := hereF_lt (by rw [hb167]; decide)
      refine lv_aload_n Bx.1 Bx.2.1 d_Rd_readRepeat_19 rfl (lv_at hl 2 rfl) ?_
      refine lv_dup Bx.1 Bx.2.1 d_Rd_readRepeat_20 rfl ?_
      refine f_get Bx hP (by omega) h9_144 rfl inRd 2 (by decide) kw_146 rfl rfl d_Rd_readRepeat_21 ?_
      refine lv_iconst (v := 1) Bx.1 Bx.2.1 d_Rd_readRepeat_24 (by decide) ?_
      refine lv_iadd Bx.1 Bx.2.1 d_Rd_readRepeat_25 ?_
      rw [show nI (a + 1) + 1 = nI (a + 1 + 1) from nI_add (a + 1) (1)]
      refine f_put Bx hP hD hS (by omega) h9_144 rfl inRd tyRd okRd nmRd 2 (by decide) kw_146 rfl rfl rfl rfl (Nat.le_of_ble_eq_true rfl) d_Rd_readRepeat_26 (fun H locs hP hS => ?_)
      obtain ⟨mem189, e_mem189⟩ : ∃ z, z = va_up mem21 (222) (.inr (4, [.ref (ad 1), .ref (ad 5), .int (nI (a + 1 + 1)), .int (ft143)])) := ⟨_, rfl⟩
      have hP : va_P D vcl (fw n ad mem189) H := by rw [e_mem189]; exact hP
      have hD : va_D (Az sz) (fw n ad mem189) := fw_D hD
      have h_mem189 : mem189 (222) = .inr (4, [.ref (ad 1), .ref (ad 5), .int (nI (a + 1 + 1)), .int (ft143)]) := by rw [e_mem189, va_up_self]
      have hh190 := (va_up_ne mem21 (.inr (4, [.ref (ad 1), .ref (ad 5), .int (nI (a + 1 + 1)), .int (ft143)])) (show (1 : Nat) ≠ 222 by first | decide | assumption | omega)).trans h1_145
      rw [← e_mem189] at hh190
      have hh191 := (va_up_ne mem21 (.inr (4, [.ref (ad 1), .ref (ad 5), .int (nI (a + 1 + 1)), .int (ft143)])) (show (5 : Nat) ≠ 222 by first | decide | assumption | omega)).trans h5_147
      rw [← e_mem189] at hh191
      have hh192 := (va_up_ne mem21 (.inr (4, [.ref (ad 1), .ref (ad 5), .int (nI (a + 1 + 1)), .int (ft143)])) (show (220 : Nat) ≠ 222 by first | decide | assumption | omega)).trans h220_151
      rw [← e_mem189] at hh192
      have hh193 := (va_up_ne mem21 (.inr (4, [.ref (ad 1), .ref (ad 5), .int (nI (a + 1 + 1)), .int (ft143)])) (show ((20 + 2 * kk) : Nat) ≠ 222 by first | decide | assumption | omega)).trans hel162
      rw [← e_mem189] at hh193
      have hRX194 : RX cy ad lim (a + 1 + 1) (R) (Ec) (to) (nm) m0 mem189 := by rw [e_mem189]; exact hRX23.at
      refine lv_aload_n Bx.1 Bx.2.1 d_Rd_readRepeat_29 rfl (lv_at hl 3 rfl) ?_
      refine lv_iload_n Bx.1 Bx.2.1 d_Rd_readRepeat_30 rfl (lv_at hl 0 rfl) ?_
      refine lv_iconst (v := -1) Bx.1 Bx.2.1 d_Rd_readRepeat_31 (by decide) ?_
      refine lv_icmp_ne Bx.1 Bx.2.1 d_Rd_readRepeat_32 rfl (fun hb195 => ?_) (fun hb195 => ?_)
      · refine lv_iload_n Bx.1 Bx.2.1 d_Rd_readRepeat_39 rfl (lv_at hl 0 rfl) ?_
        refine f_putN Bx hP hD hS (by omega) hh193 rfl inEl tyEl okEl nmEl 1 (by decide) kw_79 rfl rfl rfl rfl (Nat.le_of_ble_eq_true rfl) d_Rd_readRepeat_40 (fun H locs hP hS => ?_)
        obtain ⟨mem196, e_mem196⟩ : ∃ z, z = va_up mem189 ((20 + 2 * kk)) (.inr (2, [.int (k12), .int ((hereF Z T (a) - 48)), .int (hi14), as15, pa16, ne17, .ref (ad (21 + 2 * kk))])) := ⟨_, rfl⟩
        have hP : va_P D vcl (fw n ad mem196) H := by rw [e_mem196]; exact hP
        have hD : va_D (Az sz) (fw n ad mem196) := fw_D hD
        have h_mem196 : mem196 ((20 + 2 * kk)) = .inr (2, [.int (k12), .int ((hereF Z T (a) - 48)), .int (hi14), as15, pa16, ne17, .ref (ad (21 + 2 * kk))]) := by rw [e_mem196, va_up_self]
        have hh197 := (va_up_ne mem189 (.inr (2, [.int (k12), .int ((hereF Z T (a) - 48)), .int (hi14), as15, pa16, ne17, .ref (ad (21 + 2 * kk))])) (show (222 : Nat) ≠ (20 + 2 * kk) by first | decide | assumption | omega)).trans h_mem189
        rw [← e_mem196] at hh197
        have hh198 := (va_up_ne mem189 (.inr (2, [.int (k12), .int ((hereF Z T (a) - 48)), .int (hi14), as15, pa16, ne17, .ref (ad (21 + 2 * kk))])) (show (1 : Nat) ≠ (20 + 2 * kk) by first | decide | assumption | omega)).trans hh190
        rw [← e_mem196] at hh198
        have hh199 := (va_up_ne mem189 (.inr (2, [.int (k12), .int ((hereF Z T (a) - 48)), .int (hi14), as15, pa16, ne17, .ref (ad (21 + 2 * kk))])) (show (5 : Nat) ≠ (20 + 2 * kk) by first | decide | assumption | omega)).trans hh191
        rw [← e_mem196] at hh199
        have hh200 := (va_up_ne mem189 (.inr (2, [.int (k12), .int ((hereF Z T (a) - 48)), .int (hi14), as15, pa16, ne17, .ref (ad (21 + 2 * kk))])) (show (220 : Nat) ≠ (20 + 2 * kk) by first | decide | assumption | omega)).trans hh192
        rw [← e_mem196] at hh200
        have hRX201 : RX cy ad lim (a + 1 + 1) (R) (Ec) (to) (nm) m0 mem196 := by rw [e_mem196]; exact hRX194.el (by omega) (hRX194.1.mk (by omega) (hRX194.1.1.upEl (by omega) ho_19))
        refine lv_aload_n Bx.1 Bx.2.1 d_Rd_readRepeat_43 rfl (lv_at hl 3 rfl) ?_
        refine lv_aload_n Bx.1 Bx.2.1 d_Rd_readRepeat_44 rfl (lv_at hl 2 rfl) ?_
        refine f_callVi (na := 0) (As := []) (rest := [.ref (ad (20 + 2 * kk))]) Bx hml E hP hD hS (by omega) hh197 rfl (m_Rd_readDigitX l hn hT hf hRX201 (by omega)) kw_486 kw_488 sel_Rd_readDigit kw_6 kw_489 (by decide +kernel) ⟨rfl, rfl⟩ ⟨Nat.le_of_ble_eq_true rfl, Nat.le_of_ble_eq_true rfl⟩ rfl hl.1 (Nat.le_of_ble_eq_true rfl) d_Rd_readRepeat_45 ⟨Nat.le_of_ble_eq_true rfl, Nat.le_of_ble_eq_true rfl⟩ (fun r202 mem203 H locs hq hP hS => ?_)
        have hD : va_D (Az sz) (fw n ad mem203) := fw_D hD
        obtain ⟨a204, hRX205, hdc206, hfr207⟩ := hq
        rcases hdc206 with ⟨hdg208, hrv209, hae210⟩ | ⟨hdg208, hrv209, hae210⟩
        · subst hrv209
          rw [hae210] at hRX205
          obtain ⟨ft211, h9_212⟩ := hRX205.2.1
          have h1_213 : mem203 1 = .inr (0, [.ref (ad 2), .int (nI Z)]) := (hRX205.1.2.2 1 (by omega)).trans hT.1
          have h2_214 : mem203 2 = .inl (cy 0, 240, .inl f) := (hRX205.1.2.2 2 (by omega)).trans hT.2.2
          have h5_215 := hRX205.1.1.2.1
          have hbd221 := hRX205.1.1.1
          obtain ⟨S216, g217, hS_218, h220_219, h221_220⟩ := hRX205.1.1.2.2.2.2.2.2
          obtain ⟨k222, lo223, hi224, as225, pa226, ne227, he_228, ho_229⟩ := (hRX205.1.1.2.2.2.2.2.1 kk (by omega)).1
          have hel230 := (hfr207 (20 + 2 * kk) (by omega)).trans h_mem196
          refine f_putN Bx hP hD hS (by omega) hel230 rfl inEl tyEl okEl nmEl 2 (by decide) kw_82 rfl rfl rfl rfl (Nat.le_of_ble_eq_true rfl) d_Rd_readRepeat_48 (fun H locs hP hS => ?_)
          obtain ⟨mem231, e_mem231⟩ : ∃ z, z = va_up mem203 ((20 + 2 * kk)) (.inr (2, [.int (k12), .int ((hereF Z T (a) - 48)), .int ((-1)), as15, pa16, ne17, .ref (ad (21 + 2 * kk))])) := ⟨_, rfl⟩
          have hP : va_P D vcl (fw n ad mem231) H := by rw [e_mem231]; exact hP
          have hD : va_D (Az sz) (fw n ad mem231) := fw_D hD
          have h_mem231 : mem231 ((20 + 2 * kk)) = .inr (2, [.int (k12), .int ((hereF Z T (a) - 48)), .int ((-1)), as15, pa16, ne17, .ref (ad (21 + 2 * kk))]) := by rw [e_mem231, va_up_self]
          have hh232 := (va_up_ne mem203 (.inr (2, [.int (k12), .int ((hereF Z T (a) - 48)), .int ((-1)), as15, pa16, ne17, .ref (ad (21 + 2 * kk))])) (show (222 : Nat) ≠ (20 + 2 * kk) by first | decide | assumption | omega)).trans h9_212
          rw [← e_mem231] at hh232
          have hh233 := (va_up_ne mem203 (.inr (2, [.int (k12), .int ((hereF Z T (a) - 48)), .int ((-1)), as15, pa16, ne17, .ref (ad (21 + 2 * kk))])) (show (1 : Nat) ≠ (20 + 2 * kk) by first | decide | assumption | omega)).trans h1_213
          rw [← e_mem231] at hh233
          have hh234 := (va_up_ne mem203 (.inr (2, [.int (k12), .int ((hereF Z T (a) - 48)), .int ((-1)), as15, pa16, ne17, .ref (ad (21 + 2 * kk))])) (show (5 : Nat) ≠ (20 + 2 * kk) by first | decide | assumption | omega)).trans h5_215
          rw [← e_mem231] at hh234
          have hh235 := (va_up_ne mem203 (.inr (2, [.int (k12), .int ((hereF Z T (a) - 48)), .int ((-1)), as15, pa16, ne17, .ref (ad (21 + 2 * kk))])) (show (220 : Nat) ≠ (20 + 2 * kk) by first | decide | assumption | omega)).trans h220_219
          rw [← e_mem231] at hh235
          have hRX236 : RX cy ad lim (a + 1 + 1) (R) (Ec) (to) (nm) m0 mem231 := by rw [e_mem231]; exact hRX205.el (by omega) (hRX205.1.mk (by omega) (hRX205.1.1.upEl (by omega) ho_19))
          refine lv_goto Bx.1 Bx.2.1 d_Rd_readRepeat_51 rfl ?_
          refine lv_aload_n Bx.1 Bx.2.1 d_Rd_readRepeat_64 rfl (lv_at hl 2 rfl) ?_
          refine lv_aload_n Bx.1 Bx.2.1 d_Rd_readRepeat_65 rfl (lv_at hl 3 rfl) ?_
          refine f_getN Bx hP (by omega) h_mem231 rfl inEl 2 (by decide) kw_82 rfl rfl d_Rd_readRepeat_66 ?_
          refine lv_iconst (v := -1) Bx.1 Bx.2.1 d_Rd_readRepeat_69 (by decide) ?_
          refine lv_icmp_eq Bx.1 Bx.2.1 d_Rd_readRepeat_70 rfl (fun hb237 => ?_) (fun hb237 => ?_)
          · refine lv_iconst (v := 1) Bx.1 Bx.2.1 d_Rd_readRepeat_84 (by decide) ?_
            refine lv_goto Bx.1 Bx.2.1 d_Rd_readRepeat_85 rfl ?_
            refine lv_iload_n Bx.1 Bx.2.1 d_Rd_readRepeat_89 rfl (lv_at hl 1 rfl) ?_
            refine f_xVv (na := 2) (As := [.int (1), .int (nI a)]) (rest := []) Bx hml E hP hD hS (by omega) hh232 rfl (m_Rd_needReadableX l hlt hn hT hf hRX236 (by omega)) kw_360 kw_362 sel_Rd_needReadable kw_6 kw_363 (by decide +kernel) ⟨rfl, rfl⟩ ⟨Nat.le_of_ble_eq_true rfl, Nat.le_of_ble_eq_true rfl⟩ rfl hl.1 (Nat.le_of_ble_eq_true rfl) d_Rd_readRepeat_90 ⟨Nat.le_of_ble_eq_true rfl, Nat.le_of_ble_eq_true rfl⟩ (fun X ce q9 memx H locs hx9 hP hS g1 g2 g3 => f_out hlocks hno hP hS g1 g2 g3 ⟨Nat.le_of_ble_eq_true rfl, Nat.le_of_ble_eq_true rfl⟩ ⟨hx9.1, absurd hx9.2 (by decide)⟩) (fun mem239 H locs hq hP hS => ?_)
            have hD : va_D (Az sz) (fw n ad mem239) := fw_D hD
            obtain ⟨hqe, hg240⟩ := hq
            rw [hqe] at hP hD
            exact x_vret hx hb hlocks hr (⟨hereF Z T a - 48, a + 1, -1, a + 1 + 1, rpt1_d hdg26, rpt2_x (rpt1_d hdg26) hb167 hdg208, fun z => z.1 (by decide), by omega, by omega, hRX236⟩) hP hS d_Rd_readRepeat_93
          · exact absurd hb237 (by decide)
        · subst hrv209
          have hlt241 := hereF_lt (dgF_ne hdg208)
          rw [hae210] at hRX205
          obtain ⟨ft242, h9_243⟩ := hRX205.2.1
          have h1_244 : mem203 1 = .inr (0, [.ref (ad 2), .int (nI Z)]) := (hRX205.1.2.2 1 (by omega)).trans hT.1
          have h2_245 : mem203 2 = .inl (cy 0, 240, .inl f) := (hRX205.1.2.2 2 (by omega)).trans hT.2.2
          have h5_246 := hRX205.1.1.2.1
          have hbd252 := hRX205.1.1.1
          obtain ⟨S247, g248, hS_249, h220_250, h221_251⟩ := hRX205.1.1.2.2.2.2.2.2
          obtain ⟨k253, lo254, hi255, as256, pa257, ne258, he_259, ho_260⟩ := (hRX205.1.1.2.2.2.2.2.1 kk (by omega)).1
          have hel261 := (hfr207 (20 + 2 * kk) (by omega)).trans h_mem196
          refine f_putN Bx hP hD hS (by omega) hel261 rfl inEl tyEl okEl nmEl 2 (by decide) kw_82 rfl rfl rfl rfl (Nat.le_of_ble_eq_true rfl) d_Rd_readRepeat_48 (fun H locs hP hS => ?_)
          obtain ⟨mem262, e_mem262⟩ : ∃ z, z = va_up mem203 ((20 + 2 * kk)) (.inr (2, [.int (k12), .int ((hereF Z T (a) - 48)), .int ((hereF Z T (a + 1 + 1) - 48)), as15, pa16, ne17, .ref (ad (21 + 2 * kk))])) := ⟨_, rfl⟩
          have hP : va_P D vcl (fw n ad mem262) H := by rw [e_mem262]; exact hP
          have hD : va_D (Az sz) (fw n ad mem262) := fw_D hD
          have h_mem262 : mem262 ((20 + 2 * kk)) = .inr (2, [.int (k12), .int ((hereF Z T (a) - 48)), .int ((hereF Z T (a + 1 + 1) - 48)), as15, pa16, ne17, .ref (ad (21 + 2 * kk))]) := by rw [e_mem262, va_up_self]
          have hh263 := (va_up_ne mem203 (.inr (2, [.int (k12), .int ((hereF Z T (a) - 48)), .int ((hereF Z T (a + 1 + 1) - 48)), as15, pa16, ne17, .ref (ad (21 + 2 * kk))])) (show (222 : Nat) ≠ (20 + 2 * kk) by first | decide | assumption | omega)).trans h9_243
          rw [← e_mem262] at hh263
          have hh264 := (va_up_ne mem203 (.inr (2, [.int (k12), .int ((hereF Z T (a) - 48)), .int ((hereF Z T (a + 1 + 1) - 48)), as15, pa16, ne17, .ref (ad (21 + 2 * kk))])) (show (1 : Nat) ≠ (20 + 2 * kk) by first | decide | assumption | omega)).trans h1_244
          rw [← e_mem262] at hh264
          have hh265 := (va_up_ne mem203 (.inr (2, [.int (k12), .int ((hereF Z T (a) - 48)), .int ((hereF Z T (a + 1 + 1) - 48)), as15, pa16, ne17, .ref (ad (21 + 2 * kk))])) (show (5 : Nat) ≠ (20 + 2 * kk) by first | decide | assumption | omega)).trans h5_246
          rw [← e_mem262] at hh265
          have hh266 := (va_up_ne mem203 (.inr (2, [.int (k12), .int ((hereF Z T (a) - 48)), .int ((hereF Z T (a + 1 + 1) - 48)), as15, pa16, ne17, .ref (ad (21 + 2 * kk))])) (show (220 : Nat) ≠ (20 + 2 * kk) by first | decide | assumption | omega)).trans h220_250
          rw [← e_mem262] at hh266
          have hRX267 : RX cy ad lim (a + 1 + 1 + 1) (R) (Ec) (to) (nm) m0 mem262 := by rw [e_mem262]; exact hRX205.el (by omega) (hRX205.1.mk (by omega) (hRX205.1.1.upEl (by omega) ho_19))
          refine lv_goto Bx.1 Bx.2.1 d_Rd_readRepeat_51 rfl ?_
          refine lv_aload_n Bx.1 Bx.2.1 d_Rd_readRepeat_64 rfl (lv_at hl 2 rfl) ?_
          refine lv_aload_n Bx.1 Bx.2.1 d_Rd_readRepeat_65 rfl (lv_at hl 3 rfl) ?_
          refine f_getN Bx hP (by omega) h_mem262 rfl inEl 2 (by decide) kw_82 rfl rfl d_Rd_readRepeat_66 ?_
          refine lv_iconst (v := -1) Bx.1 Bx.2.1 d_Rd_readRepeat_69 (by decide) ?_
          refine lv_icmp_eq Bx.1 Bx.2.1 d_Rd_readRepeat_70 rfl (fun hb268 => ?_) (fun hb268 => ?_)
          · exact absurd (by rw [hb268]; decide) (dgF_sub hdg208)
          · refine lv_aload_n Bx.1 Bx.2.1 d_Rd_readRepeat_73 rfl (lv_at hl 3 rfl) ?_
            refine f_getN Bx hP (by omega) h_mem262 rfl inEl 1 (by decide) kw_79 rfl rfl d_Rd_readRepeat_74 ?_
            refine lv_aload_n Bx.1 Bx.2.1 d_Rd_readRepeat_77 rfl (lv_at hl 3 rfl) ?_
            refine f_getN Bx hP (by omega) h_mem262 rfl inEl 2 (by decide) kw_82 rfl rfl d_Rd_readRepeat_78 ?_
            refine lv_icmp_gt Bx.1 Bx.2.1 d_Rd_readRepeat_81 rfl (fun hb269 => ?_) (fun hb269 => ?_)
            · refine lv_iconst (v := 0) Bx.1 Bx.2.1 d_Rd_readRepeat_88 (by decide) ?_
              refine lv_iload_n Bx.1 Bx.2.1 d_Rd_readRepeat_89 rfl (lv_at hl 1 rfl) ?_
              refine f_xVv (na := 2) (As := [.int (0), .int (nI a)]) (rest := []) Bx hml E hP hD hS (by omega) hh263 rfl (m_Rd_needReadableX l hlt hn hT hf hRX267 (by omega)) kw_360 kw_362 sel_Rd_needReadable kw_6 kw_363 (by decide +kernel) ⟨rfl, rfl⟩ ⟨Nat.le_of_ble_eq_true rfl, Nat.le_of_ble_eq_true rfl⟩ rfl hl.1 (Nat.le_of_ble_eq_true rfl) d_Rd_readRepeat_90 ⟨Nat.le_of_ble_eq_true rfl, Nat.le_of_ble_eq_true rfl⟩ (fun X ce q9 memx H locs hx9 hP hS g1 g2 g3 => f_out hlocks hno hP hS g1 g2 g3 ⟨Nat.le_of_ble_eq_true rfl, Nat.le_of_ble_eq_true rfl⟩ ⟨hx9.1, ⟨hereF Z T a - 48, a + 1, hereF Z T (a + 1 + 1) - 48, a + 1 + 1 + 1, rpt1_d hdg26, rpt2_d (rpt1_d hdg26) hb167 hdg208, dgF_sub hdg208, hb269⟩⟩) (fun mem271 H locs hq hP hS => ?_)
              have hD : va_D (Az sz) (fw n ad mem271) := fw_D hD
              obtain ⟨hqe, hg272⟩ := hq
              rw [hqe] at hP hD
              exact absurd rfl hg272
            · refine lv_iconst (v := 1) Bx.1 Bx.2.1 d_Rd_readRepeat_84 (by decide) ?_
              refine lv_goto Bx.1 Bx.2.1 d_Rd_readRepeat_85 rfl ?_
              refine lv_iload_n Bx.1 Bx.2.1 d_Rd_readRepeat_89 rfl (lv_at hl 1 rfl) ?_
              refine f_xVv (na := 2) (As := [.int (1), .int (nI a)]) (rest := []) Bx hml E hP hD hS (by omega) hh263 rfl (m_Rd_needReadableX l hlt hn hT hf hRX267 (by omega)) kw_360 kw_362 sel_Rd_needReadable kw_6 kw_363 (by decide +kernel) ⟨rfl, rfl⟩ ⟨Nat.le_of_ble_eq_true rfl, Nat.le_of_ble_eq_true rfl⟩ rfl hl.1 (Nat.le_of_ble_eq_true rfl) d_Rd_readRepeat_90 ⟨Nat.le_of_ble_eq_true rfl, Nat.le_of_ble_eq_true rfl⟩ (fun X ce q9 memx H locs hx9 hP hS g1 g2 g3 => f_out hlocks hno hP hS g1 g2 g3 ⟨Nat.le_of_ble_eq_true rfl, Nat.le_of_ble_eq_true rfl⟩ ⟨hx9.1, absurd hx9.2 (by decide)⟩) (fun mem274 H locs hq hP hS => ?_)
              have hD : va_D (Az sz) (fw n ad mem274) := fw_D hD
              obtain ⟨hqe, hg275⟩ := hq
              rw [hqe] at hP hD
              exact x_vret hx hb hlocks hr (⟨hereF Z T a - 48, a + 1, hereF Z T (a + 1 + 1) - 48, a + 1 + 1 + 1, rpt1_d hdg26, rpt2_d (rpt1_d hdg26) hb167 hdg208, fun z => absurd z.2 (hb269), by omega, by omega, hRX267⟩) hP hS d_Rd_readRepeat_93
      · exact absurd (by rw [hb195]; decide) (dgF_sub hdg26)
set_option maxHeartbeats 4000000 in
set_option maxRecDepth 100000 in
theorem m_Rd_readNumberX (l : Launch) {D : va_G} {cy : Nat → ClassId} {sz n : Nat} {ad : Nat → Nat} {mem : Nat → va_E} {Z a R Ec lim : Nat} {f T : Nat → Int32} {to : Nat → Int32} {nm : Nat → Int64} {m0 : Nat → va_E} {st ba : Int32} (hlt : l.stackTraces = false) (hn : 224 ≤ n) (hT : TX cy ad Z f m0) (hf : ∀ k, k < Z → f k = T k) (hRX : RX cy ad lim a R Ec to nm m0 mem) (haB : a ≤ 300) (haZ : a ≤ Z) : NXi l D cy sz n ad y_Rd_readNumber c_Rd_readNumber 6 (some .int) ({ frames := 8, cells := 1, slots := 6, locals := 160 } : Room) mem [.ref (ad 222), .int (st), .int (ba)] (fun r mem' => ∃ a', numS T Z a ba = some (r, a') ∧ a < a' ∧ a' ≤ Z ∧ RX cy ad lim a' R Ec to nm m0 mem' ∧ ∀ i, i ≠ 222 → mem' i = mem i) (fun X mem' => ((X = cIA ∨ X = cIS) ∧ ∃ rc' ec' : Nat, RS cy ad lim rc' ec' m0 mem') ∧ (numS T Z a ba = none)) := by
  refine vx_ofW (cc := c_Rd_readNumber) (maxL := 6) (ret := (some .int)) (by decide) rfl ?_
  intro p e s m args below meth c s₁ B hml hno hv
  obtain ⟨rfl, E, hP, hD⟩ := hv
  have hx := B.exec
  have hb := B.bytes
  have hr := B.returns
  have hlocks := B.notSynchronized
  have Bx : MB p s m [.ref (ad 222), .int (st), .int (ba)].toArray c c_Rd_readNumber "AbnfChart$Reader" D cy := ⟨hx, hb, tb_all (atoms_spec B.pre) E.2.1, findClass_of_methodNamed B.named, E.1⟩
  have hS : va_S (Az sz) s.heap s.heap [] := va_S.rf
  have hl := lv_entry ([.ref (ad 222), .int (st), .int (ba)]) (n := 6) (Nat.le_of_ble_eq_true rfl)
  rw [lg_entry_eq]
  generalize (lg_sl ([.ref (ad 222), .int (st), .int (ba)]) ++ List.replicate (6 - (lg_sl ([.ref (ad 222), .int (st), .int (ba)])).length) Slot.unset).toArray = ls at hl ⊢
  have hl : lv_has ls 6 [(0, .ref (ad 222)), (1, .int (st)), (2, .int (ba))] := hl
  have hZ9 := hT.2.1
  have hbd9 := hRX.1.1.1
  obtain ⟨ft1, h9_2⟩ := hRX.2.1
  have h1_3 : mem 1 = .inr (0, [.ref (ad 2), .int (nI Z)]) := (hRX.1.2.2 1 (by omega)).trans hT.1
  have h2_4 : mem 2 = .inl (cy 0, 240, .inl f) := (hRX.1.2.2 2 (by omega)).trans hT.2.2
  have h5_5 := hRX.1.1.2.1
  have hbd11 := hRX.1.1.1
  obtain ⟨S6, g7, hS_8, h220_9, h221_10⟩ := hRX.1.1.2.2.2.2.2.2
  refine lv_iload_n Bx.1 Bx.2.1 d_Rd_readNumber_0 rfl (lv_at hl 2 rfl) ?_
  refine lv_bipush (v := 10) Bx.1 Bx.2.1 d_Rd_readNumber_1 (by decide) ?_
  refine lv_icmp_ne Bx.1 Bx.2.1 d_Rd_readNumber_3 rfl (fun hb12 => ?_) (fun hb12 => ?_)
  · refine lv_iconst (v := 2) Bx.1 Bx.2.1 d_Rd_readNumber_10 (by decide) ?_
    refine lv_istore_n (lv' := [(3, .int (2)), (0, .ref (ad 222)), (1, .int (st)), (2, .int (ba))]) Bx.1 Bx.2.1 d_Rd_readNumber_11 rfl hl (by decide) rfl (fun ls hl => ?_)
    refine lv_iconst (v := 0) Bx.1 Bx.2.1 d_Rd_readNumber_12 (by decide) ?_
    refine lv_istore (lv' := [(4, .int (0)), (3, .int (2)), (0, .ref (ad 222)), (1, .int (st)), (2, .int (ba))]) Bx.1 Bx.2.1 d_Rd_readNumber_13 hl (by decide) rfl (fun ls hl => ?_)
    refine lv_aload_n Bx.1 Bx.2.1 d_Rd_readNumber_15 rfl (lv_at hl 2 rfl) ?_
    refine lv_aload_n Bx.1 Bx.2.1 d_Rd_readNumber_16 rfl (lv_at hl 2 rfl) ?_
    refine f_callVi (na := 0) (As := []) (rest := [.ref (ad 222)]) Bx hml E hP hD hS (by omega) h9_2 rfl (m_Rd_peekX l hn hT hf hRX (by omega)) kw_353 kw_355 sel_Rd_peek kw_6 kw_356 (by decide +kernel) ⟨rfl, rfl⟩ ⟨Nat.le_of_ble_eq_true rfl, Nat.le_of_ble_eq_true rfl⟩ rfl hl.1 (Nat.le_of_ble_eq_true rfl) d_Rd_readNumber_17 ⟨Nat.le_of_ble_eq_true rfl, Nat.le_of_ble_eq_true rfl⟩ (fun r14 mem15 H locs hq hP hS => ?_)
    have hD : va_D (Az sz) (fw n ad mem15) := fw_D hD
    obtain ⟨hqe, hpk13⟩ := hq
    rw [hqe] at hP hD
    subst hpk13
    refine lv_iload_n Bx.1 Bx.2.1 d_Rd_readNumber_20 rfl (lv_at hl 4 rfl) ?_
    refine f_callSi (na := 2) (As := [.int (hereF Z T (a)), .int (ba)]) (rest := [.ref (ad 222)]) Bx hml E.2.1 (m_Rd_digitOfX l (hereF Z T (a)) (ba)) kw_475 kw_476 kw_6 kw_477 (by decide +kernel) ⟨rfl, rfl⟩ ⟨Nat.le_of_ble_eq_true rfl, Nat.le_of_ble_eq_true rfl⟩ rfl hl.1 (Nat.le_of_ble_eq_true rfl) d_Rd_readNumber_21 ⟨Nat.le_of_ble_eq_true rfl, Nat.le_of_ble_eq_true rfl⟩ (fun r18 hs17 => ?_)
    subst hs17
    refine lv_iconst (v := -1) Bx.1 Bx.2.1 d_Rd_readNumber_24 (by decide) ?_
    refine lv_icmp_eq Bx.1 Bx.2.1 d_Rd_readNumber_25 rfl (fun hb19 => ?_) (fun hb19 => ?_)
    · refine lv_iconst (v := 0) Bx.1 Bx.2.1 d_Rd_readNumber_32 (by decide) ?_
      refine lv_aload_n Bx.1 Bx.2.1 d_Rd_readNumber_33 rfl (lv_at hl 2 rfl) ?_
      refine f_get Bx hP (by omega) h9_2 rfl inRd 2 (by decide) kw_146 rfl rfl d_Rd_readNumber_34 ?_
      refine f_xVv (na := 2) (As := [.int (0), .int (nI a)]) (rest := []) Bx hml E hP hD hS (by omega) h9_2 rfl (m_Rd_needReadableX l hlt hn hT hf hRX (by omega)) kw_360 kw_362 sel_Rd_needReadable kw_6 kw_363 (by decide +kernel) ⟨rfl, rfl⟩ ⟨Nat.le_of_ble_eq_true rfl, Nat.le_of_ble_eq_true rfl⟩ rfl hl.1 (Nat.le_of_ble_eq_true rfl) d_Rd_readNumber_37 ⟨Nat.le_of_ble_eq_true rfl, Nat.le_of_ble_eq_true rfl⟩ (fun X ce q9 memx H locs hx9 hP hS g1 g2 g3 => f_out hlocks hno hP hS g1 g2 g3 ⟨Nat.le_of_ble_eq_true rfl, Nat.le_of_ble_eq_true rfl⟩ ⟨hx9.1, (by unfold numS; simp only []; rw [show numN T Z ba (if ba = 10 then 3 else 2) a 0 = (0, 0) by (first | rw [if_pos hb12] | rw [if_neg hb12]); rw [numN, if_pos (figF_m.mpr hb19)], if_pos (Or.inl rfl)])⟩) (fun mem21 H locs hq hP hS => ?_)
      have hD : va_D (Az sz) (fw n ad mem21) := fw_D hD
      obtain ⟨hqe, hg22⟩ := hq
      rw [hqe] at hP hD
      exact absurd rfl hg22
    · refine lv_iconst (v := 1) Bx.1 Bx.2.1 d_Rd_readNumber_28 (by decide) ?_
      refine lv_goto Bx.1 Bx.2.1 d_Rd_readNumber_29 rfl ?_
      refine lv_aload_n Bx.1 Bx.2.1 d_Rd_readNumber_33 rfl (lv_at hl 2 rfl) ?_
      refine f_get Bx hP (by omega) h9_2 rfl inRd 2 (by decide) kw_146 rfl rfl d_Rd_readNumber_34 ?_
      refine f_xVv (na := 2) (As := [.int (1), .int (nI a)]) (rest := []) Bx hml E hP hD hS (by omega) h9_2 rfl (m_Rd_needReadableX l hlt hn hT hf hRX (by omega)) kw_360 kw_362 sel_Rd_needReadable kw_6 kw_363 (by decide +kernel) ⟨rfl, rfl⟩ ⟨Nat.le_of_ble_eq_true rfl, Nat.le_of_ble_eq_true rfl⟩ rfl hl.1 (Nat.le_of_ble_eq_true rfl) d_Rd_readNumber_37 ⟨Nat.le_of_ble_eq_true rfl, Nat.le_of_ble_eq_true rfl⟩ (fun X ce q9 memx H locs hx9 hP hS g1 g2 g3 => f_out hlocks hno hP hS g1 g2 g3 ⟨Nat.le_of_ble_eq_true rfl, Nat.le_of_ble_eq_true rfl⟩ ⟨hx9.1, absurd hx9.2 (by decide)⟩) (fun mem24 H locs hq hP hS => ?_)
      have hD : va_D (Az sz) (fw n ad mem24) := fw_D hD
      obtain ⟨hqe, hg25⟩ := hq
      rw [hqe] at hP hD
      refine lv_iconst (v := 0) Bx.1 Bx.2.1 d_Rd_readNumber_40 (by decide) ?_
      refine lv_istore (lv' := [(5, .int (0)), (4, .int (0)), (3, .int (2)), (0, .ref (ad 222)), (1, .int (st)), (2, .int (ba))]) Bx.1 Bx.2.1 d_Rd_readNumber_41 hl (by decide) rfl (fun ls hl => ?_)
      have hmm : (if ba = 10 then 3 else 2) = 2 := if_neg hb12
      have loop26 : ∀ (d27 : Nat) (mem9 : Nat → va_E) (a1 : Nat) (k : Nat) (v : Int32) (ls : Array Slot) (H : Heap) (locs : List Loc), ((if ba = 10 then 3 else 2) - k < d27) → (RX cy ad lim a1 R Ec to nm m0 mem9) → (a1 = a + k ∧ a1 ≤ Z ∧ k ≤ (if ba = 10 then 3 else 2)) → ((numN T Z ba ((if ba = 10 then 3 else 2) - k) a1 v).1 = (numN T Z ba (if ba = 10 then 3 else 2) a 0).1 ∧ (numN T Z ba ((if ba = 10 then 3 else 2) - k) a1 v).2 + k = (numN T Z ba (if ba = 10 then 3 else 2) a 0).2) → (∀ i, i ≠ 222 → mem9 i = mem i) → (va_P D vcl (fw n ad mem9) H) → (va_D (Az sz) (fw n ad mem9)) → (va_S (Az sz) s.heap H locs) → (lv_has ls 6 [(5, .int (nI k)), (4, .int (v)), (3, .int (2)), (0, .ref (ad 222)), (1, .int (st)), (2, .int (ba))]) → W p l e (headSpec (Cond.code y_Rd_readNumber c_Rd_readNumber 6 (some .int) :: tg) ({ frames := 8, cells := 1, slots := 6, locals := 160 } : Room)).room s m [.ref (ad 222), .int (st), .int (ba)].toArray below meth c H locs 0 0 (vx_MQ below (QX (va_Qi (fun r mem' => ∃ a', numS T Z a ba = some (r, a') ∧ a < a' ∧ a' ≤ Z ∧ RX cy ad lim a' R Ec to nm m0 mem' ∧ ∀ i, i ≠ 222 → mem' i = mem i) (PP D n ad) (Az sz))) (XQ D sz n ad (fun X mem' => ((X = cIA ∨ X = cIS) ∧ ∃ rc' ec' : Nat, RS cy ad lim rc' ec' m0 mem') ∧ (numS T Z a ba = none))) [.ref (ad 222), .int (st), .int (ba)].toArray s 1 6 (Az sz)) (F0 m 43 ls []) := by
        intro d27
        induction d27 with
        | zero => intro mem9 a1 k v ls H locs hmeas33; exact absurd hmeas33 (Nat.not_lt_zero _)
        | succ d27 ih32 =>
          intro mem9 a1 k v ls H locs hmeas33 hz28 hz29 hz30 hz31 hP hD hS hl
          obtain ⟨ft34, h9_35⟩ := hz28.2.1
          have h1_36 : mem9 1 = .inr (0, [.ref (ad 2), .int (nI Z)]) := (hz28.1.2.2 1 (by omega)).trans hT.1
          have h2_37 : mem9 2 = .inl (cy 0, 240, .inl f) := (hz28.1.2.2 2 (by omega)).trans hT.2.2
          have h5_38 := hz28.1.1.2.1
          have hbd44 := hz28.1.1.1
          obtain ⟨S39, g40, hS_41, h220_42, h221_43⟩ := hz28.1.1.2.2.2.2.2.2
          have hbd8 := hz29
          refine lv_iload Bx.1 Bx.2.1 d_Rd_readNumber_43 (lv_at hl 0 rfl) ?_
          refine lv_iload_n Bx.1 Bx.2.1 d_Rd_readNumber_45 rfl (lv_at hl 2 rfl) ?_
          refine lv_icmp_ge Bx.1 Bx.2.1 d_Rd_readNumber_46 rfl (fun hb45 => ?_) (fun hb45 => ?_)
          · have hN46 : 2 ≤ k := (nI_leI (by omega) (by omega)).mp (show nI (2) ≤ nI (k) from hb45)
            have hnn : (numN T Z ba (if ba = 10 then 3 else 2) a 0).1 = v ∧ (numN T Z ba (if ba = 10 then 3 else 2) a 0).2 = k := by
              have h9 := hz30
              rw [show (if ba = 10 then 3 else 2) - k = 0 by omega] at h9
              exact ⟨h9.1.symm, by have := h9.2; simp only [numN] at this; omega⟩
            have hk1 : 1 ≤ k := by first | omega | exact Nat.pos_of_ne_zero (fun q9 => by subst q9; obtain rfl : a1 = a := (by omega); exact trivial)
            refine lv_aload_n Bx.1 Bx.2.1 d_Rd_readNumber_92 rfl (lv_at hl 3 rfl) ?_
            refine lv_iload Bx.1 Bx.2.1 d_Rd_readNumber_93 (lv_at hl 1 rfl) ?_
            refine lv_bipush (v := 127) Bx.1 Bx.2.1 d_Rd_readNumber_95 (by decide) ?_
            refine lv_icmp_gt Bx.1 Bx.2.1 d_Rd_readNumber_97 rfl (fun hb47 => ?_) (fun hb47 => ?_)
            · refine lv_iconst (v := 0) Bx.1 Bx.2.1 d_Rd_readNumber_104 (by decide) ?_
              refine lv_iload_n Bx.1 Bx.2.1 d_Rd_readNumber_105 rfl (lv_at hl 4 rfl) ?_
              refine f_xVv (na := 2) (As := [.int (0), .int (st)]) (rest := []) Bx hml E hP hD hS (by omega) h9_35 rfl (m_Rd_needReadableX l hlt hn hT hf hz28 (by omega)) kw_360 kw_362 sel_Rd_needReadable kw_6 kw_363 (by decide +kernel) ⟨rfl, rfl⟩ ⟨Nat.le_of_ble_eq_true rfl, Nat.le_of_ble_eq_true rfl⟩ rfl hl.1 (Nat.le_of_ble_eq_true rfl) d_Rd_readNumber_106 ⟨Nat.le_of_ble_eq_true rfl, Nat.le_of_ble_eq_true rfl⟩ (fun X ce q9 memx H locs hx9 hP hS g1 g2 g3 => f_out hlocks hno hP hS g1 g2 g3 ⟨Nat.le_of_ble_eq_true rfl, Nat.le_of_ble_eq_true rfl⟩ ⟨hx9.1, (by unfold numS; simp only []; rw [hnn.1, hnn.2, if_pos (Or.inr hb47)])⟩) (fun mem49 H locs hq hP hS => ?_)
              have hD : va_D (Az sz) (fw n ad mem49) := fw_D hD
              obtain ⟨hqe, hg50⟩ := hq
              rw [hqe] at hP hD
              exact absurd rfl hg50
            · refine lv_iconst (v := 1) Bx.1 Bx.2.1 d_Rd_readNumber_100 (by decide) ?_
              refine lv_goto Bx.1 Bx.2.1 d_Rd_readNumber_101 rfl ?_
              refine lv_iload_n Bx.1 Bx.2.1 d_Rd_readNumber_105 rfl (lv_at hl 4 rfl) ?_
              refine f_xVv (na := 2) (As := [.int (1), .int (st)]) (rest := []) Bx hml E hP hD hS (by omega) h9_35 rfl (m_Rd_needReadableX l hlt hn hT hf hz28 (by omega)) kw_360 kw_362 sel_Rd_needReadable kw_6 kw_363 (by decide +kernel) ⟨rfl, rfl⟩ ⟨Nat.le_of_ble_eq_true rfl, Nat.le_of_ble_eq_true rfl⟩ rfl hl.1 (Nat.le_of_ble_eq_true rfl) d_Rd_readNumber_106 ⟨Nat.le_of_ble_eq_true rfl, Nat.le_of_ble_eq_true rfl⟩ (fun X ce q9 memx H locs hx9 hP hS g1 g2 g3 => f_out hlocks hno hP hS g1 g2 g3 ⟨Nat.le_of_ble_eq_true rfl, Nat.le_of_ble_eq_true rfl⟩ ⟨hx9.1, absurd hx9.2 (by decide)⟩) (fun mem52 H locs hq hP hS => ?_)
              have hD : va_D (Az sz) (fw n ad mem52) := fw_D hD
              obtain ⟨hqe, hg53⟩ := hq
              rw [hqe] at hP hD
              refine lv_iload Bx.1 Bx.2.1 d_Rd_readNumber_109 (lv_at hl 1 rfl) ?_
              exact x_iret hx hb hlocks hr (⟨a1, by unfold numS; simp only []; rw [hnn.1, hnn.2, if_neg (fun z => z.elim (fun y => by omega) (fun y => hb47 y)), show a + k = a1 by omega], by omega, by omega, hz28, hz31⟩) hP hS d_Rd_readNumber_111
          · have hN54 : ¬ 2 ≤ k := fun q9 => hb45 (show nI (2) ≤ nI (k) from (nI_leI (by omega) (by omega)).mpr q9)
            refine lv_aload_n Bx.1 Bx.2.1 d_Rd_readNumber_49 rfl (lv_at hl 3 rfl) ?_
            refine f_callVi (na := 0) (As := []) (rest := []) Bx hml E hP hD hS (by omega) h9_35 rfl (m_Rd_peekX l hn hT hf hz28 (by omega)) kw_353 kw_355 sel_Rd_peek kw_6 kw_356 (by decide +kernel) ⟨rfl, rfl⟩ ⟨Nat.le_of_ble_eq_true rfl, Nat.le_of_ble_eq_true rfl⟩ rfl hl.1 (Nat.le_of_ble_eq_true rfl) d_Rd_readNumber_50 ⟨Nat.le_of_ble_eq_true rfl, Nat.le_of_ble_eq_true rfl⟩ (fun r56 mem57 H locs hq hP hS => ?_)
            have hD : va_D (Az sz) (fw n ad mem57) := fw_D hD
            obtain ⟨hqe, hpk55⟩ := hq
            rw [hqe] at hP hD
            subst hpk55
            refine lv_iload_n Bx.1 Bx.2.1 d_Rd_readNumber_53 rfl (lv_at hl 5 rfl) ?_
            refine f_callSi (na := 2) (As := [.int (hereF Z T (a1)), .int (ba)]) (rest := []) Bx hml E.2.1 (m_Rd_digitOfX l (hereF Z T (a1)) (ba)) kw_475 kw_476 kw_6 kw_477 (by decide +kernel) ⟨rfl, rfl⟩ ⟨Nat.le_of_ble_eq_true rfl, Nat.le_of_ble_eq_true rfl⟩ rfl hl.1 (Nat.le_of_ble_eq_true rfl) d_Rd_readNumber_54 ⟨Nat.le_of_ble_eq_true rfl, Nat.le_of_ble_eq_true rfl⟩ (fun r60 hs59 => ?_)
            subst hs59
            refine lv_iconst (v := -1) Bx.1 Bx.2.1 d_Rd_readNumber_57 (by decide) ?_
            refine lv_icmp_eq Bx.1 Bx.2.1 d_Rd_readNumber_58 rfl (fun hb61 => ?_) (fun hb61 => ?_)
            · have hnn : (numN T Z ba (if ba = 10 then 3 else 2) a 0).1 = v ∧ (numN T Z ba (if ba = 10 then 3 else 2) a 0).2 = k := by
                obtain ⟨r6, hr6⟩ : ∃ r6, (if ba = 10 then 3 else 2) - k = r6 + 1 := ⟨(if ba = 10 then 3 else 2) - k - 1, by omega⟩
                have h9 := hz30
                rw [hr6, numN, if_pos (figF_m.mpr hb61)] at h9
                exact ⟨h9.1.symm, by have := h9.2; simp only [] at this; omega⟩
              have hk1 : 1 ≤ k := by first | omega | exact Nat.pos_of_ne_zero (fun q9 => by subst q9; obtain rfl : a1 = a := (by omega); exact hb19 hb61)
              refine lv_aload_n Bx.1 Bx.2.1 d_Rd_readNumber_92 rfl (lv_at hl 3 rfl) ?_
              refine lv_iload Bx.1 Bx.2.1 d_Rd_readNumber_93 (lv_at hl 1 rfl) ?_
              refine lv_bipush (v := 127) Bx.1 Bx.2.1 d_Rd_readNumber_95 (by decide) ?_
              refine lv_icmp_gt Bx.1 Bx.2.1 d_Rd_readNumber_97 rfl (fun hb62 => ?_) (fun hb62 => ?_)
              · refine lv_iconst (v := 0) Bx.1 Bx.2.1 d_Rd_readNumber_104 (by decide) ?_
                refine lv_iload_n Bx.1 Bx.2.1 d_Rd_readNumber_105 rfl (lv_at hl 4 rfl) ?_
                refine f_xVv (na := 2) (As := [.int (0), .int (st)]) (rest := []) Bx hml E hP hD hS (by omega) h9_35 rfl (m_Rd_needReadableX l hlt hn hT hf hz28 (by omega)) kw_360 kw_362 sel_Rd_needReadable kw_6 kw_363 (by decide +kernel) ⟨rfl, rfl⟩ ⟨Nat.le_of_ble_eq_true rfl, Nat.le_of_ble_eq_true rfl⟩ rfl hl.1 (Nat.le_of_ble_eq_true rfl) d_Rd_readNumber_106 ⟨Nat.le_of_ble_eq_true rfl, Nat.le_of_ble_eq_true rfl⟩ (fun X ce q9 memx H locs hx9 hP hS g1 g2 g3 => f_out hlocks hno hP hS g1 g2 g3 ⟨Nat.le_of_ble_eq_true rfl, Nat.le_of_ble_eq_true rfl⟩ ⟨hx9.1, (by unfold numS; simp only []; rw [hnn.1, hnn.2, if_pos (Or.inr hb62)])⟩) (fun mem64 H locs hq hP hS => ?_)
                have hD : va_D (Az sz) (fw n ad mem64) := fw_D hD
                obtain ⟨hqe, hg65⟩ := hq
                rw [hqe] at hP hD
                exact absurd rfl hg65
              · refine lv_iconst (v := 1) Bx.1 Bx.2.1 d_Rd_readNumber_100 (by decide) ?_
                refine lv_goto Bx.1 Bx.2.1 d_Rd_readNumber_101 rfl ?_
                refine lv_iload_n Bx.1 Bx.2.1 d_Rd_readNumber_105 rfl (lv_at hl 4 rfl) ?_
                refine f_xVv (na := 2) (As := [.int (1), .int (st)]) (rest := []) Bx hml E hP hD hS (by omega) h9_35 rfl (m_Rd_needReadableX l hlt hn hT hf hz28 (by omega)) kw_360 kw_362 sel_Rd_needReadable kw_6 kw_363 (by decide +kernel) ⟨rfl, rfl⟩ ⟨Nat.le_of_ble_eq_true rfl, Nat.le_of_ble_eq_true rfl⟩ rfl hl.1 (Nat.le_of_ble_eq_true rfl) d_Rd_readNumber_106 ⟨Nat.le_of_ble_eq_true rfl, Nat.le_of_ble_eq_true rfl⟩ (fun X ce q9 memx H locs hx9 hP hS g1 g2 g3 => f_out hlocks hno hP hS g1 g2 g3 ⟨Nat.le_of_ble_eq_true rfl, Nat.le_of_ble_eq_true rfl⟩ ⟨hx9.1, absurd hx9.2 (by decide)⟩) (fun mem67 H locs hq hP hS => ?_)
                have hD : va_D (Az sz) (fw n ad mem67) := fw_D hD
                obtain ⟨hqe, hg68⟩ := hq
                rw [hqe] at hP hD
                refine lv_iload Bx.1 Bx.2.1 d_Rd_readNumber_109 (lv_at hl 1 rfl) ?_
                exact x_iret hx hb hlocks hr (⟨a1, by unfold numS; simp only []; rw [hnn.1, hnn.2, if_neg (fun z => z.elim (fun y => by omega) (fun y => hb62 y)), show a + k = a1 by omega], by omega, by omega, hz28, hz31⟩) hP hS d_Rd_readNumber_111
            · have hlt9 : a1 < Z := hereF_lt (figF_ne (fun z => hb61 (figF_m.mp z)))
              refine lv_iload Bx.1 Bx.2.1 d_Rd_readNumber_61 (lv_at hl 1 rfl) ?_
              refine lv_iload_n Bx.1 Bx.2.1 d_Rd_readNumber_63 rfl (lv_at hl 5 rfl) ?_
              refine lv_imul Bx.1 Bx.2.1 d_Rd_readNumber_64 ?_
              refine lv_aload_n Bx.1 Bx.2.1 d_Rd_readNumber_65 rfl (lv_at hl 3 rfl) ?_
              refine f_callVi (na := 0) (As := []) (rest := [.int (v * ba)]) Bx hml E hP hD hS (by omega) h9_35 rfl (m_Rd_peekX l hn hT hf hz28 (by omega)) kw_353 kw_355 sel_Rd_peek kw_6 kw_356 (by decide +kernel) ⟨rfl, rfl⟩ ⟨Nat.le_of_ble_eq_true rfl, Nat.le_of_ble_eq_true rfl⟩ rfl hl.1 (Nat.le_of_ble_eq_true rfl) d_Rd_readNumber_66 ⟨Nat.le_of_ble_eq_true rfl, Nat.le_of_ble_eq_true rfl⟩ (fun r70 mem71 H locs hq hP hS => ?_)
              have hD : va_D (Az sz) (fw n ad mem71) := fw_D hD
              obtain ⟨hqe, hpk69⟩ := hq
              rw [hqe] at hP hD
              subst hpk69
              refine lv_iload_n Bx.1 Bx.2.1 d_Rd_readNumber_69 rfl (lv_at hl 5 rfl) ?_
              refine f_callSi (na := 2) (As := [.int (hereF Z T (a1)), .int (ba)]) (rest := [.int (v * ba)]) Bx hml E.2.1 (m_Rd_digitOfX l (hereF Z T (a1)) (ba)) kw_475 kw_476 kw_6 kw_477 (by decide +kernel) ⟨rfl, rfl⟩ ⟨Nat.le_of_ble_eq_true rfl, Nat.le_of_ble_eq_true rfl⟩ rfl hl.1 (Nat.le_of_ble_eq_true rfl) d_Rd_readNumber_70 ⟨Nat.le_of_ble_eq_true rfl, Nat.le_of_ble_eq_true rfl⟩ (fun r74 hs73 => ?_)
              subst hs73
              refine lv_iadd Bx.1 Bx.2.1 d_Rd_readNumber_73 ?_
              refine lv_istore (lv' := [(4, .int (v * ba + figF (hereF Z T (a1)) (ba))), (5, .int (nI k)), (3, .int (2)), (0, .ref (ad 222)), (1, .int (st)), (2, .int (ba))]) Bx.1 Bx.2.1 d_Rd_readNumber_74 hl (by decide) rfl (fun ls hl => ?_)
              refine lv_aload_n Bx.1 Bx.2.1 d_Rd_readNumber_76 rfl (lv_at hl 3 rfl) ?_
              refine lv_dup Bx.1 Bx.2.1 d_Rd_readNumber_77 rfl ?_
              refine f_get Bx hP (by omega) h9_35 rfl inRd 2 (by decide) kw_146 rfl rfl d_Rd_readNumber_78 ?_
              refine lv_iconst (v := 1) Bx.1 Bx.2.1 d_Rd_readNumber_81 (by decide) ?_
              refine lv_iadd Bx.1 Bx.2.1 d_Rd_readNumber_82 ?_
              rw [show nI a1 + 1 = nI (a1 + 1) from nI_add (a1) (1)]
              refine f_put Bx hP hD hS (by omega) h9_35 rfl inRd tyRd okRd nmRd 2 (by decide) kw_146 rfl rfl rfl rfl (Nat.le_of_ble_eq_true rfl) d_Rd_readNumber_83 (fun H locs hP hS => ?_)
              obtain ⟨mem75, e_mem75⟩ : ∃ z, z = va_up mem9 (222) (.inr (4, [.ref (ad 1), .ref (ad 5), .int (nI (a1 + 1)), .int (ft34)])) := ⟨_, rfl⟩
              have hP : va_P D vcl (fw n ad mem75) H := by rw [e_mem75]; exact hP
              have hD : va_D (Az sz) (fw n ad mem75) := fw_D hD
              have h_mem75 : mem75 (222) = .inr (4, [.ref (ad 1), .ref (ad 5), .int (nI (a1 + 1)), .int (ft34)]) := by rw [e_mem75, va_up_self]
              have hh76 := (va_up_ne mem9 (.inr (4, [.ref (ad 1), .ref (ad 5), .int (nI (a1 + 1)), .int (ft34)])) (show (1 : Nat) ≠ 222 by first | decide | assumption | omega)).trans h1_36
              rw [← e_mem75] at hh76
              have hh77 := (va_up_ne mem9 (.inr (4, [.ref (ad 1), .ref (ad 5), .int (nI (a1 + 1)), .int (ft34)])) (show (5 : Nat) ≠ 222 by first | decide | assumption | omega)).trans h5_38
              rw [← e_mem75] at hh77
              have hh78 := (va_up_ne mem9 (.inr (4, [.ref (ad 1), .ref (ad 5), .int (nI (a1 + 1)), .int (ft34)])) (show (220 : Nat) ≠ 222 by first | decide | assumption | omega)).trans h220_42
              rw [← e_mem75] at hh78
              have hRX79 : RX cy ad lim (a1 + 1) (R) (Ec) (to) (nm) m0 mem75 := by rw [e_mem75]; exact hz28.at
              refine lv_iinc (lv' := [(5, .int ((nI k + (1)))), (4, .int (v * ba + figF (hereF Z T (a1)) (ba))), (3, .int (2)), (0, .ref (ad 222)), (1, .int (st)), (2, .int (ba))]) Bx.1 Bx.2.1 d_Rd_readNumber_86 hl (k := 1) rfl rfl (by decide) rfl (fun ls hl => ?_)
              rw [show (nI k + (1) : Int32) = nI (k + 1) from nI_1 (k)] at hl
              refine lv_goto Bx.1 Bx.2.1 d_Rd_readNumber_89 rfl ?_
              have hnx : (numN T Z ba ((if ba = 10 then 3 else 2) - (k + 1)) (a1 + 1) (v * ba + figF (hereF Z T (a1)) (ba))).1 = (numN T Z ba (if ba = 10 then 3 else 2) a 0).1 ∧ (numN T Z ba ((if ba = 10 then 3 else 2) - (k + 1)) (a1 + 1) (v * ba + figF (hereF Z T (a1)) (ba))).2 + (k + 1) = (numN T Z ba (if ba = 10 then 3 else 2) a 0).2 := by
                obtain ⟨r6, hr6⟩ : ∃ r6, (if ba = 10 then 3 else 2) - k = r6 + 1 := ⟨(if ba = 10 then 3 else 2) - k - 1, by omega⟩
                have h9 := hz30
                rw [hr6, numN, if_neg (fun z => hb61 (figF_m.mp z)), Int32.mul_comm ba v] at h9
                rw [show (if ba = 10 then 3 else 2) - (k + 1) = r6 by omega]
                exact ⟨h9.1, by have := h9.2; simp only [] at this; omega⟩
              exact ih32 mem75 (a1 + 1) (k + 1) (v * ba + figF (hereF Z T (a1)) (ba)) _ _ _ (by have := hmeas33; omega) (hRX79) (⟨by omega, by omega, by omega⟩) (hnx) (fun i q9 => by rw [e_mem75, va_up_ne _ _ q9]; exact hz31 i q9) hP hD hS (lv_sub hl [0, 1, 2, 3, 4, 5] rfl)
      exact loop26 _ mem (a) (0) (0) _ _ _ (Nat.lt_succ_self _) (hRX) (⟨by omega, by omega, by omega⟩) (⟨rfl, rfl⟩) (fun _ _ => rfl) hP hD hS (lv_sub hl [0, 1, 2, 3, 4, 5] rfl)
  · refine lv_iconst (v := 3) Bx.1 Bx.2.1 d_Rd_readNumber_6 (by decide) ?_
    refine lv_goto Bx.1 Bx.2.1 d_Rd_readNumber_7 rfl ?_
    refine lv_istore_n (lv' := [(3, .int (3)), (0, .ref (ad 222)), (1, .int (st)), (2, .int (ba))]) Bx.1 Bx.2.1 d_Rd_readNumber_11 rfl hl (by decide) rfl (fun ls hl => ?_)
    refine lv_iconst (v := 0) Bx.1 Bx.2.1 d_Rd_readNumber_12 (by decide) ?_
    refine lv_istore (lv' := [(4, .int (0)), (3, .int (3)), (0, .ref (ad 222)), (1, .int (st)), (2, .int (ba))]) Bx.1 Bx.2.1 d_Rd_readNumber_13 hl (by decide) rfl (fun ls hl => ?_)
    refine lv_aload_n Bx.1 Bx.2.1 d_Rd_readNumber_15 rfl (lv_at hl 2 rfl) ?_
    refine lv_aload_n Bx.1 Bx.2.1 d_Rd_readNumber_16 rfl (lv_at hl 2 rfl) ?_
    refine f_callVi (na := 0) (As := []) (rest := [.ref (ad 222)]) Bx hml E hP hD hS (by omega) h9_2 rfl (m_Rd_peekX l hn hT hf hRX (by omega)) kw_353 kw_355 sel_Rd_peek kw_6 kw_356 (by decide +kernel) ⟨rfl, rfl⟩ ⟨Nat.le_of_ble_eq_true rfl, Nat.le_of_ble_eq_true rfl⟩ rfl hl.1 (Nat.le_of_ble_eq_true rfl) d_Rd_readNumber_17 ⟨Nat.le_of_ble_eq_true rfl, Nat.le_of_ble_eq_true rfl⟩ (fun r81 mem82 H locs hq hP hS => ?_)
    have hD : va_D (Az sz) (fw n ad mem82) := fw_D hD
    obtain ⟨hqe, hpk80⟩ := hq
    rw [hqe] at hP hD
    subst hpk80
    refine lv_iload_n Bx.1 Bx.2.1 d_Rd_readNumber_20 rfl (lv_at hl 4 rfl) ?_
    refine f_callSi (na := 2) (As := [.int (hereF Z T (a)), .int (ba)]) (rest := [.ref (ad 222)]) Bx hml E.2.1 (m_Rd_digitOfX l (hereF Z T (a)) (ba)) kw_475 kw_476 kw_6 kw_477 (by decide +kernel) ⟨rfl, rfl⟩ ⟨Nat.le_of_ble_eq_true rfl, Nat.le_of_ble_eq_true rfl⟩ rfl hl.1 (Nat.le_of_ble_eq_true rfl) d_Rd_readNumber_21 ⟨Nat.le_of_ble_eq_true rfl, Nat.le_of_ble_eq_true rfl⟩ (fun r85 hs84 => ?_)
    subst hs84
    refine lv_iconst (v := -1) Bx.1 Bx.2.1 d_Rd_readNumber_24 (by decide) ?_
    refine lv_icmp_eq Bx.1 Bx.2.1 d_Rd_readNumber_25 rfl (fun hb86 => ?_) (fun hb86 => ?_)
    · refine lv_iconst (v := 0) Bx.1 Bx.2.1 d_Rd_readNumber_32 (by decide) ?_
      refine lv_aload_n Bx.1 Bx.2.1 d_Rd_readNumber_33 rfl (lv_at hl 2 rfl) ?_
      refine f_get Bx hP (by omega) h9_2 rfl inRd 2 (by decide) kw_146 rfl rfl d_Rd_readNumber_34 ?_
      refine f_xVv (na := 2) (As := [.int (0), .int (nI a)]) (rest := []) Bx hml E hP hD hS (by omega) h9_2 rfl (m_Rd_needReadableX l hlt hn hT hf hRX (by omega)) kw_360 kw_362 sel_Rd_needReadable kw_6 kw_363 (by decide +kernel) ⟨rfl, rfl⟩ ⟨Nat.le_of_ble_eq_true rfl, Nat.le_of_ble_eq_true rfl⟩ rfl hl.1 (Nat.le_of_ble_eq_true rfl) d_Rd_readNumber_37 ⟨Nat.le_of_ble_eq_true rfl, Nat.le_of_ble_eq_true rfl⟩ (fun X ce q9 memx H locs hx9 hP hS g1 g2 g3 => f_out hlocks hno hP hS g1 g2 g3 ⟨Nat.le_of_ble_eq_true rfl, Nat.le_of_ble_eq_true rfl⟩ ⟨hx9.1, (by unfold numS; simp only []; rw [show numN T Z ba (if ba = 10 then 3 else 2) a 0 = (0, 0) by (first | rw [if_pos hb12] | rw [if_neg hb12]); rw [numN, if_pos (figF_m.mpr hb86)], if_pos (Or.inl rfl)])⟩) (fun mem88 H locs hq hP hS => ?_)
      have hD : va_D (Az sz) (fw n ad mem88) := fw_D hD
      obtain ⟨hqe, hg89⟩ := hq
      rw [hqe] at hP hD
      exact absurd rfl hg89
    · refine lv_iconst (v := 1) Bx.1 Bx.2.1 d_Rd_readNumber_28 (by decide) ?_
      refine lv_goto Bx.1 Bx.2.1 d_Rd_readNumber_29 rfl ?_
      refine lv_aload_n Bx.1 Bx.2.1 d_Rd_readNumber_33 rfl (lv_at hl 2 rfl) ?_
      refine f_get Bx hP (by omega) h9_2 rfl inRd 2 (by decide) kw_146 rfl rfl d_Rd_readNumber_34 ?_
      refine f_xVv (na := 2) (As := [.int (1), .int (nI a)]) (rest := []) Bx hml E hP hD hS (by omega) h9_2 rfl (m_Rd_needReadableX l hlt hn hT hf hRX (by omega)) kw_360 kw_362 sel_Rd_needReadable kw_6 kw_363 (by decide +kernel) ⟨rfl, rfl⟩ ⟨Nat.le_of_ble_eq_true rfl, Nat.le_of_ble_eq_true rfl⟩ rfl hl.1 (Nat.le_of_ble_eq_true rfl) d_Rd_readNumber_37 ⟨Nat.le_of_ble_eq_true rfl, Nat.le_of_ble_eq_true rfl⟩ (fun X ce q9 memx H locs hx9 hP hS g1 g2 g3 => f_out hlocks hno hP hS g1 g2 g3 ⟨Nat.le_of_ble_eq_true rfl, Nat.le_of_ble_eq_true rfl⟩ ⟨hx9.1, absurd hx9.2 (by decide)⟩) (fun mem91 H locs hq hP hS => ?_)
      have hD : va_D (Az sz) (fw n ad mem91) := fw_D hD
      obtain ⟨hqe, hg92⟩ := hq
      rw [hqe] at hP hD
      refine lv_iconst (v := 0) Bx.1 Bx.2.1 d_Rd_readNumber_40 (by decide) ?_
      refine lv_istore (lv' := [(5, .int (0)), (4, .int (0)), (3, .int (3)), (0, .ref (ad 222)), (1, .int (st)), (2, .int (ba))]) Bx.1 Bx.2.1 d_Rd_readNumber_41 hl (by decide) rfl (fun ls hl => ?_)
      have hmm : (if ba = 10 then 3 else 2) = 3 := if_pos hb12
      have loop93 : ∀ (d94 : Nat) (mem9 : Nat → va_E) (a1 : Nat) (k : Nat) (v : Int32) (ls : Array Slot) (H : Heap) (locs : List Loc), ((if ba = 10 then 3 else 2) - k < d94) → (RX cy ad lim a1 R Ec to nm m0 mem9) → (a1 = a + k ∧ a1 ≤ Z ∧ k ≤ (if ba = 10 then 3 else 2)) → ((numN T Z ba ((if ba = 10 then 3 else 2) - k) a1 v).1 = (numN T Z ba (if ba = 10 then 3 else 2) a 0).1 ∧ (numN T Z ba ((if ba = 10 then 3 else 2) - k) a1 v).2 + k = (numN T Z ba (if ba = 10 then 3 else 2) a 0).2) → (∀ i, i ≠ 222 → mem9 i = mem i) → (va_P D vcl (fw n ad mem9) H) → (va_D (Az sz) (fw n ad mem9)) → (va_S (Az sz) s.heap H locs) → (lv_has ls 6 [(5, .int (nI k)), (4, .int (v)), (3, .int (3)), (0, .ref (ad 222)), (1, .int (st)), (2, .int (ba))]) → W p l e (headSpec (Cond.code y_Rd_readNumber c_Rd_readNumber 6 (some .int) :: tg) ({ frames := 8, cells := 1, slots := 6, locals := 160 } : Room)).room s m [.ref (ad 222), .int (st), .int (ba)].toArray below meth c H locs 0 0 (vx_MQ below (QX (va_Qi (fun r mem' => ∃ a', numS T Z a ba = some (r, a') ∧ a < a' ∧ a' ≤ Z ∧ RX cy ad lim a' R Ec to nm m0 mem' ∧ ∀ i, i ≠ 222 → mem' i = mem i) (PP D n ad) (Az sz))) (XQ D sz n ad (fun X mem' => ((X = cIA ∨ X = cIS) ∧ ∃ rc' ec' : Nat, RS cy ad lim rc' ec' m0 mem') ∧ (numS T Z a ba = none))) [.ref (ad 222), .int (st), .int (ba)].toArray s 1 6 (Az sz)) (F0 m 43 ls []) := by
        intro d94
        induction d94 with
        | zero => intro mem9 a1 k v ls H locs hmeas100; exact absurd hmeas100 (Nat.not_lt_zero _)
        | succ d94 ih99 =>
          intro mem9 a1 k v ls H locs hmeas100 hz95 hz96 hz97 hz98 hP hD hS hl
          obtain ⟨ft101, h9_102⟩ := hz95.2.1
          have h1_103 : mem9 1 = .inr (0, [.ref (ad 2), .int (nI Z)]) := (hz95.1.2.2 1 (by omega)).trans hT.1
          have h2_104 : mem9 2 = .inl (cy 0, 240, .inl f) := (hz95.1.2.2 2 (by omega)).trans hT.2.2
          have h5_105 := hz95.1.1.2.1
          have hbd111 := hz95.1.1.1
          obtain ⟨S106, g107, hS_108, h220_109, h221_110⟩ := hz95.1.1.2.2.2.2.2.2
          have hbd8 := hz96
          refine lv_iload Bx.1 Bx.2.1 d_Rd_readNumber_43 (lv_at hl 0 rfl) ?_
          refine lv_iload_n Bx.1 Bx.2.1 d_Rd_readNumber_45 rfl (lv_at hl 2 rfl) ?_
          refine lv_icmp_ge Bx.1 Bx.2.1 d_Rd_readNumber_46 rfl (fun hb112 => ?_) (fun hb112 => ?_)
          · have hN113 : 3 ≤ k := (nI_leI (by omega) (by omega)).mp (show nI (3) ≤ nI (k) from hb112)
            have hnn : (numN T Z ba (if ba = 10 then 3 else 2) a 0).1 = v ∧ (numN T Z ba (if ba = 10 then 3 else 2) a 0).2 = k := by
              have h9 := hz97
              rw [show (if ba = 10 then 3 else 2) - k = 0 by omega] at h9
              exact ⟨h9.1.symm, by have := h9.2; simp only [numN] at this; omega⟩
            have hk1 : 1 ≤ k := by first | omega | exact Nat.pos_of_ne_zero (fun q9 => by subst q9; obtain rfl : a1 = a := (by omega); exact trivial)
            refine lv_aload_n Bx.1 Bx.2.1 d_Rd_readNumber_92 rfl (lv_at hl 3 rfl) ?_
            refine lv_iload Bx.1 Bx.2.1 d_Rd_readNumber_93 (lv_at hl 1 rfl) ?_
            refine lv_bipush (v := 127) Bx.1 Bx.2.1 d_Rd_readNumber_95 (by decide) ?_
            refine lv_icmp_gt Bx.1 Bx.2.1 d_Rd_readNumber_97 rfl (fun hb114 => ?_) (fun hb114 => ?_)
            · refine lv_iconst (v := 0) Bx.1 Bx.2.1 d_Rd_readNumber_104 (by decide) ?_
              refine lv_iload_n Bx.1 Bx.2.1 d_Rd_readNumber_105 rfl (lv_at hl 4 rfl) ?_
              refine f_xVv (na := 2) (As := [.int (0), .int (st)]) (rest := []) Bx hml E hP hD hS (by omega) h9_102 rfl (m_Rd_needReadableX l hlt hn hT hf hz95 (by omega)) kw_360 kw_362 sel_Rd_needReadable kw_6 kw_363 (by decide +kernel) ⟨rfl, rfl⟩ ⟨Nat.le_of_ble_eq_true rfl, Nat.le_of_ble_eq_true rfl⟩ rfl hl.1 (Nat.le_of_ble_eq_true rfl) d_Rd_readNumber_106 ⟨Nat.le_of_ble_eq_true rfl, Nat.le_of_ble_eq_true rfl⟩ (fun X ce q9 memx H locs hx9 hP hS g1 g2 g3 => f_out hlocks hno hP hS g1 g2 g3 ⟨Nat.le_of_ble_eq_true rfl, Nat.le_of_ble_eq_true rfl⟩ ⟨hx9.1, (by unfold numS; simp only []; rw [hnn.1, hnn.2, if_pos (Or.inr hb114)])⟩) (fun mem116 H locs hq hP hS => ?_)
              have hD : va_D (Az sz) (fw n ad mem116) := fw_D hD
              obtain ⟨hqe, hg117⟩ := hq
              rw [hqe] at hP hD
              exact absurd rfl hg117
            · refine lv_iconst (v := 1) Bx.1 Bx.2.1 d_Rd_readNumber_100 (by decide) ?_
              refine lv_goto Bx.1 Bx.2.1 d_Rd_readNumber_101 rfl ?_
              refine lv_iload_n Bx.1 Bx.2.1 d_Rd_readNumber_105 rfl (lv_at hl 4 rfl) ?_
              refine f_xVv (na := 2) (As := [.int (1), .int (st)]) (rest := []) Bx hml E hP hD hS (by omega) h9_102 rfl (m_Rd_needReadableX l hlt hn hT hf hz95 (by omega)) kw_360 kw_362 sel_Rd_needReadable kw_6 kw_363 (by decide +kernel) ⟨rfl, rfl⟩ ⟨Nat.le_of_ble_eq_true rfl, Nat.le_of_ble_eq_true rfl⟩ rfl hl.1 (Nat.le_of_ble_eq_true rfl) d_Rd_readNumber_106 ⟨Nat.le_of_ble_eq_true rfl, Nat.le_of_ble_eq_true rfl⟩ (fun X ce q9 memx H locs hx9 hP hS g1 g2 g3 => f_out hlocks hno hP hS g1 g2 g3 ⟨Nat.le_of_ble_eq_true rfl, Nat.le_of_ble_eq_true rfl⟩ ⟨hx9.1, absurd hx9.2 (by decide)⟩) (fun mem119 H locs hq hP hS => ?_)
              have hD : va_D (Az sz) (fw n ad mem119) := fw_D hD
              obtain ⟨hqe, hg120⟩ := hq
              rw [hqe] at hP hD
              refine lv_iload Bx.1 Bx.2.1 d_Rd_readNumber_109 (lv_at hl 1 rfl) ?_
              exact x_iret hx hb hlocks hr (⟨a1, by unfold numS; simp only []; rw [hnn.1, hnn.2, if_neg (fun z => z.elim (fun y => by omega) (fun y => hb114 y)), show a + k = a1 by omega], by omega, by omega, hz95, hz98⟩) hP hS d_Rd_readNumber_111
          · have hN121 : ¬ 3 ≤ k := fun q9 => hb112 (show nI (3) ≤ nI (k) from (nI_leI (by omega) (by omega)).mpr q9)
            refine lv_aload_n Bx.1 Bx.2.1 d_Rd_readNumber_49 rfl (lv_at hl 3 rfl) ?_
            refine f_callVi (na := 0) (As := []) (rest := []) Bx hml E hP hD hS (by omega) h9_102 rfl (m_Rd_peekX l hn hT hf hz95 (by omega)) kw_353 kw_355 sel_Rd_peek kw_6 kw_356 (by decide +kernel) ⟨rfl, rfl⟩ ⟨Nat.le_of_ble_eq_true rfl, Nat.le_of_ble_eq_true rfl⟩ rfl hl.1 (Nat.le_of_ble_eq_true rfl) d_Rd_readNumber_50 ⟨Nat.le_of_ble_eq_true rfl, Nat.le_of_ble_eq_true rfl⟩ (fun r123 mem124 H locs hq hP hS => ?_)
            have hD : va_D (Az sz) (fw n ad mem124) := fw_D hD
            obtain ⟨hqe, hpk122⟩ := hq
            rw [hqe] at hP hD
            subst hpk122
            refine lv_iload_n Bx.1 Bx.2.1 d_Rd_readNumber_53 rfl (lv_at hl 5 rfl) ?_
            refine f_callSi (na := 2) (As := [.int (hereF Z T (a1)), .int (ba)]) (rest := []) Bx hml E.2.1 (m_Rd_digitOfX l (hereF Z T (a1)) (ba)) kw_475 kw_476 kw_6 kw_477 (by decide +kernel) ⟨rfl, rfl⟩ ⟨Nat.le_of_ble_eq_true rfl, Nat.le_of_ble_eq_true rfl⟩ rfl hl.1 (Nat.le_of_ble_eq_true rfl) d_Rd_readNumber_54 ⟨Nat.le_of_ble_eq_true rfl, Nat.le_of_ble_eq_true rfl⟩ (fun r127 hs126 => ?_)
            subst hs126
            refine lv_iconst (v := -1) Bx.1 Bx.2.1 d_Rd_readNumber_57 (by decide) ?_
            refine lv_icmp_eq Bx.1 Bx.2.1 d_Rd_readNumber_58 rfl (fun hb128 => ?_) (fun hb128 => ?_)
            · have hnn : (numN T Z ba (if ba = 10 then 3 else 2) a 0).1 = v ∧ (numN T Z ba (if ba = 10 then 3 else 2) a 0).2 = k := by
                obtain ⟨r6, hr6⟩ : ∃ r6, (if ba = 10 then 3 else 2) - k = r6 + 1 := ⟨(if ba = 10 then 3 else 2) - k - 1, by omega⟩
                have h9 := hz97
                rw [hr6, numN, if_pos (figF_m.mpr hb128)] at h9
                exact ⟨h9.1.symm, by have := h9.2; simp only [] at this; omega⟩
              have hk1 : 1 ≤ k := by first | omega | exact Nat.pos_of_ne_zero (fun q9 => by subst q9; obtain rfl : a1 = a := (by omega); exact hb86 hb128)
              refine lv_aload_n Bx.1 Bx.2.1 d_Rd_readNumber_92 rfl (lv_at hl 3 rfl) ?_
              refine lv_iload Bx.1 Bx.2.1 d_Rd_readNumber_93 (lv_at hl 1 rfl) ?_
              refine lv_bipush (v := 127) Bx.1 Bx.2.1 d_Rd_readNumber_95 (by decide) ?_
              refine lv_icmp_gt Bx.1 Bx.2.1 d_Rd_readNumber_97 rfl (fun hb129 => ?_) (fun hb129 => ?_)
              · refine lv_iconst (v := 0) Bx.1 Bx.2.1 d_Rd_readNumber_104 (by decide) ?_
                refine lv_iload_n Bx.1 Bx.2.1 d_Rd_readNumber_105 rfl (lv_at hl 4 rfl) ?_
                refine f_xVv (na := 2) (As := [.int (0), .int (st)]) (rest := []) Bx hml E hP hD hS (by omega) h9_102 rfl (m_Rd_needReadableX l hlt hn hT hf hz95 (by omega)) kw_360 kw_362 sel_Rd_needReadable kw_6 kw_363 (by decide +kernel) ⟨rfl, rfl⟩ ⟨Nat.le_of_ble_eq_true rfl, Nat.le_of_ble_eq_true rfl⟩ rfl hl.1 (Nat.le_of_ble_eq_true rfl) d_Rd_readNumber_106 ⟨Nat.le_of_ble_eq_true rfl, Nat.le_of_ble_eq_true rfl⟩ (fun X ce q9 memx H locs hx9 hP hS g1 g2 g3 => f_out hlocks hno hP hS g1 g2 g3 ⟨Nat.le_of_ble_eq_true rfl, Nat.le_of_ble_eq_true rfl⟩ ⟨hx9.1, (by unfold numS; simp only []; rw [hnn.1, hnn.2, if_pos (Or.inr hb129)])⟩) (fun mem131 H locs hq hP hS => ?_)
                have hD : va_D (Az sz) (fw n ad mem131) := fw_D hD
                obtain ⟨hqe, hg132⟩ := hq
                rw [hqe] at hP hD
                exact absurd rfl hg132
              · refine lv_iconst (v := 1) Bx.1 Bx.2.1 d_Rd_readNumber_100 (by decide) ?_
                refine lv_goto Bx.1 Bx.2.1 d_Rd_readNumber_101 rfl ?_
                refine lv_iload_n Bx.1 Bx.2.1 d_Rd_readNumber_105 rfl (lv_at hl 4 rfl) ?_
                refine f_xVv (na := 2) (As := [.int (1), .int (st)]) (rest := []) Bx hml E hP hD hS (by omega) h9_102 rfl (m_Rd_needReadableX l hlt hn hT hf hz95 (by omega)) kw_360 kw_362 sel_Rd_needReadable kw_6 kw_363 (by decide +kernel) ⟨rfl, rfl⟩ ⟨Nat.le_of_ble_eq_true rfl, Nat.le_of_ble_eq_true rfl⟩ rfl hl.1 (Nat.le_of_ble_eq_true rfl) d_Rd_readNumber_106 ⟨Nat.le_of_ble_eq_true rfl, Nat.le_of_ble_eq_true rfl⟩ (fun X ce q9 memx H locs hx9 hP hS g1 g2 g3 => f_out hlocks hno hP hS g1 g2 g3 ⟨Nat.le_of_ble_eq_true rfl, Nat.le_of_ble_eq_true rfl⟩ ⟨hx9.1, absurd hx9.2 (by decide)⟩) (fun mem134 H locs hq hP hS => ?_)
                have hD : va_D (Az sz) (fw n ad mem134) := fw_D hD
                obtain ⟨hqe, hg135⟩ := hq
                rw [hqe] at hP hD
                refine lv_iload Bx.1 Bx.2.1 d_Rd_readNumber_109 (lv_at hl 1 rfl) ?_
                exact x_iret hx hb hlocks hr (⟨a1, by unfold numS; simp only []; rw [hnn.1, hnn.2, if_neg (fun z => z.elim (fun y => by omega) (fun y => hb129 y)), show a + k = a1 by omega], by omega, by omega, hz95, hz98⟩) hP hS d_Rd_readNumber_111
            · have hlt9 : a1 < Z := hereF_lt (figF_ne (fun z => hb128 (figF_m.mp z)))
              refine lv_iload Bx.1 Bx.2.1 d_Rd_readNumber_61 (lv_at hl 1 rfl) ?_
              refine lv_iload_n Bx.1 Bx.2.1 d_Rd_readNumber_63 rfl (lv_at hl 5 rfl) ?_
              refine lv_imul Bx.1 Bx.2.1 d_Rd_readNumber_64 ?_
              refine lv_aload_n Bx.1 Bx.2.1 d_Rd_readNumber_65 rfl (lv_at hl 3 rfl) ?_
              refine f_callVi (na := 0) (As := []) (rest := [.int (v * ba)]) Bx hml E hP hD hS (by omega) h9_102 rfl (m_Rd_peekX l hn hT hf hz95 (by omega)) kw_353 kw_355 sel_Rd_peek kw_6 kw_356 (by decide +kernel) ⟨rfl, rfl⟩ ⟨Nat.le_of_ble_eq_true rfl, Nat.le_of_ble_eq_true rfl⟩ rfl hl.1 (Nat.le_of_ble_eq_true rfl) d_Rd_readNumber_66 ⟨Nat.le_of_ble_eq_true rfl, Nat.le_of_ble_eq_true rfl⟩ (fun r137 mem138 H locs hq hP hS => ?_)
              have hD : va_D (Az sz) (fw n ad mem138) := fw_D hD
              obtain ⟨hqe, hpk136⟩ := hq
              rw [hqe] at hP hD
              subst hpk136
              refine lv_iload_n Bx.1 Bx.2.1 d_Rd_readNumber_69 rfl (lv_at hl 5 rfl) ?_
              refine f_callSi (na := 2) (As := [.int (hereF Z T (a1)), .int (ba)]) (rest := [.int (v * ba)]) Bx hml E.2.1 (m_Rd_digitOfX l (hereF Z T (a1)) (ba)) kw_475 kw_476 kw_6 kw_477 (by decide +kernel) ⟨rfl, rfl⟩ ⟨Nat.le_of_ble_eq_true rfl, Nat.le_of_ble_eq_true rfl⟩ rfl hl.1 (Nat.le_of_ble_eq_true rfl) d_Rd_readNumber_70 ⟨Nat.le_of_ble_eq_true rfl, Nat.le_of_ble_eq_true rfl⟩ (fun r141 hs140 => ?_)
              subst hs140
              refine lv_iadd Bx.1 Bx.2.1 d_Rd_readNumber_73 ?_
              refine lv_istore (lv' := [(4, .int (v * ba + figF (hereF Z T (a1)) (ba))), (5, .int (nI k)), (3, .int (3)), (0, .ref (ad 222)), (1, .int (st)), (2, .int (ba))]) Bx.1 Bx.2.1 d_Rd_readNumber_74 hl (by decide) rfl (fun ls hl => ?_)
              refine lv_aload_n Bx.1 Bx.2.1 d_Rd_readNumber_76 rfl (lv_at hl 3 rfl) ?_
              refine lv_dup Bx.1 Bx.2.1 d_Rd_readNumber_77 rfl ?_
              refine f_get Bx hP (by omega) h9_102 rfl inRd 2 (by decide) kw_146 rfl rfl d_Rd_readNumber_78 ?_
              refine lv_iconst (v := 1) Bx.1 Bx.2.1 d_Rd_readNumber_81 (by decide) ?_
              refine lv_iadd Bx.1 Bx.2.1 d_Rd_readNumber_82 ?_
              rw [show nI a1 + 1 = nI (a1 + 1) from nI_add (a1) (1)]
              refine f_put Bx hP hD hS (by omega) h9_102 rfl inRd tyRd okRd nmRd 2 (by decide) kw_146 rfl rfl rfl rfl (Nat.le_of_ble_eq_true rfl) d_Rd_readNumber_83 (fun H locs hP hS => ?_)
              obtain ⟨mem142, e_mem142⟩ : ∃ z, z = va_up mem9 (222) (.inr (4, [.ref (ad 1), .ref (ad 5), .int (nI (a1 + 1)), .int (ft101)])) := ⟨_, rfl⟩
              have hP : va_P D vcl (fw n ad mem142) H := by rw [e_mem142]; exact hP
              have hD : va_D (Az sz) (fw n ad mem142) := fw_D hD
              have h_mem142 : mem142 (222) = .inr (4, [.ref (ad 1), .ref (ad 5), .int (nI (a1 + 1)), .int (ft101)]) := by rw [e_mem142, va_up_self]
              have hh143 := (va_up_ne mem9 (.inr (4, [.ref (ad 1), .ref (ad 5), .int (nI (a1 + 1)), .int (ft101)])) (show (1 : Nat) ≠ 222 by first | decide | assumption | omega)).trans h1_103
              rw [← e_mem142] at hh143
              have hh144 := (va_up_ne mem9 (.inr (4, [.ref (ad 1), .ref (ad 5), .int (nI (a1 + 1)), .int (ft101)])) (show (5 : Nat) ≠ 222 by first | decide | assumption | omega)).trans h5_105
              rw [← e_mem142] at hh144
              have hh145 := (va_up_ne mem9 (.inr (4, [.ref (ad 1), .ref (ad 5), .int (nI (a1 + 1)), .int (ft101)])) (show (220 : Nat) ≠ 222 by first | decide | assumption | omega)).trans h220_109
              rw [← e_mem142] at hh145
              have hRX146 : RX cy ad lim (a1 + 1) (R) (Ec) (to) (nm) m0 mem142 := by rw [e_mem142]; exact hz95.at
              refine lv_iinc (lv' := [(5, .int ((nI k + (1)))), (4, .int (v * ba + figF (hereF Z T (a1)) (ba))), (3, .int (3)), (0, .ref (ad 222)), (1, .int (st)), (2, .int (ba))]) Bx.1 Bx.2.1 d_Rd_readNumber_86 hl (k := 1) rfl rfl (by decide) rfl (fun ls hl => ?_)
              rw [show (nI k + (1) : Int32) = nI (k + 1) from nI_1 (k)] at hl
              refine lv_goto Bx.1 Bx.2.1 d_Rd_readNumber_89 rfl ?_
              have hnx : (numN T Z ba ((if ba = 10 then 3 else 2) - (k + 1)) (a1 + 1) (v * ba + figF (hereF Z T (a1)) (ba))).1 = (numN T Z ba (if ba = 10 then 3 else 2) a 0).1 ∧ (numN T Z ba ((if ba = 10 then 3 else 2) - (k + 1)) (a1 + 1) (v * ba + figF (hereF Z T (a1)) (ba))).2 + (k + 1) = (numN T Z ba (if ba = 10 then 3 else 2) a 0).2 := by
                obtain ⟨r6, hr6⟩ : ∃ r6, (if ba = 10 then 3 else 2) - k = r6 + 1 := ⟨(if ba = 10 then 3 else 2) - k - 1, by omega⟩
                have h9 := hz97
                rw [hr6, numN, if_neg (fun z => hb128 (figF_m.mp z)), Int32.mul_comm ba v] at h9
                rw [show (if ba = 10 then 3 else 2) - (k + 1) = r6 by omega]
                exact ⟨h9.1, by have := h9.2; simp only [] at this; omega⟩
              exact ih99 mem142 (a1 + 1) (k + 1) (v * ba + figF (hereF Z T (a1)) (ba)) _ _ _ (by have := hmeas100; omega) (hRX146) (⟨by omega, by omega, by omega⟩) (hnx) (fun i q9 => by rw [e_mem142, va_up_ne _ _ q9]; exact hz98 i q9) hP hD hS (lv_sub hl [0, 1, 2, 3, 4, 5] rfl)
      exact loop93 _ mem (a) (0) (0) _ _ _ (Nat.lt_succ_self _) (hRX) (⟨by omega, by omega, by omega⟩) (⟨rfl, rfl⟩) (fun _ _ => rfl) hP hD hS (lv_sub hl [0, 1, 2, 3, 4, 5] rfl)
