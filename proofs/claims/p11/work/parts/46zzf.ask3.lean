def sumC (V : Nat → Int32) : Nat → Int32
  | 0 => 0
  | k + 1 => sumC V k + nI (pcN (V k) 32)
theorem pcN_bot {x : Int32} {i G : Nat} (h : Iz i G x) : ∀ n, n ≤ i → pcN x n = 0
  | 0, _ => rfl
  | n + 1, hn => by
    unfold pcN
    rw [pcN_bot h n (by omega), if_neg (fun z => by have := h n z; omega)]
theorem pcN_top {x : Int32} {i G : Nat} (h : Iz i G x) : ∀ n, pcN x (G + 1 + n) = pcN x (G + 1)
  | 0 => rfl
  | n + 1 => by
    show pcN x (G + 1 + n) + (if x.toBitVec.getLsbD (G + 1 + n) then 1 else 0) = _
    rw [pcN_top h n, if_neg (fun z => by have := h _ z; omega)]
    rfl
theorem bit_val {x : Int32} {j : Nat} (h : j < 32) : (x >>> (nI j &&& 31)) &&& 1 = nI (if x.toBitVec.getLsbD j then 1 else 0) := by
  by_cases q : x.toBitVec.getLsbD j = true
  · rw [if_pos q]; exact (Bt.bit h).mpr q
  · rw [if_neg q]
    refine Bt.ext (fun k _ => ?_)
    rw [Bt.and, Bt.one, Bt.shr h]
    constructor
    · rintro ⟨⟨_, z⟩, rfl⟩
      rw [if_pos (by omega)] at z
      exact absurd z q
    · intro z
      exact absurd z Bt.zero
theorem VV_in {R E I r i : Nat} {Bw : Ro} {inp : Nat → Int32} (hW : CW R E I Bw inp) (hr : r < R) (hi : i ≤ I) : Iz i I (VV Bw inp I E r i) := by
  unfold VV
  have h := fill_all (g := fun _ => 0) hW.1 hW.2.1 hW.2.2 PrC.top
  exact ch_in (fun p hp => (h.1 p (chL_lt (fun k hk => (hW.1.1 k hk).2) hW.1.2.2.2.1 (hW.1.2.2.1 r hr) p hp) i (Nat.zero_le _) hi).1) Iz.zero
theorem qy_iz {cy : Nat → ClassId} {ad : Nat → Nat} {R E I : Nat} {Bw : Ro} {inp : Nat → Int32} {mem : Nat → va_E} (h : QY cy ad R E I Bw inp mem) : ∀ r i, r < R → i ≤ I → Iz i I (VV Bw inp I E r i) := by
  intro r i hr hi
  rcases h with ⟨e, _⟩ | ⟨hW, _⟩
  · omega
  · exact VV_in hW hr hi
set_option maxHeartbeats 4000000 in
set_option maxRecDepth 100000 in
theorem m_Jn_bitCountX (l : Launch) (x : Int32) : MS l y_Jn_bitCount c_Jn_bitCount 1 (some .int) ({ frames := 0, cells := 0, slots := 0, locals := 0 } : Room) [.int (x)] (fun r => r = nI (pcN x 32)) := by
  refine Met.ofW (cc := c_Jn_bitCount) (maxL := 1) (ret := (some .int)) (by decide) rfl ?_
  intro p e s m args below meth c s₁ B hml hv
  obtain ⟨rfl, hN⟩ := hv
  have hx := B.exec
  have hb := B.bytes
  have hr := B.returns
  have hlocks := B.notSynchronized
  have Bx : p.tables.exec = Jvm.exec ∧ c.code = c_Jn_bitCount ∧ (∀ w ∈ TB, w.before [.int (x)].toArray s = true) ∧ s.vm.findClass "java/lang/Integer" = some m.cls ∧ True := ⟨hx, hb, tb_all (atoms_spec B.pre) hN, findClass_of_methodNamed B.named, trivial⟩
  have hl := lv_entry ([.int (x)]) (n := 1) (Nat.le_of_ble_eq_true rfl)
  rw [lg_entry_eq]
  generalize (lg_sl ([.int (x)]) ++ List.replicate (1 - (lg_sl ([.int (x)])).length) Slot.unset).toArray = ls at hl ⊢
  have hl : lv_has ls 1 [(0, .int (x))] := hl
  refine lv_iload_n Bx.1 Bx.2.1 d_Jn_bitCount_0 rfl (lv_at hl 0 rfl) ?_
  refine lv_iload_n Bx.1 Bx.2.1 d_Jn_bitCount_1 rfl (lv_at hl 0 rfl) ?_
  refine lv_iconst (v := 1) Bx.1 Bx.2.1 d_Jn_bitCount_2 (by decide) ?_
  refine lv_iushr Bx.1 Bx.2.1 d_Jn_bitCount_3 rfl ?_
  refine lv_topi (fun bc1 e_bc1 => ?_)
  refine lv_ldcw Bx.1 Bx.2.1 Bx.2.2.2.1 (Bx.2.2.1 _ (tb_g kw_630 rfl)) d_Jn_bitCount_4 ?_
  refine lv_iand Bx.1 Bx.2.1 d_Jn_bitCount_7 ?_
  refine lv_topi (fun bc2 e_bc2 => ?_)
  refine lv_isub Bx.1 Bx.2.1 d_Jn_bitCount_8 ?_
  refine lv_topi (fun bc3 e_bc3 => ?_)
  refine lv_istore_n (lv' := [(0, .int (bc3))]) Bx.1 Bx.2.1 d_Jn_bitCount_9 rfl hl (by decide) rfl (fun ls hl => ?_)
  refine lv_iload_n Bx.1 Bx.2.1 d_Jn_bitCount_10 rfl (lv_at hl 0 rfl) ?_
  refine lv_ldcw Bx.1 Bx.2.1 Bx.2.2.2.1 (Bx.2.2.1 _ (tb_g kw_631 rfl)) d_Jn_bitCount_11 ?_
  refine lv_iand Bx.1 Bx.2.1 d_Jn_bitCount_14 ?_
  refine lv_topi (fun bc4 e_bc4 => ?_)
  refine lv_iload_n Bx.1 Bx.2.1 d_Jn_bitCount_15 rfl (lv_at hl 0 rfl) ?_
  refine lv_iconst (v := 2) Bx.1 Bx.2.1 d_Jn_bitCount_16 (by decide) ?_
  refine lv_iushr Bx.1 Bx.2.1 d_Jn_bitCount_17 rfl ?_
  refine lv_topi (fun bc5 e_bc5 => ?_)
  refine lv_ldcw Bx.1 Bx.2.1 Bx.2.2.2.1 (Bx.2.2.1 _ (tb_g kw_631 rfl)) d_Jn_bitCount_18 ?_
  refine lv_iand Bx.1 Bx.2.1 d_Jn_bitCount_21 ?_
  refine lv_topi (fun bc6 e_bc6 => ?_)
  refine lv_iadd Bx.1 Bx.2.1 d_Jn_bitCount_22 ?_
  refine lv_topi (fun bc7 e_bc7 => ?_)
  refine lv_istore_n (lv' := [(0, .int (bc7))]) Bx.1 Bx.2.1 d_Jn_bitCount_23 rfl hl (by decide) rfl (fun ls hl => ?_)
  refine lv_iload_n Bx.1 Bx.2.1 d_Jn_bitCount_24 rfl (lv_at hl 0 rfl) ?_
  refine lv_iload_n Bx.1 Bx.2.1 d_Jn_bitCount_25 rfl (lv_at hl 0 rfl) ?_
  refine lv_iconst (v := 4) Bx.1 Bx.2.1 d_Jn_bitCount_26 (by decide) ?_
  refine lv_iushr Bx.1 Bx.2.1 d_Jn_bitCount_27 rfl ?_
  refine lv_topi (fun bc8 e_bc8 => ?_)
  refine lv_iadd Bx.1 Bx.2.1 d_Jn_bitCount_28 ?_
  refine lv_topi (fun bc9 e_bc9 => ?_)
  refine lv_ldcw Bx.1 Bx.2.1 Bx.2.2.2.1 (Bx.2.2.1 _ (tb_g kw_632 rfl)) d_Jn_bitCount_29 ?_
  refine lv_iand Bx.1 Bx.2.1 d_Jn_bitCount_32 ?_
  refine lv_topi (fun bc10 e_bc10 => ?_)
  refine lv_istore_n (lv' := [(0, .int (bc10))]) Bx.1 Bx.2.1 d_Jn_bitCount_33 rfl hl (by decide) rfl (fun ls hl => ?_)
  refine lv_iload_n Bx.1 Bx.2.1 d_Jn_bitCount_34 rfl (lv_at hl 0 rfl) ?_
  refine lv_iload_n Bx.1 Bx.2.1 d_Jn_bitCount_35 rfl (lv_at hl 0 rfl) ?_
  refine lv_bipush (v := 8) Bx.1 Bx.2.1 d_Jn_bitCount_36 (by decide) ?_
  refine lv_iushr Bx.1 Bx.2.1 d_Jn_bitCount_38 rfl ?_
  refine lv_topi (fun bc11 e_bc11 => ?_)
  refine lv_iadd Bx.1 Bx.2.1 d_Jn_bitCount_39 ?_
  refine lv_topi (fun bc12 e_bc12 => ?_)
  refine lv_istore_n (lv' := [(0, .int (bc12))]) Bx.1 Bx.2.1 d_Jn_bitCount_40 rfl hl (by decide) rfl (fun ls hl => ?_)
  refine lv_iload_n Bx.1 Bx.2.1 d_Jn_bitCount_41 rfl (lv_at hl 0 rfl) ?_
  refine lv_iload_n Bx.1 Bx.2.1 d_Jn_bitCount_42 rfl (lv_at hl 0 rfl) ?_
  refine lv_bipush (v := 16) Bx.1 Bx.2.1 d_Jn_bitCount_43 (by decide) ?_
  refine lv_iushr Bx.1 Bx.2.1 d_Jn_bitCount_45 rfl ?_
  refine lv_topi (fun bc13 e_bc13 => ?_)
  refine lv_iadd Bx.1 Bx.2.1 d_Jn_bitCount_46 ?_
  refine lv_topi (fun bc14 e_bc14 => ?_)
  refine lv_istore_n (lv' := [(0, .int (bc14))]) Bx.1 Bx.2.1 d_Jn_bitCount_47 rfl hl (by decide) rfl (fun ls hl => ?_)
  refine lv_iload_n Bx.1 Bx.2.1 d_Jn_bitCount_48 rfl (lv_at hl 0 rfl) ?_
  refine lv_bipush (v := 63) Bx.1 Bx.2.1 d_Jn_bitCount_49 (by decide) ?_
  refine lv_iand Bx.1 Bx.2.1 d_Jn_bitCount_51 ?_
  refine lv_topi (fun bc15 e_bc15 => ?_)
  exact W.iret (v := bc15) hx hb hr (fun t ht hW => ⟨bc15, rfl, by rw [← bcF_eq, e_bc15, e_bc14, e_bc13, e_bc12, e_bc11, e_bc10, e_bc9, e_bc8, e_bc7, e_bc6, e_bc5, e_bc4, e_bc3, e_bc2, e_bc1]; rfl, ht⟩) (fun _ h => by cases h) d_Jn_bitCount_52
set_option maxHeartbeats 4000000 in
set_option maxRecDepth 100000 in
theorem m_Ab_piecesNz (l : Launch) {D : va_G} {cy : Nat → ClassId} {sz n : Nat} {ad : Nat → Nat} {mem : Nat → va_E} {R Eb I : Nat} {Bw : Ro} {inp : Nat → Int32} {lim rc ec : Nat} {wh : Int32} {i1 : Int32} (hlt : l.stackTraces = false) (hn : 224 ≤ n) (h0 : mem 0 = abC ad) (hY : IY cy ad I inp mem) (hR0 : R = 0) (hG : GI cy ad lim rc ec wh mem) (hz : wh = 0 ∨ rc = 0) : NXi l D cy sz n ad y_Ab_pieces c_Ab_pieces 4 (some .int) ({ frames := 8, cells := 1, slots := 6, locals := 260 } : Room) mem [.ref (ad 0), .int (i1)] (fun r mem' => CY cy ad R Eb I Bw inp mem' ∧ (∀ i, i ≠ 223 → i < 20 ∨ 222 ≤ i → mem' i = mem i) ∧ ∃ ra : Nat, ra < R ∧ i1 = nI ra ∧ r = sumC (VV Bw inp I Eb ra) (I + 1)) (fun X mem' => mem' = mem ∧ X = cNS ∧ ¬ RK R (i1)) := by
  refine vx_ofW (cc := c_Ab_pieces) (maxL := 4) (ret := (some .int)) (by decide) rfl ?_
  intro p e s m args below meth c s₁ B hml hno hv
  obtain ⟨rfl, E, hP, hD⟩ := hv
  have hx := B.exec
  have hb := B.bytes
  have hr := B.returns
  have hlocks := B.notSynchronized
  have Bx : MB p s m [.ref (ad 0), .int (i1)].toArray c c_Ab_pieces "AbnfChart" D cy := ⟨hx, hb, tb_all (atoms_spec B.pre) E.2.1, findClass_of_methodNamed B.named, E.1⟩
  have hS : va_S (Az sz) s.heap s.heap [] := va_S.rf
  have hl := lv_entry ([.ref (ad 0), .int (i1)]) (n := 4) (Nat.le_of_ble_eq_true rfl)
  rw [lg_entry_eq]
  generalize (lg_sl ([.ref (ad 0), .int (i1)]) ++ List.replicate (4 - (lg_sl ([.ref (ad 0), .int (i1)])).length) Slot.unset).toArray = ls at hl ⊢
  have hl : lv_has ls 4 [(0, .ref (ad 0)), (1, .int (i1))] := hl
  have hbd := hG.1
  refine lv_aload_n Bx.1 Bx.2.1 d_Ab_pieces_0 rfl (lv_at hl 0 rfl) ?_
  refine lv_iload_n Bx.1 Bx.2.1 d_Ab_pieces_1 rfl (lv_at hl 1 rfl) ?_
  refine f_xVv (na := 1) (As := [.int (i1)]) (rest := []) Bx hml E hP hD hS (by omega) h0 rfl (m_Ab_checkRuleY l hlt hn h0 hG) kw_511 kw_513 sel_Ab_checkRule kw_1 kw_514 (by decide +kernel) ⟨rfl, rfl⟩ ⟨Nat.le_of_ble_eq_true rfl, Nat.le_of_ble_eq_true rfl⟩ rfl hl.1 (Nat.le_of_ble_eq_true rfl) d_Ab_pieces_2 ⟨Nat.le_of_ble_eq_true rfl, Nat.le_of_ble_eq_true rfl⟩ (fun X ce q9 memx H locs hx9 hP hS g1 g2 g3 => f_out hlocks hno hP hS g1 g2 g3 ⟨Nat.le_of_ble_eq_true rfl, Nat.le_of_ble_eq_true rfl⟩ ⟨hx9.2.1, hx9.1, by rw [hR0]; exact RK.zero⟩) (fun mem2 H locs hq hP hS => ?_)
  have hD : va_D (Az sz) (fw n ad mem2) := fw_D hD
  exact (no_rul9 hz hq.2.1 hq.2.2).elim
set_option maxHeartbeats 4000000 in
set_option maxRecDepth 100000 in
theorem m_Ab_piecesCz (l : Launch) {D : va_G} {cy : Nat → ClassId} {sz n : Nat} {ad : Nat → Nat} {mem : Nat → va_E} {R Eb I : Nat} {Bw : Ro} {inp : Nat → Int32} {i1 : Int32} (hlt : l.stackTraces = false) (hn : 224 ≤ n) (h0 : mem 0 = abC ad) (hY : IY cy ad I inp mem) (hW : CW R Eb I Bw inp) (hC : CY cy ad R Eb I Bw inp mem) : NXi l D cy sz n ad y_Ab_pieces c_Ab_pieces 4 (some .int) ({ frames := 8, cells := 1, slots := 6, locals := 260 } : Room) mem [.ref (ad 0), .int (i1)] (fun r mem' => CY cy ad R Eb I Bw inp mem' ∧ (∀ i, i ≠ 223 → i < 20 ∨ 222 ≤ i → mem' i = mem i) ∧ ∃ ra : Nat, ra < R ∧ i1 = nI ra ∧ r = sumC (VV Bw inp I Eb ra) (I + 1)) (fun X mem' => mem' = mem ∧ X = cNS ∧ ¬ RK R (i1)) := by
  refine vx_ofW (cc := c_Ab_pieces) (maxL := 4) (ret := (some .int)) (by decide) rfl ?_
  intro p e s m args below meth c s₁ B hml hno hv
  obtain ⟨rfl, E, hP, hD⟩ := hv
  have hx := B.exec
  have hb := B.bytes
  have hr := B.returns
  have hlocks := B.notSynchronized
  have Bx : MB p s m [.ref (ad 0), .int (i1)].toArray c c_Ab_pieces "AbnfChart" D cy := ⟨hx, hb, tb_all (atoms_spec B.pre) E.2.1, findClass_of_methodNamed B.named, E.1⟩
  have hS : va_S (Az sz) s.heap s.heap [] := va_S.rf
  have hl := lv_entry ([.ref (ad 0), .int (i1)]) (n := 4) (Nat.le_of_ble_eq_true rfl)
  rw [lg_entry_eq]
  generalize (lg_sl ([.ref (ad 0), .int (i1)]) ++ List.replicate (4 - (lg_sl ([.ref (ad 0), .int (i1)])).length) Slot.unset).toArray = ls at hl ⊢
  have hl : lv_has ls 4 [(0, .ref (ad 0)), (1, .int (i1))] := hl
  obtain ⟨lim, fl, g, hG, hE, -, hc, hf⟩ := id hC
  have hbd := hG.1
  have hbI := hY.2.1
  refine lv_aload_n Bx.1 Bx.2.1 d_Ab_pieces_0 rfl (lv_at hl 0 rfl) ?_
  refine lv_iload_n Bx.1 Bx.2.1 d_Ab_pieces_1 rfl (lv_at hl 1 rfl) ?_
  refine f_xVv (na := 1) (As := [.int (i1)]) (rest := []) Bx hml E hP hD hS (by omega) h0 rfl (m_Ab_checkRuleY l hlt hn h0 hG) kw_511 kw_513 sel_Ab_checkRule kw_1 kw_514 (by decide +kernel) ⟨rfl, rfl⟩ ⟨Nat.le_of_ble_eq_true rfl, Nat.le_of_ble_eq_true rfl⟩ rfl hl.1 (Nat.le_of_ble_eq_true rfl) d_Ab_pieces_2 ⟨Nat.le_of_ble_eq_true rfl, Nat.le_of_ble_eq_true rfl⟩ (fun X ce q9 memx H locs hx9 hP hS g1 g2 g3 => f_out hlocks hno hP hS g1 g2 g3 ⟨Nat.le_of_ble_eq_true rfl, Nat.le_of_ble_eq_true rfl⟩ ⟨hx9.2.1, hx9.1, RK.no hbd.1 (by decide) hx9.2.2⟩) (fun mem2 H locs hq hP hS => ?_)
  have hD : va_D (Az sz) (fw n ad mem2) := fw_D hD
  obtain ⟨hq, hk1, hk2⟩ := hq
  rw [hq] at hP hD
  obtain ⟨r0, hr0, rfl⟩ := rl_ok hbd.1 hk1 hk2
  refine lv_iconst (v := 0) Bx.1 Bx.2.1 d_Ab_pieces_5 (by decide) ?_
  refine lv_istore_n (lv' := [(2, .int (0)), (0, .ref (ad 0)), (1, .int (nI r0))]) Bx.1 Bx.2.1 d_Ab_pieces_6 rfl hl (by decide) rfl (fun ls hl => ?_)
  refine lv_iconst (v := 0) Bx.1 Bx.2.1 d_Ab_pieces_7 (by decide) ?_
  refine lv_istore_n (lv' := [(3, .int (0)), (2, .int (0)), (0, .ref (ad 0)), (1, .int (nI r0))]) Bx.1 Bx.2.1 d_Ab_pieces_8 rfl hl (by decide) rfl (fun ls hl => ?_)
  have loop3 : ∀ (d4 : Nat) (mem9 : Nat → va_E) (k : Nat) (to : Int32) (ls : Array Slot) (H : Heap) (locs : List Loc), (I + 1 - k < d4) → (k ≤ I + 1) → (CY cy ad R Eb I Bw inp mem9) → (∀ i, i ≠ 223 → i < 20 ∨ 222 ≤ i → mem9 i = mem i) → (to = sumC (VV Bw inp I Eb r0) k) → (va_P D vcl (fw n ad mem9) H) → (va_D (Az sz) (fw n ad mem9)) → (va_S (Az sz) s.heap H locs) → (lv_has ls 4 [(3, .int (nI k)), (2, .int (to)), (0, .ref (ad 0)), (1, .int (nI r0))]) → W p l e (headSpec (Cond.code y_Ab_pieces c_Ab_pieces 4 (some .int) :: tg) ({ frames := 8, cells := 1, slots := 6, locals := 260 } : Room)).room s m [.ref (ad 0), .int (nI r0)].toArray below meth c H locs 0 0 (vx_MQ below (QX (va_Qi (fun r mem' => CY cy ad R Eb I Bw inp mem' ∧ (∀ i, i ≠ 223 → i < 20 ∨ 222 ≤ i → mem' i = mem i) ∧ ∃ ra : Nat, ra < R ∧ nI r0 = nI ra ∧ r = sumC (VV Bw inp I Eb ra) (I + 1)) (PP D n ad) (Az sz))) (XQ D sz n ad (fun X mem' => mem' = mem ∧ X = cNS ∧ ¬ RK R (nI r0))) [.ref (ad 0), .int (nI r0)].toArray s 1 6 (Az sz)) (F0 m 9 ls []) := by
    intro d4
    induction d4 with
    | zero => intro mem9 k to ls H locs hmeas10; exact absurd hmeas10 (Nat.not_lt_zero _)
    | succ d4 ih9 =>
      intro mem9 k to ls H locs hmeas10 hz5 hz6 hz7 hz8 hP hD hS hl
      obtain ⟨lim, fl3, g3, hG3, hE3, hY3, hc3, hf3⟩ := id hz6
      have hFr := hz7
      have e0 : mem9 0 = abC ad := (hFr 0 (by omega) (by omega)).trans h0
      refine lv_iload_n Bx.1 Bx.2.1 d_Ab_pieces_9 rfl (lv_at hl 0 rfl) ?_
      refine lv_aload_n Bx.1 Bx.2.1 d_Ab_pieces_10 rfl (lv_at hl 2 rfl) ?_
      refine f_get Bx hP (by omega) e0 rfl inAb 1 (by decide) kw_175 rfl rfl d_Ab_pieces_11 ?_
      refine f_getN Bx hP (by omega) hY3.1 rfl inCh 1 (by decide) kw_34 rfl rfl d_Ab_pieces_14 ?_
      refine lv_icmp_gt Bx.1 Bx.2.1 d_Ab_pieces_17 rfl (fun hk => ?_) (fun hk => ?_)
      · have hkI : k = I + 1 := by have := (nI_ltI (by omega) (by omega)).mp hk; omega
        refine lv_iload_n Bx.1 Bx.2.1 d_Ab_pieces_41 rfl (lv_at hl 1 rfl) ?_
        exact x_iret hx hb hlocks hr (⟨hz6, hFr, r0, hr0, rfl, by rw [hz8, hkI]⟩) hP hS d_Ab_pieces_42
      · have hi0 : k ≤ I := by rcases Nat.lt_or_ge I k with q | q; exact absurd ((nI_ltI (by omega) (by omega)).mpr q) hk; exact q
        refine lv_iload_n Bx.1 Bx.2.1 d_Ab_pieces_20 rfl (lv_at hl 1 rfl) ?_
        refine lv_aload_n Bx.1 Bx.2.1 d_Ab_pieces_21 rfl (lv_at hl 2 rfl) ?_
        refine f_get Bx hP (by omega) e0 rfl inAb 4 (by decide) kw_178 rfl rfl d_Ab_pieces_22 ?_
        refine lv_iload_n Bx.1 Bx.2.1 d_Ab_pieces_25 rfl (lv_at hl 3 rfl) ?_
        refine lv_iload_n Bx.1 Bx.2.1 d_Ab_pieces_26 rfl (lv_at hl 0 rfl) ?_
        refine f_callVi (na := 2) (As := [.int (nI r0), .int (nI k)]) (rest := [.int (to)]) Bx hml E hP hD hS (by omega) hc3 rfl (m_Ct_endsOfX l (lim := lim) (wh := 1) (m0 := mem9) hn hY3 ⟨hG3, hc3, fun _ _ => rfl⟩ hE3 hi0 hr0) kw_567 kw_568 kw_569 kw_7 kw_570 (by decide +kernel) ⟨rfl, rfl⟩ ⟨Nat.le_of_ble_eq_true rfl, Nat.le_of_ble_eq_true rfl⟩ rfl hl.1 (Nat.le_of_ble_eq_true rfl) d_Ab_pieces_27 ⟨Nat.le_of_ble_eq_true rfl, Nat.le_of_ble_eq_true rfl⟩ (fun r11 mem12 H locs hqe hP hS => ?_)
        have hD : va_D (Az sz) (fw n ad mem12) := fw_D hD
        obtain ⟨fl2, g2, hq1, hq2, hq3, hq4, hq5⟩ := hqe
        obtain ⟨hCn13, hv, hFn14⟩ := CY.look hW hY3 hf3 hq1 hq2 hq3 hq4 hq5 hr0 hi0
        subst hv
        refine f_callSJi (na := 1) (As := [.int (VV Bw inp I Eb r0 k)]) (rest := [.int (to)]) Bx hml E.2.1 (m_Jn_bitCountX l _) kw_627 kw_628 kw_16 kw_629 (by decide +kernel) ⟨rfl, rfl⟩ ⟨Nat.le_of_ble_eq_true rfl, Nat.le_of_ble_eq_true rfl⟩ rfl hl.1 (Nat.le_of_ble_eq_true rfl) d_Ab_pieces_30 ⟨Nat.le_of_ble_eq_true rfl, Nat.le_of_ble_eq_true rfl⟩ (fun r16 hs15 => ?_)
        refine lv_iadd Bx.1 Bx.2.1 d_Ab_pieces_33 ?_
        refine lv_istore_n (lv' := [(2, .int (to + r16)), (3, .int (nI k)), (0, .ref (ad 0)), (1, .int (nI r0))]) Bx.1 Bx.2.1 d_Ab_pieces_34 rfl hl (by decide) rfl (fun ls hl => ?_)
        refine lv_iinc (lv' := [(3, .int ((nI k + (1)))), (2, .int (to + r16)), (0, .ref (ad 0)), (1, .int (nI r0))]) Bx.1 Bx.2.1 d_Ab_pieces_35 hl (k := 1) rfl rfl (by decide) rfl (fun ls hl => ?_)
        refine lv_goto Bx.1 Bx.2.1 d_Ab_pieces_38 rfl ?_
        exact ih9 mem12 (k + 1) (to + r16) _ _ _ (by have := hmeas10; omega) (by omega) (hCn13) (fun i q1 q2 => (hFn14 i q1 q2).trans (hFr i q1 q2)) (by rw [hz8, hs15]; rfl) hP hD hS (by rw [nI_succ]; exact (lv_sub hl [0, 1, 2, 3] rfl))
  exact loop3 _ mem (0) (0) _ _ _ (Nat.lt_succ_self _) (by omega) (hC) (fun _ _ _ => rfl) (rfl) hP hD hS (lv_sub hl [0, 1, 2, 3] rfl)
theorem m_Ab_piecesYz (l : Launch) {D : va_G} {cy : Nat → ClassId} {sz n : Nat} {ad : Nat → Nat} {mem : Nat → va_E} {R Eb I : Nat} {Bw : Ro} {inp : Nat → Int32} {i1 : Int32} (hlt : l.stackTraces = false) (hn : 224 ≤ n) (h0 : mem 0 = abC ad) (hY : IY cy ad I inp mem) (hQ : QY cy ad R Eb I Bw inp mem) : NXi l D cy sz n ad y_Ab_pieces c_Ab_pieces 4 (some .int) ({ frames := 8, cells := 1, slots := 6, locals := 260 } : Room) mem [.ref (ad 0), .int (i1)] (fun r mem' => CY cy ad R Eb I Bw inp mem' ∧ (∀ i, i ≠ 223 → i < 20 ∨ 222 ≤ i → mem' i = mem i) ∧ ∃ ra : Nat, ra < R ∧ i1 = nI ra ∧ r = sumC (VV Bw inp I Eb ra) (I + 1)) (fun X mem' => mem' = mem ∧ X = cNS ∧ ¬ RK R (i1)) := by
  rcases hQ with ⟨e, lim, rc, ec, wh, hG, hz⟩ | ⟨hW, hC⟩
  · exact m_Ab_piecesNz l hlt hn h0 hY e hG hz
  · exact m_Ab_piecesCz l hlt hn h0 hY hW hC
set_option maxHeartbeats 4000000 in
set_option maxRecDepth 100000 in
theorem m_Mo_piecesYz (l : Launch) {D : va_G} {cy : Nat → ClassId} {sz n : Nat} {ad : Nat → Nat} {mem : Nat → va_E} {J : Nat → Int32} {A : Nat → Nat → Int32} {nm : Nat → Int64} {m0 : Nat → va_E} {G R Ec u : Nat} {V : Nat → Nat → Int32} {i1 : Int32} (hn : 242 ≤ n) (hM : MW cy ad J A nm m0 mem) (h24 : J 24 = nI G) (hGb : G ≤ 24) (h4 : J 4 = nI R) (h7 : J 7 = nI Ec) (hEb : Ec ≤ 100) (hRb : R ≤ 12) (hub : u ≤ 240) (hGd : Gd R Ec u A) (hng : NoG m0) (hx0 : 0 < R → J 26 = 0 → Fx A G Ec (A 241) ∧ Lst A G Ec (A 241)) (hV : ∀ gR, Fx A G Ec gR → Lst A G Ec gR → ∀ r i, r < R → i ≤ G → (if A 227 r < 0 then 0 else gR (25 * (A 227 r).toNatClampNeg + i)) = V r i) (hIz : ∀ r i, r < R → i ≤ G → Iz i G (V r i)) : MI l D cy sz n ad y_Mo_pieces c_Mo_pieces 5 (some .int) ({ frames := 6, cells := 0, slots := 0, locals := 180 } : Room) mem [.ref (ad 224), .int (i1)] (fun r mem' => ∃ J' A', MW cy ad J' A' nm m0 mem' ∧ (∀ i, i ≠ 0 → i ≠ 26 → J' i = J i) ∧ (∀ j, j ≠ 241 → A' j = A j) ∧ (0 < R → J' 26 = 0 → Fx A G Ec (A' 241) ∧ Lst A G Ec (A' 241)) ∧ ((J' 0 = 1 ∧ ¬ RK R (i1)) ∨ (J' 0 = 0 ∧ ∃ ra : Nat, ra < R ∧ i1 = nI ra ∧ r = sumC (V ra) (G + 1)))) := by
  refine Met.ofW (cc := c_Mo_pieces) (maxL := 5) (ret := (some .int)) (by decide) rfl ?_
  intro p e s m args below meth c s₁ B hml hv
  obtain ⟨rfl, E, hP, hD⟩ := hv
  have hx := B.exec
  have hb := B.bytes
  have hr := B.returns
  have hlocks := B.notSynchronized
  have Bx : MB p s m [.ref (ad 224), .int (i1)].toArray c c_Mo_pieces "AbnfChartModel" D cy := ⟨hx, hb, tb_all (atoms_spec B.pre) E.2.1, findClass_of_methodNamed B.named, E.1⟩
  have hS : va_S (Az sz) s.heap s.heap [] := va_S.rf
  have hl := lv_entry ([.ref (ad 224), .int (i1)]) (n := 5) (Nat.le_of_ble_eq_true rfl)
  rw [lg_entry_eq]
  generalize (lg_sl ([.ref (ad 224), .int (i1)]) ++ List.replicate (5 - (lg_sl ([.ref (ad 224), .int (i1)])).length) Slot.unset).toArray = ls at hl ⊢
  have hl : lv_has ls 5 [(0, .ref (ad 224)), (1, .int (i1))] := hl
  refine lv_aload_n Bx.1 Bx.2.1 d_Mo_pieces_0 rfl (lv_at hl 0 rfl) ?_
  refine lv_iconst (v := 0) Bx.1 Bx.2.1 d_Mo_pieces_1 (by decide) ?_
  refine f_put Bx hP hD hS (by omega) hM.1 rfl inMo tyMo okMo nmMo 0 (by decide) kw_656 rfl rfl rfl rfl (Nat.le_of_ble_eq_true rfl) d_Mo_pieces_2 (fun H locs hP hS => ?_)
  obtain ⟨J1, eJ1⟩ : ∃ z, z = va_up J 0 (0) := ⟨_, rfl⟩
  obtain ⟨mem2, e_mem2⟩ : ∃ z, z = va_up mem 224 (moC ad J1) := ⟨_, rfl⟩
  have hP : va_P D vcl (fw n ad mem2) H := by rw [e_mem2, eJ1]; exact hP
  have hD : va_D (Az sz) (fw n ad mem2) := fw_D hD
  have hW3 : MW cy ad J1 A nm m0 mem2 := by rw [e_mem2]; exact hM.upJ (by rw [eJ1]; exact va_up_ne _ _ (by decide))
  have kk4 : J1 24 = nI G := by rw [eJ1]; exact h24
  have kk5 : J1 4 = nI R := by rw [eJ1]; exact h4
  have kk6 : J1 7 = nI Ec := by rw [eJ1]; exact h7
  have kk7 : J1 0 = 0 := by rw [eJ1, va_up_self]
  have hJ1 : ∀ i, i ≠ 0 → i ≠ 26 → J1 i = J i := fun i q1 q2 => by rw [eJ1, va_up_ne _ _ q1]
  have hx1 : 0 < R → J1 26 = 0 → Fx A G Ec (A 241) ∧ Lst A G Ec (A 241) := fun q1 q2 => hx0 q1 (by rw [eJ1, va_up_ne _ _ (by decide)] at q2; exact q2)
  have hA1q : ∀ j, j ≠ 241 → A j = A j := fun _ _ => rfl
  refine lv_iload_n Bx.1 Bx.2.1 d_Mo_pieces_5 rfl (lv_at hl 1 rfl) ?_
  refine lv_iconst (v := 0) Bx.1 Bx.2.1 d_Mo_pieces_6 (by decide) ?_
  refine lv_aload_n Bx.1 Bx.2.1 d_Mo_pieces_7 rfl (lv_at hl 0 rfl) ?_
  refine f_get Bx hP (by omega) hW3.1 rfl inMo 4 (by decide) kw_660 rfl rfl d_Mo_pieces_8 ?_
  rw [kk5]
  refine lv_iconst (v := 1) Bx.1 Bx.2.1 d_Mo_pieces_11 (by decide) ?_
  refine lv_isub Bx.1 Bx.2.1 d_Mo_pieces_12 ?_
  refine f_callSi (na := 3) (As := [.int (i1), .int (0), .int (nI R - 1)]) (rest := []) Bx hml E.2.1 (m_Mo_within l (i1) (0) (nI R - 1)) kw_754 kw_755 kw_8 kw_756 (by decide +kernel) ⟨rfl, rfl⟩ ⟨Nat.le_of_ble_eq_true rfl, Nat.le_of_ble_eq_true rfl⟩ rfl hl.1 (Nat.le_of_ble_eq_true rfl) d_Mo_pieces_13 ⟨Nat.le_of_ble_eq_true rfl, Nat.le_of_ble_eq_true rfl⟩ (fun r9 hs8 => ?_)
  subst hs8
  refine lv_if_ne Bx.1 Bx.2.1 d_Mo_pieces_16 rfl (fun hb10 => ?_) (fun hb10 => ?_)
  · obtain ⟨r0, hr0, rfl⟩ := wr_ok hRb hb10
    refine lv_iconst (v := 0) Bx.1 Bx.2.1 d_Mo_pieces_25 (by decide) ?_
    refine lv_istore_n (lv' := [(2, .int (0)), (0, .ref (ad 224)), (1, .int (nI r0))]) Bx.1 Bx.2.1 d_Mo_pieces_26 rfl hl (by decide) rfl (fun ls hl => ?_)
    refine lv_iconst (v := 0) Bx.1 Bx.2.1 d_Mo_pieces_27 (by decide) ?_
    refine lv_istore_n (lv' := [(3, .int (0)), (2, .int (0)), (0, .ref (ad 224)), (1, .int (nI r0))]) Bx.1 Bx.2.1 d_Mo_pieces_28 rfl hl (by decide) rfl (fun ls hl => ?_)
    have loop11 : ∀ (d12 : Nat) (mem9 : Nat → va_E) (J9 : Nat → Int32) (A9 : Nat → Nat → Int32) (ii : Nat) (t1 : Int32) (ls : Array Slot) (H : Heap) (locs : List Loc), (G + 1 - ii < d12) → (MW cy ad J9 A9 nm m0 mem9) → ((∀ i, i ≠ 0 → i ≠ 26 → J9 i = J i) ∧ (∀ j, j ≠ 241 → A9 j = A j) ∧ (0 < R → J9 26 = 0 → Fx A G Ec (A9 241) ∧ Lst A G Ec (A9 241)) ∧ J9 0 = 0) → (ii ≤ G + 1) → (t1 = sumC (V r0) ii) → (va_P D vcl (fw n ad mem9) H) → (va_D (Az sz) (fw n ad mem9)) → (va_S (Az sz) s.heap H locs) → (lv_has ls 5 [(3, .int (nI ii)), (2, .int (t1)), (0, .ref (ad 224)), (1, .int (nI r0))]) → W p l e (headSpec (Cond.code y_Mo_pieces c_Mo_pieces 5 (some .int) :: tg) ({ frames := 6, cells := 0, slots := 0, locals := 180 } : Room)).room s m [.ref (ad 224), .int (nI r0)].toArray below meth c H locs 0 0 (MQ below (va_Qi (fun r mem' => ∃ J' A', MW cy ad J' A' nm m0 mem' ∧ (∀ i, i ≠ 0 → i ≠ 26 → J' i = J i) ∧ (∀ j, j ≠ 241 → A' j = A j) ∧ (0 < R → J' 26 = 0 → Fx A G Ec (A' 241) ∧ Lst A G Ec (A' 241)) ∧ ((J' 0 = 1 ∧ ¬ RK R (nI r0)) ∨ (J' 0 = 0 ∧ ∃ ra : Nat, ra < R ∧ nI r0 = nI ra ∧ r = sumC (V ra) (G + 1)))) (PP D n ad) (Az sz)) [.ref (ad 224), .int (nI r0)].toArray s 0 0 (Az sz)) (F0 m 29 ls []) := by
      intro d12
      induction d12 with
      | zero => intro mem9 J9 A9 ii t1 ls H locs hmeas18; exact absurd hmeas18 (Nat.not_lt_zero _)
      | succ d12 ih17 =>
        intro mem9 J9 A9 ii t1 ls H locs hmeas18 hz13 hz14 hz15 hz16 hP hD hS hl
        have A9k24 : J9 24 = nI G := (hz14.1 24 (by decide) (by decide)).trans h24
        have A9k7 : J9 7 = nI Ec := (hz14.1 7 (by decide) (by decide)).trans h7
        have A9k4 : J9 4 = nI R := (hz14.1 4 (by decide) (by decide)).trans h4
        refine lv_iload_n Bx.1 Bx.2.1 d_Mo_pieces_29 rfl (lv_at hl 0 rfl) ?_
        refine lv_aload_n Bx.1 Bx.2.1 d_Mo_pieces_30 rfl (lv_at hl 2 rfl) ?_
        refine f_get Bx hP (by omega) hz13.1 rfl inMo 24 (by decide) kw_680 rfl rfl d_Mo_pieces_31 ?_
        rw [A9k24]
        refine lv_icmp_gt Bx.1 Bx.2.1 d_Mo_pieces_34 rfl (fun hb19 => ?_) (fun hb19 => ?_)
        · have hN20 : G < ii := (nI_ltI (by omega) (by omega)).mp (show nI (G) < nI (ii) from hb19)
          have hiG : ii = G + 1 := by omega
          refine lv_iload_n Bx.1 Bx.2.1 d_Mo_pieces_75 rfl (lv_at hl 1 rfl) ?_
          exact W.iret (v := t1) hx hb hr (fun t ht hW => ⟨⟨t1, mem9, rfl, ⟨J9, A9, hz13, hz14.1, hz14.2.1, hz14.2.2.1, Or.inr ⟨hz14.2.2.2, r0, hr0, rfl, by rw [hz16, hiG]⟩⟩, by show va_P _ _ _ t.heap; rw [ht]; exact hP⟩, hS.F ht⟩) hS.2.2 d_Mo_pieces_76
        · have hN21 : ¬ G < ii := fun q9 => hb19 (show nI (G) < nI (ii) from (nI_ltI (by omega) (by omega)).mpr q9)
          have hii : ii ≤ G := by omega
          have hiz := hIz r0 ii hr0 hii
          refine lv_iload_n Bx.1 Bx.2.1 d_Mo_pieces_37 rfl (lv_at hl 0 rfl) ?_
          refine lv_istore (lv' := [(4, .int (nI ii)), (3, .int (nI ii)), (2, .int (t1)), (0, .ref (ad 224)), (1, .int (nI r0))]) Bx.1 Bx.2.1 d_Mo_pieces_38 hl (by decide) rfl (fun ls hl => ?_)
          have loop22 : ∀ (d23 : Nat) (mem10 : Nat → va_E) (J10 : Nat → Int32) (A10 : Nat → Nat → Int32) (jj : Nat) (t2 : Int32) (ls : Array Slot) (H : Heap) (locs : List Loc), (G + 1 - jj < d23) → (MW cy ad J10 A10 nm m0 mem10) → ((∀ i, i ≠ 0 → i ≠ 26 → J10 i = J i) ∧ (∀ j, j ≠ 241 → A10 j = A j) ∧ (0 < R → J10 26 = 0 → Fx A G Ec (A10 241) ∧ Lst A G Ec (A10 241)) ∧ J10 0 = 0) → (jj ≤ G + 1) → (t2 = sumC (V r0) ii + nI (pcN (V r0 ii) jj)) → (va_P D vcl (fw n ad mem10) H) → (va_D (Az sz) (fw n ad mem10)) → (va_S (Az sz) s.heap H locs) → (lv_has ls 5 [(4, .int (nI jj)), (3, .int (nI ii)), (2, .int (t2)), (0, .ref (ad 224)), (1, .int (nI r0))]) → W p l e (headSpec (Cond.code y_Mo_pieces c_Mo_pieces 5 (some .int) :: tg) ({ frames := 6, cells := 0, slots := 0, locals := 180 } : Room)).room s m [.ref (ad 224), .int (nI r0)].toArray below meth c H locs 0 0 (MQ below (va_Qi (fun r mem' => ∃ J' A', MW cy ad J' A' nm m0 mem' ∧ (∀ i, i ≠ 0 → i ≠ 26 → J' i = J i) ∧ (∀ j, j ≠ 241 → A' j = A j) ∧ (0 < R → J' 26 = 0 → Fx A G Ec (A' 241) ∧ Lst A G Ec (A' 241)) ∧ ((J' 0 = 1 ∧ ¬ RK R (nI r0)) ∨ (J' 0 = 0 ∧ ∃ ra : Nat, ra < R ∧ nI r0 = nI ra ∧ r = sumC (V ra) (G + 1)))) (PP D n ad) (Az sz)) [.ref (ad 224), .int (nI r0)].toArray s 0 0 (Az sz)) (F0 m 40 ls []) := by
            intro d23
            induction d23 with
            | zero => intro mem10 J10 A10 jj t2 ls H locs hmeas29; exact absurd hmeas29 (Nat.not_lt_zero _)
            | succ d23 ih28 =>
              intro mem10 J10 A10 jj t2 ls H locs hmeas29 hz24 hz25 hz26 hz27 hP hD hS hl
              have A10k24 : J10 24 = nI G := (hz25.1 24 (by decide) (by decide)).trans h24
              have A10k7 : J10 7 = nI Ec := (hz25.1 7 (by decide) (by decide)).trans h7
              have A10k4 : J10 4 = nI R := (hz25.1 4 (by decide) (by decide)).trans h4
              refine lv_iload Bx.1 Bx.2.1 d_Mo_pieces_40 (lv_at hl 0 rfl) ?_
              refine lv_aload_n Bx.1 Bx.2.1 d_Mo_pieces_42 rfl (lv_at hl 3 rfl) ?_
              refine f_get Bx hP (by omega) hz24.1 rfl inMo 24 (by decide) kw_680 rfl rfl d_Mo_pieces_43 ?_
              rw [A10k24]
              refine lv_icmp_gt Bx.1 Bx.2.1 d_Mo_pieces_46 rfl (fun hb30 => ?_) (fun hb30 => ?_)
              · have hN31 : G < jj := (nI_ltI (by omega) (by omega)).mp (show nI (G) < nI (jj) from hb30)
                have hjG : jj = G + 1 := by omega
                have htp := pcN_top hiz (31 - G)
                rw [show G + 1 + (31 - G) = 32 by omega] at htp
                refine lv_iinc (lv' := [(3, .int ((nI ii + (1)))), (4, .int (nI jj)), (2, .int (t2)), (0, .ref (ad 224)), (1, .int (nI r0))]) Bx.1 Bx.2.1 d_Mo_pieces_69 hl (k := 1) rfl rfl (by decide) rfl (fun ls hl => ?_)
                rw [show (nI ii + (1) : Int32) = nI (ii + 1) from nI_1 (ii)] at hl
                refine lv_goto Bx.1 Bx.2.1 d_Mo_pieces_72 rfl ?_
                exact ih17 mem10 (J10) (A10) (ii + 1) (t2) _ _ _ (by have := hmeas18; omega) (hz24) (⟨hz25.1, hz25.2.1, hz25.2.2.1, hz25.2.2.2⟩) (by omega) (by rw [hz27, hjG, ← htp]; rfl) hP hD hS (lv_sub hl [0, 2, 3, 4] rfl)
              · have hN32 : ¬ G < jj := fun q9 => hb30 (show nI (G) < nI (jj) from (nI_ltI (by omega) (by omega)).mpr q9)
                refine lv_iload_n Bx.1 Bx.2.1 d_Mo_pieces_49 rfl (lv_at hl 2 rfl) ?_
                refine lv_aload_n Bx.1 Bx.2.1 d_Mo_pieces_50 rfl (lv_at hl 3 rfl) ?_
                refine lv_iload_n Bx.1 Bx.2.1 d_Mo_pieces_51 rfl (lv_at hl 4 rfl) ?_
                refine lv_iload_n Bx.1 Bx.2.1 d_Mo_pieces_52 rfl (lv_at hl 1 rfl) ?_
                refine f_callVi (na := 2) (As := [.int (nI r0), .int (nI ii)]) (rest := [.int (t2)]) Bx hml E hP hD hS (by omega) hz24.1 rfl (m_Mo_endsOfX l hn hz24 A10k24 hGb A10k7 hEb hRb hub (hGd.congr hz25.2.1) hng hr0 hii) kw_878 kw_880 sel_Mo_endsOf kw_8 kw_881 (by decide +kernel) ⟨rfl, rfl⟩ ⟨Nat.le_of_ble_eq_true rfl, Nat.le_of_ble_eq_true rfl⟩ rfl hl.1 (Nat.le_of_ble_eq_true rfl) d_Mo_pieces_53 ⟨Nat.le_of_ble_eq_true rfl, Nat.le_of_ble_eq_true rfl⟩ (fun r33 mem34 H locs hq hP hS => ?_)
                have hD : va_D (Az sz) (fw n ad mem34) := fw_D hD
                obtain ⟨J35, A36, hW37, hJ38, hA39, h26_42, hcs43, hr44⟩ := hq
                have hJ40 : ∀ i, i ≠ 0 → i ≠ 26 → J35 i = J i := fun i q1 q2 => (hJ38 i q2).trans (hz25.1 i q1 q2)
                have hA41 : ∀ j, j ≠ 241 → A36 j = A j := fun j q1 => (hA39 j q1).trans (hz25.2.1 j q1)
                have hx45 : Fx A G Ec (A36 241) ∧ Lst A G Ec (A36 241) := by
                  rcases hcs43 with ⟨z1, z2⟩ | ⟨z1, z2⟩
                  · rw [z2]; exact hz25.2.2.1 (by omega) z1
                  · exact ⟨z1.cong (fun j q9 => (hz25.2.1 j q9).symm), z2.cong (fun j q9 => (hz25.2.1 j q9).symm)⟩
                have hx46 : 0 < R → J35 26 = 0 → Fx A G Ec (A36 241) ∧ Lst A G Ec (A36 241) := fun _ _ => hx45
                have hv47 : r33 = V r0 ii := by rw [hr44, show A10 227 = A 227 from hz25.2.1 227 (by decide)]; exact hV _ hx45.1 hx45.2 r0 ii hr0 hii
                have h048 : J35 0 = 0 := (hJ38 0 (by decide)).trans hz25.2.2.2
                clear hr44
                subst hv47
                have kk49 : J35 24 = nI G := (hJ38 24 (by decide)).trans A10k24
                have kk50 : J35 7 = nI Ec := (hJ38 7 (by decide)).trans A10k7
                have kk51 : J35 4 = nI R := (hJ38 4 (by decide)).trans A10k4
                refine lv_iload Bx.1 Bx.2.1 d_Mo_pieces_56 (lv_at hl 0 rfl) ?_
                refine lv_ishr Bx.1 Bx.2.1 d_Mo_pieces_58 ?_
                refine lv_iconst (v := 1) Bx.1 Bx.2.1 d_Mo_pieces_59 (by decide) ?_
                refine lv_iand Bx.1 Bx.2.1 d_Mo_pieces_60 ?_
                refine lv_topi (fun bt52 e_bt52 => ?_)
                refine lv_iadd Bx.1 Bx.2.1 d_Mo_pieces_61 ?_
                refine lv_istore_n (lv' := [(2, .int (t2 + bt52)), (4, .int (nI jj)), (3, .int (nI ii)), (0, .ref (ad 224)), (1, .int (nI r0))]) Bx.1 Bx.2.1 d_Mo_pieces_62 rfl hl (by decide) rfl (fun ls hl => ?_)
                refine lv_iinc (lv' := [(4, .int ((nI jj + (1)))), (2, .int (t2 + bt52)), (3, .int (nI ii)), (0, .ref (ad 224)), (1, .int (nI r0))]) Bx.1 Bx.2.1 d_Mo_pieces_63 hl (k := 1) rfl rfl (by decide) rfl (fun ls hl => ?_)
                rw [show (nI jj + (1) : Int32) = nI (jj + 1) from nI_1 (jj)] at hl
                refine lv_goto Bx.1 Bx.2.1 d_Mo_pieces_66 rfl ?_
                exact ih28 mem34 (J35) (A36) (jj + 1) (t2 + bt52) _ _ _ (by have := hmeas29; omega) (hW37) (⟨hJ40, hA41, hx46, h048⟩) (by omega) (by rw [hz27, e_bt52, bit_val (by omega), Int32.add_assoc, nI_add]; rfl) hP hD hS (lv_sub hl [0, 2, 1, 3, 4] rfl)
          exact loop22 _ mem9 (J9) (A9) (ii) (t1) _ _ _ (Nat.lt_succ_self _) (hz13) (⟨hz14.1, hz14.2.1, hz14.2.2.1, hz14.2.2.2⟩) (by omega) (by rw [pcN_bot hiz ii (Nat.le_refl _), show nI 0 = (0 : Int32) from rfl, Int32.add_zero]; exact hz16) hP hD hS (lv_sub hl [0, 1, 2, 3, 4] rfl)
    exact loop11 _ mem2 (J1) (A) (0) (0) _ _ _ (Nat.lt_succ_self _) (hW3) (⟨hJ1, hA1q, hx1, kk7⟩) (by omega) (rfl) hP hD hS (lv_sub hl [0, 1, 2, 3] rfl)
  · refine lv_aload_n Bx.1 Bx.2.1 d_Mo_pieces_19 rfl (lv_at hl 0 rfl) ?_
    refine lv_iconst (v := 1) Bx.1 Bx.2.1 d_Mo_pieces_20 (by decide) ?_
    refine f_callVi (na := 1) (As := [.int (1)]) (rest := []) Bx hml E hP hD hS (by omega) hW3.1 rfl (m_Mo_fail l hn (J := J1) hW3.1) kw_757 kw_759 sel_Mo_fail kw_8 kw_760 (by decide +kernel) ⟨rfl, rfl⟩ ⟨Nat.le_of_ble_eq_true rfl, Nat.le_of_ble_eq_true rfl⟩ rfl hl.1 (Nat.le_of_ble_eq_true rfl) d_Mo_pieces_21 ⟨Nat.le_of_ble_eq_true rfl, Nat.le_of_ble_eq_true rfl⟩ (fun r53 mem54 H locs hq hP hS => ?_)
    have hD : va_D (Az sz) (fw n ad mem54) := fw_D hD
    obtain ⟨hq0, hq⟩ := hq
    subst hq0
    obtain ⟨J55, eJ55⟩ : ∃ z, z = va_up J1 0 (1) := ⟨_, rfl⟩
    have hW56 : MW cy ad J55 A nm m0 mem54 := by rw [hq, eJ55]; exact hW3.upJ (va_up_ne _ _ (by decide))
    have hJ57 : ∀ i, i ≠ 0 → i ≠ 26 → J55 i = J i := fun i q1 q2 => by rw [eJ55, va_up_ne _ _ q1]; exact hJ1 i q1 q2
    have hx58 : 0 < R → J55 26 = 0 → Fx A G Ec (A 241) ∧ Lst A G Ec (A 241) := fun q1 q2 => hx1 q1 (by rw [eJ55, va_up_ne _ _ (by decide)] at q2; exact q2)
    have h059 : J55 0 = 1 := by rw [eJ55, va_up_self]
    exact W.iret (v := 0) hx hb hr (fun t ht hW => ⟨⟨0, mem54, rfl, ⟨J55, A, hW56, hJ57, hA1q, hx58, Or.inl ⟨h059, wr_no hRb hb10⟩⟩, by show va_P _ _ _ t.heap; rw [ht]; exact hP⟩, hS.F ht⟩) hS.2.2 d_Mo_pieces_24
theorem ag_piece {R G : Nat} {V : Nat → Nat → Int32} {x1 r9 t9 r : Int32} {o : Int64} (hR : R ≤ 12) (_ : G ≤ 24) (hc : (r9 = 0 ∧ ∃ r0 : Nat, (r0 < R ∧ x1 = nI r0) ∧ ∃ v : Int32, v = sumC (V r0) (G + 1) ∧ o = v.toInt64) ∨ (r9 = 1 ∧ ¬ RK R x1)) (hm : (t9 = 1 ∧ ¬ RK R x1) ∨ (t9 = 0 ∧ ∃ r0 : Nat, r0 < R ∧ x1 = nI r0 ∧ r = sumC (V r0) (G + 1))) : True ∧ t9 = r9 ∧ (r9 = 0 → o = r.toInt64) := by
  refine ⟨trivial, ?_⟩
  rcases hc with ⟨c1, r0, ⟨d1, d2⟩, v, c2, c3⟩ | ⟨c1, c2⟩
  · rcases hm with ⟨m1, m2⟩ | ⟨m1, r1, e1, e2, m3⟩
    · exact absurd ⟨r0, d1, d2⟩ m2
    · obtain rfl : r0 = r1 := (nI_eq (by omega) (by omega)).mp (d2.symm.trans e2)
      exact ⟨by rw [m1, c1], fun _ => by rw [c3, c2, m3]⟩
  · rcases hm with ⟨m1, m2⟩ | ⟨m1, r1, e1, e2, m3⟩
    · exact ⟨by rw [m1, c1], fun z => by rw [c1] at z; exact absurd z (by decide)⟩
    · exact absurd ⟨r1, e1, e2⟩ c2
