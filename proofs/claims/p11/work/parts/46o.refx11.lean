theorem dgF_one {x : Int32} (h : ¬ dgF x = 0) : dgF x = 1 := dg_one h
theorem dgF_ne {x : Int32} (h : ¬ dgF x = 0) : x ≠ -1 := dg_ne h
theorem dgF_sub {x : Int32} (h : ¬ dgF x = 0) : ¬ x - 48 < 0 := by
  have h2 : ¬ (x < 48 ∨ 57 < x) := fun z => h (by unfold dgF; rw [if_pos z])
  have h3 : (48 : Int32) ≤ x := Int32.not_lt.mp (fun z => h2 (Or.inl z))
  have h4 : x ≤ (57 : Int32) := Int32.not_lt.mp (fun z => h2 (Or.inr z))
  rw [Int32.le_iff_toInt_le] at h3 h4
  rw [Int32.lt_iff_toInt_lt, Int32.toInt_sub]
  have e1 : (48 : Int32).toInt = 48 := by decide
  have e2 : (57 : Int32).toInt = 57 := by decide
  have e3 : (0 : Int32).toInt = 0 := by decide
  rw [e1] at h3 ⊢
  rw [e2] at h4
  rw [e3, Int.bmod_eq_of_le (by omega) (by omega)]
  omega
theorem rpt1_d {T : Nat → Int32} {L a : Nat} (h : ¬ dgF (hereF L T a) = 0) : rpt1 T L a = (hereF L T a - 48, a + 1) := by unfold rpt1; rw [if_pos h]
theorem rpt1_n {T : Nat → Int32} {L a : Nat} (h : dgF (hereF L T a) = 0) : rpt1 T L a = (0, a) := by unfold rpt1; rw [if_neg (fun z => z h)]
theorem rpt2_n {T : Nat → Int32} {L a b : Nat} {v : Int32} (h : rpt1 T L a = (v, b)) (h2 : ¬ hereF L T b = 42) : rpt2 T L a = (v, b) := by unfold rpt2; rw [h, if_neg h2]
theorem rpt2_d {T : Nat → Int32} {L a b : Nat} {v : Int32} (h : rpt1 T L a = (v, b)) (h2 : hereF L T b = 42) (h3 : ¬ dgF (hereF L T (b + 1)) = 0) : rpt2 T L a = (hereF L T (b + 1) - 48, b + 1 + 1) := by unfold rpt2; rw [h, if_pos h2, if_pos h3]
theorem rpt2_x {T : Nat → Int32} {L a b : Nat} {v : Int32} (h : rpt1 T L a = (v, b)) (h2 : hereF L T b = 42) (h3 : dgF (hereF L T (b + 1)) = 0) : rpt2 T L a = (-1, b + 1) := by unfold rpt2; rw [h, if_pos h2, if_neg (fun z => z h3)]
theorem rep_no {T : Nat → Int32} {L a u R E f : Nat} {A : Ro} {nm : Nat → Int64} (h1 : dgF (hereF L T a) = 0) (h2 : ¬ hereF L T a = 42) : repS T L a u R E f A nm = singS T L a u R E f A nm := by unfold repS; rw [if_neg (fun z => z.elim (fun y => y h1) h2)]
theorem rep_E {T : Nat → Int32} {L a u R E f : Nat} {A : Ro} {nm : Nat → Int64} (h1 : ¬ dgF (hereF L T a) = 0 ∨ hereF L T a = 42) (hE : E = 100) : repS T L a u R E f A nm = none := by unfold repS; rw [if_pos h1, if_pos hE]
theorem rep_bad {T : Nat → Int32} {L a u R E f : Nat} {A : Ro} {nm : Nat → Int64} {v1 v2 : Int32} {b1 b2 : Nat} (h1 : ¬ dgF (hereF L T a) = 0 ∨ hereF L T a = 42) (hE : E < 100) (h3 : rpt1 T L a = (v1, b1)) (h4 : rpt2 T L a = (v2, b2)) (h5 : (¬ v2 < 0 ∧ v2 < v1) ∨ bgF (hereF L T b2) = false ∨ dgF (hereF L T b2) ≠ 0 ∨ hereF L T b2 = 42) : repS T L a u R E f A nm = none := by unfold repS; rw [if_pos h1, if_neg (by omega), h3, h4, if_pos h5]
theorem rep_ok {T : Nat → Int32} {L a u R E f : Nat} {A : Ro} {nm : Nat → Int64} {v1 v2 : Int32} {b1 b2 : Nat} (h1 : ¬ dgF (hereF L T a) = 0 ∨ hereF L T a = 42) (hE : E < 100) (h3 : rpt1 T L a = (v1, b1)) (h4 : rpt2 T L a = (v2, b2)) (h5 : ¬ ((¬ v2 < 0 ∧ v2 < v1) ∨ bgF (hereF L T b2) = false ∨ dgF (hereF L T b2) ≠ 0 ∨ hereF L T b2 = 42)) : repS T L a u R E f A nm = singS T L b2 u R (E + 1) f (repB A f E v1 v2) nm := by unfold repS; rw [if_pos h1, if_neg (by omega), h3, h4, if_neg h5]
theorem seq_no {T : Nat → Int32} {L a u R E f : Nat} {A : Ro} {nm : Nat → Int64} (h : bgF (hereF L T a) = false ∨ E = 100) : seqS T L a u R E f A nm = none := by unfold seqS; rw [if_pos h]
theorem seq_ok {T : Nat → Int32} {L a u R E f : Nat} {A : Ro} {nm : Nat → Int64} (h : bgF (hereF L T a) = true) (hE : E < 100) : seqS T L a u R E f A nm = repS T L a u R (E + 1) f (seqA A f E) nm := by unfold seqS; rw [if_neg (fun z => by rcases z with z | z; rw [h] at z; exact absurd z (by decide); omega)]
theorem updx {f : Nat → Int32} {i : Nat} {x y : Int32} : upd (upd f i x) i y = upd f i y := by
  funext j
  by_cases q : j = i
  · rw [q, upd_self, upd_self]
  · rw [upd_ne q, upd_ne q, upd_ne q]
set_option maxHeartbeats 4000000 in
set_option maxRecDepth 100000 in
theorem m_Mo_repetitionX (l : Launch) {D : va_G} {cy : Nat → ClassId} {sz n : Nat} {ad : Nat → Nat} {mem : Nat → va_E} {J : Nat → Int32} {A : Nat → Nat → Int32} {nm : Nat → Int64} {m0 : Nat → va_E} {L G a u R f : Nat} {T : Nat → Int32} {fc fs ft : Nat → Nat} {Ec : Nat} (hn : 242 ≤ n) (hM : MW cy ad J A nm m0 mem) (hNm : Num L G a u R Ec f J) (hBd : L ≤ 240 ∧ a ≤ L ∧ u ≤ a ∧ R ≤ 12 ∧ f ≤ 6) (hEb : Ec ≤ 100) (hT : A 225 = T) (hp : J 28 = 0) (hI : Inv R Ec u f True fc fs ft A (fun _ => False)) (h39 : A 239 f = -1) : MV l D cy sz n ad y_Mo_repetition c_Mo_repetition 5 ({ frames := 6, cells := 0, slots := 0, locals := 180 } : Room) mem [.ref (ad 224)] (fun mem' => ∃ J' A' nm', MW cy ad J' A' nm' m0 mem' ∧ Res9 L G T a J' A' nm' (repS T L a u R Ec f A nm)) := by
  refine Met.ofW (cc := c_Mo_repetition) (maxL := 5) (ret := none) (by decide) rfl ?_
  intro p e s m args below meth c s₁ B hml hv
  obtain ⟨rfl, E, hP, hD⟩ := hv
  have hx := B.exec
  have hb := B.bytes
  have hr := B.returns
  have hlocks := B.notSynchronized
  have Bx : MB p s m [.ref (ad 224)].toArray c c_Mo_repetition "AbnfChartModel" D cy := ⟨hx, hb, tb_all (atoms_spec B.pre) E.2.1, findClass_of_methodNamed B.named, E.1⟩
  have hS : va_S (Az sz) s.heap s.heap [] := va_S.rf
  have hl := lv_entry ([.ref (ad 224)]) (n := 5) (Nat.le_of_ble_eq_true rfl)
  rw [lg_entry_eq]
  generalize (lg_sl ([.ref (ad 224)]) ++ List.replicate (5 - (lg_sl ([.ref (ad 224)])).length) Slot.unset).toArray = ls at hl ⊢
  have hl : lv_has ls 5 [(0, .ref (ad 224))] := hl
  obtain ⟨hL, haL, huA, hRb, hfb⟩ := hBd
  obtain ⟨g1, g2, g3, g4, g5, g6, g7, g8⟩ := hNm
  have hfg := hI.2.2.2.2 f (Nat.le_refl _)
  have hrr0 := hfg.rep
  have hfs := hfg.2.2.2.1 (Or.inr trivial)
  have share9 : ∀ (mem9 : Nat → va_E) (J9 : Nat → Int32) (A9 : Nat → Nat → Int32) (a1 : Nat) (v1 : Int32) (v2 : Int32) (b1 : Nat) (ls : Array Slot) (H : Heap) (locs : List Loc), (Num L G a1 u R (Ec + 1) f J9 ∧ J9 28 = 0) → (MW cy ad J9 A9 nm m0 mem9) → (A9 225 = T) → (Inv R (Ec + 1) u f True fc fs ft A9 (fun _ => False)) → (a ≤ a1 ∧ a1 ≤ L ∧ Ec < 100) → ((¬ dgF (hereF L T a) = 0 ∨ hereF L T a = 42) ∧ Ec < 100 ∧ rpt1 T L a = (v1, b1) ∧ rpt2 T L a = (v2, a1) ∧ A9 = repB A f Ec v1 v2) → (va_P D vcl (fw n ad mem9) H) → (va_D (Az sz) (fw n ad mem9)) → (va_S (Az sz) s.heap H locs) → (lv_has ls 5 [(0, .ref (ad 224)), (1, .int (nI a)), (2, .int (nI f)), (3, .int (nI Ec))]) → W p l e (headSpec (Cond.code y_Mo_repetition c_Mo_repetition 5 none :: tg) ({ frames := 6, cells := 0, slots := 0, locals := 180 } : Room)).room s m [.ref (ad 224)].toArray below meth c H locs 0 0 (MQ below (va_Qv (fun mem' => ∃ J' A' nm', MW cy ad J' A' nm' m0 mem' ∧ Res9 L G T a J' A' nm' (repS T L a u R Ec f A nm)) (PP D n ad) (Az sz)) [.ref (ad 224)].toArray s 0 0 (Az sz)) (F0 m 195 ls []) := by
    intro mem9 J9 A9 a1 v1 v2 b1 ls H locs hz10 hz11 hz12 hz13 hz14 hz15 hP hD hS hl
    obtain ⟨g16, g17, g18, g19, g20, g21, g22, g23⟩ := hz10.1
    obtain ⟨hdig, hlt100, hr1, hr2, hA9⟩ := hz15
    have h230 : A9 230 (Ec) = v2 := by rw [hA9]; unfold repB; rw [va_up_self, upd_self]
    have h229 : A9 229 (Ec) = v1 := by rw [hA9]; unfold repB; rw [va_up_ne _ _ (by decide), va_up_self, upd_self]
    refine lv_aload_n Bx.1 Bx.2.1 d_Mo_repetition_195 rfl (lv_at hl 0 rfl) ?_
    refine f_get Bx hP (by omega) hz11.1 rfl inMo 10 (by decide) kw_666 rfl rfl d_Mo_repetition_196 ?_
    refine lv_iload_n Bx.1 Bx.2.1 d_Mo_repetition_199 rfl (lv_at hl 3 rfl) ?_
    refine f_iald Bx hP (by omega) (show mem9 230 = .inl (cy 1, 100, .inl (A9 230)) from hz11.2.2.1 230 (by decide) (by decide) (by decide)) (vp_in_nI (n := Ec) (by omega) (by decide)) d_Mo_repetition_200 ?_
    rw [nI_clamp (n := Ec) (by omega)]
    rw [h230]
    refine lv_if_lt Bx.1 Bx.2.1 d_Mo_repetition_201 rfl (fun hb24 => ?_) (fun hb24 => ?_)
    · refine lv_aload_n Bx.1 Bx.2.1 d_Mo_repetition_225 rfl (lv_at hl 0 rfl) ?_
      refine f_callVi (na := 0) (As := []) (rest := []) Bx hml E hP hD hS (by omega) hz11.1 rfl (m_Mo_here l hn hz11 g16 hL g18 (by omega)) kw_778 kw_780 sel_Mo_here kw_8 kw_781 (by decide +kernel) ⟨rfl, rfl⟩ ⟨Nat.le_of_ble_eq_true rfl, Nat.le_of_ble_eq_true rfl⟩ rfl hl.1 (Nat.le_of_ble_eq_true rfl) d_Mo_repetition_226 ⟨Nat.le_of_ble_eq_true rfl, Nat.le_of_ble_eq_true rfl⟩ (fun r25 mem26 H locs hq hP hS => ?_)
      have hD : va_D (Az sz) (fw n ad mem26) := fw_D hD
      obtain ⟨hre, hq⟩ := hq
      rw [hq] at hP hD
      subst hre
      rw [show hereF L (A9 225) (a1) = hereF L T (a1) by rw [hz12]]
      refine f_callSi (na := 1) (As := [.int (hereF L T (a1))]) (rest := []) Bx hml E.2.1 (m_Mo_beginsX l (hereF L T (a1))) kw_811 kw_812 kw_8 kw_813 (by decide +kernel) ⟨rfl, rfl⟩ ⟨Nat.le_of_ble_eq_true rfl, Nat.le_of_ble_eq_true rfl⟩ rfl hl.1 (Nat.le_of_ble_eq_true rfl) d_Mo_repetition_229 ⟨Nat.le_of_ble_eq_true rfl, Nat.le_of_ble_eq_true rfl⟩ (fun r28 hs27 => ?_)
      subst hs27
      refine lv_if_eq Bx.1 Bx.2.1 d_Mo_repetition_232 rfl (fun hb29 => ?_) (fun hb29 => ?_)
      · refine lv_aload_n Bx.1 Bx.2.1 d_Mo_repetition_254 rfl (lv_at hl 0 rfl) ?_
        refine lv_iconst (v := 1) Bx.1 Bx.2.1 d_Mo_repetition_255 (by decide) ?_
        refine lv_aload_n Bx.1 Bx.2.1 d_Mo_repetition_256 rfl (lv_at hl 0 rfl) ?_
        refine f_get Bx hP (by omega) hz11.1 rfl inMo 16 (by decide) kw_672 rfl rfl d_Mo_repetition_257 ?_
        rw [g18]
        refine f_callVv (na := 2) (As := [.int (1), .int (nI a1)]) (rest := []) Bx hml E hP hD hS (by omega) hz11.1 rfl (m_Mo_wrong l hn hz11 (Or.inl g19) (by first | exact Or.inl rfl | exact Or.inr rfl)) kw_799 kw_801 sel_Mo_wrong kw_8 kw_802 (by decide +kernel) ⟨rfl, rfl⟩ ⟨Nat.le_of_ble_eq_true rfl, Nat.le_of_ble_eq_true rfl⟩ rfl hl.1 (Nat.le_of_ble_eq_true rfl) d_Mo_repetition_260 ⟨Nat.le_of_ble_eq_true rfl, Nat.le_of_ble_eq_true rfl⟩ (fun mem31 H locs hq hP hS => ?_)
        have hD : va_D (Az sz) (fw n ad mem31) := fw_D hD
        obtain ⟨J32, hW33, hwr34⟩ := hq
        have kk35 : J32 1 = nI L := (show J32 1 = J9 1 from hwr34.2 1 (by decide) (by decide)).trans g16
        have kk36 : J32 24 = nI G := (show J32 24 = J9 24 from hwr34.2 24 (by decide) (by decide)).trans g17
        have kk37 : J32 16 = nI a1 := (show J32 16 = J9 16 from hwr34.2 16 (by decide) (by decide)).trans g18
        have kk38 : J32 14 = nI u := (show J32 14 = J9 14 from hwr34.2 14 (by decide) (by decide)).trans g20
        have kk39 : J32 4 = nI R := (show J32 4 = J9 4 from hwr34.2 4 (by decide) (by decide)).trans g21
        have kk40 : J32 7 = nI (Ec + 1) := (show J32 7 = J9 7 from hwr34.2 7 (by decide) (by decide)).trans g22
        have kk41 : J32 18 = nI (f + 1) := (show J32 18 = J9 18 from hwr34.2 18 (by decide) (by decide)).trans g23
        have kk42 : J32 28 = 0 := (show J32 28 = J9 28 from hwr34.2 28 (by decide) (by decide)).trans hz10.2
        refine lv_aload_n Bx.1 Bx.2.1 d_Mo_repetition_263 rfl (lv_at hl 0 rfl) ?_
        refine f_get Bx hP (by omega) hW33.1 rfl inMo 17 (by decide) kw_673 rfl rfl d_Mo_repetition_264 ?_
        refine lv_if_ne Bx.1 Bx.2.1 d_Mo_repetition_267 rfl (fun hb43 => ?_) (fun hb43 => ?_)
        · exact W.vret hx hb hr (fun t ht hW => ⟨⟨mem31, rfl, ⟨J32, A9, nm, hW33, Or.inl ⟨⟨kk35, kk36, hz12, hwr34.1, _, by omega, kk37⟩, rep_bad hdig hlt100 hr1 hr2 (Or.inr (Or.inl (bg_0 hb29)))⟩⟩, by show va_P _ _ _ t.heap; rw [ht]; exact hP⟩, hS.F ht⟩) hS.2.2 d_Mo_repetition_274
        · exact absurd hb43 hwr34.1.ne
      · refine lv_aload_n Bx.1 Bx.2.1 d_Mo_repetition_235 rfl (lv_at hl 0 rfl) ?_
        refine f_callVi (na := 0) (As := []) (rest := []) Bx hml E hP hD hS (by omega) hz11.1 rfl (m_Mo_here l hn hz11 g16 hL g18 (by omega)) kw_778 kw_780 sel_Mo_here kw_8 kw_781 (by decide +kernel) ⟨rfl, rfl⟩ ⟨Nat.le_of_ble_eq_true rfl, Nat.le_of_ble_eq_true rfl⟩ rfl hl.1 (Nat.le_of_ble_eq_true rfl) d_Mo_repetition_236 ⟨Nat.le_of_ble_eq_true rfl, Nat.le_of_ble_eq_true rfl⟩ (fun r44 mem45 H locs hq hP hS => ?_)
        have hD : va_D (Az sz) (fw n ad mem45) := fw_D hD
        obtain ⟨hre, hq⟩ := hq
        rw [hq] at hP hD
        subst hre
        rw [show hereF L (A9 225) (a1) = hereF L T (a1) by rw [hz12]]
        refine f_callSi (na := 1) (As := [.int (hereF L T (a1))]) (rest := []) Bx hml E.2.1 (m_Mo_digit l (hereF L T (a1))) kw_793 kw_794 kw_8 kw_795 (by decide +kernel) ⟨rfl, rfl⟩ ⟨Nat.le_of_ble_eq_true rfl, Nat.le_of_ble_eq_true rfl⟩ rfl hl.1 (Nat.le_of_ble_eq_true rfl) d_Mo_repetition_239 ⟨Nat.le_of_ble_eq_true rfl, Nat.le_of_ble_eq_true rfl⟩ (fun r47 hs46 => ?_)
        have hs46 : _ = dgF (hereF L T (a1)) := hs46
        subst hs46
        refine lv_if_ne Bx.1 Bx.2.1 d_Mo_repetition_242 rfl (fun hb48 => ?_) (fun hb48 => ?_)
        · refine lv_aload_n Bx.1 Bx.2.1 d_Mo_repetition_254 rfl (lv_at hl 0 rfl) ?_
          refine lv_iconst (v := 1) Bx.1 Bx.2.1 d_Mo_repetition_255 (by decide) ?_
          refine lv_aload_n Bx.1 Bx.2.1 d_Mo_repetition_256 rfl (lv_at hl 0 rfl) ?_
          refine f_get Bx hP (by omega) hz11.1 rfl inMo 16 (by decide) kw_672 rfl rfl d_Mo_repetition_257 ?_
          rw [g18]
          refine f_callVv (na := 2) (As := [.int (1), .int (nI a1)]) (rest := []) Bx hml E hP hD hS (by omega) hz11.1 rfl (m_Mo_wrong l hn hz11 (Or.inl g19) (by first | exact Or.inl rfl | exact Or.inr rfl)) kw_799 kw_801 sel_Mo_wrong kw_8 kw_802 (by decide +kernel) ⟨rfl, rfl⟩ ⟨Nat.le_of_ble_eq_true rfl, Nat.le_of_ble_eq_true rfl⟩ rfl hl.1 (Nat.le_of_ble_eq_true rfl) d_Mo_repetition_260 ⟨Nat.le_of_ble_eq_true rfl, Nat.le_of_ble_eq_true rfl⟩ (fun mem50 H locs hq hP hS => ?_)
          have hD : va_D (Az sz) (fw n ad mem50) := fw_D hD
          obtain ⟨J51, hW52, hwr53⟩ := hq
          have kk54 : J51 1 = nI L := (show J51 1 = J9 1 from hwr53.2 1 (by decide) (by decide)).trans g16
          have kk55 : J51 24 = nI G := (show J51 24 = J9 24 from hwr53.2 24 (by decide) (by decide)).trans g17
          have kk56 : J51 16 = nI a1 := (show J51 16 = J9 16 from hwr53.2 16 (by decide) (by decide)).trans g18
          have kk57 : J51 14 = nI u := (show J51 14 = J9 14 from hwr53.2 14 (by decide) (by decide)).trans g20
          have kk58 : J51 4 = nI R := (show J51 4 = J9 4 from hwr53.2 4 (by decide) (by decide)).trans g21
          have kk59 : J51 7 = nI (Ec + 1) := (show J51 7 = J9 7 from hwr53.2 7 (by decide) (by decide)).trans g22
          have kk60 : J51 18 = nI (f + 1) := (show J51 18 = J9 18 from hwr53.2 18 (by decide) (by decide)).trans g23
          have kk61 : J51 28 = 0 := (show J51 28 = J9 28 from hwr53.2 28 (by decide) (by decide)).trans hz10.2
          refine lv_aload_n Bx.1 Bx.2.1 d_Mo_repetition_263 rfl (lv_at hl 0 rfl) ?_
          refine f_get Bx hP (by omega) hW52.1 rfl inMo 17 (by decide) kw_673 rfl rfl d_Mo_repetition_264 ?_
          refine lv_if_ne Bx.1 Bx.2.1 d_Mo_repetition_267 rfl (fun hb62 => ?_) (fun hb62 => ?_)
          · exact W.vret hx hb hr (fun t ht hW => ⟨⟨mem50, rfl, ⟨J51, A9, nm, hW52, Or.inl ⟨⟨kk54, kk55, hz12, hwr53.1, _, by omega, kk56⟩, rep_bad hdig hlt100 hr1 hr2 (Or.inr (Or.inr (Or.inl hb48)))⟩⟩, by show va_P _ _ _ t.heap; rw [ht]; exact hP⟩, hS.F ht⟩) hS.2.2 d_Mo_repetition_274
          · exact absurd hb62 hwr53.1.ne
        · refine lv_aload_n Bx.1 Bx.2.1 d_Mo_repetition_245 rfl (lv_at hl 0 rfl) ?_
          refine f_callVi (na := 0) (As := []) (rest := []) Bx hml E hP hD hS (by omega) hz11.1 rfl (m_Mo_here l hn hz11 g16 hL g18 (by omega)) kw_778 kw_780 sel_Mo_here kw_8 kw_781 (by decide +kernel) ⟨rfl, rfl⟩ ⟨Nat.le_of_ble_eq_true rfl, Nat.le_of_ble_eq_true rfl⟩ rfl hl.1 (Nat.le_of_ble_eq_true rfl) d_Mo_repetition_246 ⟨Nat.le_of_ble_eq_true rfl, Nat.le_of_ble_eq_true rfl⟩ (fun r63 mem64 H locs hq hP hS => ?_)
          have hD : va_D (Az sz) (fw n ad mem64) := fw_D hD
          obtain ⟨hre, hq⟩ := hq
          rw [hq] at hP hD
          subst hre
          rw [show hereF L (A9 225) (a1) = hereF L T (a1) by rw [hz12]]
          refine lv_bipush (v := 42) Bx.1 Bx.2.1 d_Mo_repetition_249 (by decide) ?_
          refine lv_icmp_ne Bx.1 Bx.2.1 d_Mo_repetition_251 rfl (fun hb65 => ?_) (fun hb65 => ?_)
          · refine lv_aload_n Bx.1 Bx.2.1 d_Mo_repetition_263 rfl (lv_at hl 0 rfl) ?_
            refine f_get Bx hP (by omega) hz11.1 rfl inMo 17 (by decide) kw_673 rfl rfl d_Mo_repetition_264 ?_
            rw [g19]
            refine lv_if_ne Bx.1 Bx.2.1 d_Mo_repetition_267 rfl (fun hb66 => ?_) (fun hb66 => ?_)
            · exact absurd hb66 (by decide)
            · refine lv_aload_n Bx.1 Bx.2.1 d_Mo_repetition_270 rfl (lv_at hl 0 rfl) ?_
              refine f_callVv (na := 0) (As := []) (rest := []) Bx hml E hP hD hS (by omega) hz11.1 rfl (m_Mo_singleX l hn hz11 ⟨g16, g17, g18, g19, g20, g21, g22, g23⟩ ⟨hL, by omega, by omega, by omega, by omega⟩ (by omega) hz12 hz10.2 hz13) kw_830 kw_832 sel_Mo_single kw_8 kw_833 (by decide +kernel) ⟨rfl, rfl⟩ ⟨Nat.le_of_ble_eq_true rfl, Nat.le_of_ble_eq_true rfl⟩ rfl hl.1 (Nat.le_of_ble_eq_true rfl) d_Mo_repetition_271 ⟨Nat.le_of_ble_eq_true rfl, Nat.le_of_ble_eq_true rfl⟩ (fun mem68 H locs hq hP hS => ?_)
              have hD : va_D (Az sz) (fw n ad mem68) := fw_D hD
              obtain ⟨J69, A70, nn71, hW72, hres73⟩ := hq
              exact W.vret hx hb hr (fun t ht hW => ⟨⟨mem68, rfl, ⟨J69, A70, nn71, hW72, hres73.mono (by omega) (by rw [rep_ok hdig hlt100 hr1 hr2 (fun z => z.elim (fun y => y.1 hb24) (fun z => z.elim (fun y => absurd ((bg_1 hb29).symm.trans y) (by decide)) (fun z => z.elim (fun y => y hb48) (fun y => hb65 y)))), hA9])⟩, by show va_P _ _ _ t.heap; rw [ht]; exact hP⟩, hS.F ht⟩) hS.2.2 d_Mo_repetition_274
          · have hlt74 := hereF_lt (by rw [hb65]; decide)
            refine lv_aload_n Bx.1 Bx.2.1 d_Mo_repetition_254 rfl (lv_at hl 0 rfl) ?_
            refine lv_iconst (v := 1) Bx.1 Bx.2.1 d_Mo_repetition_255 (by decide) ?_
            refine lv_aload_n Bx.1 Bx.2.1 d_Mo_repetition_256 rfl (lv_at hl 0 rfl) ?_
            refine f_get Bx hP (by omega) hz11.1 rfl inMo 16 (by decide) kw_672 rfl rfl d_Mo_repetition_257 ?_
            rw [g18]
            refine f_callVv (na := 2) (As := [.int (1), .int (nI a1)]) (rest := []) Bx hml E hP hD hS (by omega) hz11.1 rfl (m_Mo_wrong l hn hz11 (Or.inl g19) (by first | exact Or.inl rfl | exact Or.inr rfl)) kw_799 kw_801 sel_Mo_wrong kw_8 kw_802 (by decide +kernel) ⟨rfl, rfl⟩ ⟨Nat.le_of_ble_eq_true rfl, Nat.le_of_ble_eq_true rfl⟩ rfl hl.1 (Nat.le_of_ble_eq_true rfl) d_Mo_repetition_260 ⟨Nat.le_of_ble_eq_true rfl, Nat.le_of_ble_eq_true rfl⟩ (fun mem76 H locs hq hP hS => ?_)
            have hD : va_D (Az sz) (fw n ad mem76) := fw_D hD
            obtain ⟨J77, hW78, hwr79⟩ := hq
            have kk80 : J77 1 = nI L := (show J77 1 = J9 1 from hwr79.2 1 (by decide) (by decide)).trans g16
            have kk81 : J77 24 = nI G := (show J77 24 = J9 24 from hwr79.2 24 (by decide) (by decide)).trans g17
            have kk82 : J77 16 = nI a1 := (show J77 16 = J9 16 from hwr79.2 16 (by decide) (by decide)).trans g18
            have kk83 : J77 14 = nI u := (show J77 14 = J9 14 from hwr79.2 14 (by decide) (by decide)).trans g20
            have kk84 : J77 4 = nI R := (show J77 4 = J9 4 from hwr79.2 4 (by decide) (by decide)).trans g21
            have kk85 : J77 7 = nI (Ec + 1) := (show J77 7 = J9 7 from hwr79.2 7 (by decide) (by decide)).trans g22
            have kk86 : J77 18 = nI (f + 1) := (show J77 18 = J9 18 from hwr79.2 18 (by decide) (by decide)).trans g23
            have kk87 : J77 28 = 0 := (show J77 28 = J9 28 from hwr79.2 28 (by decide) (by decide)).trans hz10.2
            refine lv_aload_n Bx.1 Bx.2.1 d_Mo_repetition_263 rfl (lv_at hl 0 rfl) ?_
            refine f_get Bx hP (by omega) hW78.1 rfl inMo 17 (by decide) kw_673 rfl rfl d_Mo_repetition_264 ?_
            refine lv_if_ne Bx.1 Bx.2.1 d_Mo_repetition_267 rfl (fun hb88 => ?_) (fun hb88 => ?_)
            · exact W.vret hx hb hr (fun t ht hW => ⟨⟨mem76, rfl, ⟨J77, A9, nm, hW78, Or.inl ⟨⟨kk80, kk81, hz12, hwr79.1, _, by omega, kk82⟩, rep_bad hdig hlt100 hr1 hr2 (Or.inr (Or.inr (Or.inr hb65)))⟩⟩, by show va_P _ _ _ t.heap; rw [ht]; exact hP⟩, hS.F ht⟩) hS.2.2 d_Mo_repetition_274
            · exact absurd hb88 hwr79.1.ne
    · refine lv_aload_n Bx.1 Bx.2.1 d_Mo_repetition_204 rfl (lv_at hl 0 rfl) ?_
      refine f_get Bx hP (by omega) hz11.1 rfl inMo 9 (by decide) kw_665 rfl rfl d_Mo_repetition_205 ?_
      refine lv_iload_n Bx.1 Bx.2.1 d_Mo_repetition_208 rfl (lv_at hl 3 rfl) ?_
      refine f_iald Bx hP (by omega) (show mem9 229 = .inl (cy 1, 100, .inl (A9 229)) from hz11.2.2.1 229 (by decide) (by decide) (by decide)) (vp_in_nI (n := Ec) (by omega) (by decide)) d_Mo_repetition_209 ?_
      rw [nI_clamp (n := Ec) (by omega)]
      rw [h229]
      refine lv_aload_n Bx.1 Bx.2.1 d_Mo_repetition_210 rfl (lv_at hl 0 rfl) ?_
      refine f_get Bx hP (by omega) hz11.1 rfl inMo 10 (by decide) kw_666 rfl rfl d_Mo_repetition_211 ?_
      refine lv_iload_n Bx.1 Bx.2.1 d_Mo_repetition_214 rfl (lv_at hl 3 rfl) ?_
      refine f_iald Bx hP (by omega) (show mem9 230 = .inl (cy 1, 100, .inl (A9 230)) from hz11.2.2.1 230 (by decide) (by decide) (by decide)) (vp_in_nI (n := Ec) (by omega) (by decide)) d_Mo_repetition_215 ?_
      rw [nI_clamp (n := Ec) (by omega)]
      rw [h230]
      refine lv_icmp_le Bx.1 Bx.2.1 d_Mo_repetition_216 rfl (fun hb89 => ?_) (fun hb89 => ?_)
      · refine lv_aload_n Bx.1 Bx.2.1 d_Mo_repetition_225 rfl (lv_at hl 0 rfl) ?_
        refine f_callVi (na := 0) (As := []) (rest := []) Bx hml E hP hD hS (by omega) hz11.1 rfl (m_Mo_here l hn hz11 g16 hL g18 (by omega)) kw_778 kw_780 sel_Mo_here kw_8 kw_781 (by decide +kernel) ⟨rfl, rfl⟩ ⟨Nat.le_of_ble_eq_true rfl, Nat.le_of_ble_eq_true rfl⟩ rfl hl.1 (Nat.le_of_ble_eq_true rfl) d_Mo_repetition_226 ⟨Nat.le_of_ble_eq_true rfl, Nat.le_of_ble_eq_true rfl⟩ (fun r90 mem91 H locs hq hP hS => ?_)
        have hD : va_D (Az sz) (fw n ad mem91) := fw_D hD
        obtain ⟨hre, hq⟩ := hq
        rw [hq] at hP hD
        subst hre
        rw [show hereF L (A9 225) (a1) = hereF L T (a1) by rw [hz12]]
        refine f_callSi (na := 1) (As := [.int (hereF L T (a1))]) (rest := []) Bx hml E.2.1 (m_Mo_beginsX l (hereF L T (a1))) kw_811 kw_812 kw_8 kw_813 (by decide +kernel) ⟨rfl, rfl⟩ ⟨Nat.le_of_ble_eq_true rfl, Nat.le_of_ble_eq_true rfl⟩ rfl hl.1 (Nat.le_of_ble_eq_true rfl) d_Mo_repetition_229 ⟨Nat.le_of_ble_eq_true rfl, Nat.le_of_ble_eq_true rfl⟩ (fun r93 hs92 => ?_)
        subst hs92
        refine lv_if_eq Bx.1 Bx.2.1 d_Mo_repetition_232 rfl (fun hb94 => ?_) (fun hb94 => ?_)
        · refine lv_aload_n Bx.1 Bx.2.1 d_Mo_repetition_254 rfl (lv_at hl 0 rfl) ?_
          refine lv_iconst (v := 1) Bx.1 Bx.2.1 d_Mo_repetition_255 (by decide) ?_
          refine lv_aload_n Bx.1 Bx.2.1 d_Mo_repetition_256 rfl (lv_at hl 0 rfl) ?_
          refine f_get Bx hP (by omega) hz11.1 rfl inMo 16 (by decide) kw_672 rfl rfl d_Mo_repetition_257 ?_
          rw [g18]
          refine f_callVv (na := 2) (As := [.int (1), .int (nI a1)]) (rest := []) Bx hml E hP hD hS (by omega) hz11.1 rfl (m_Mo_wrong l hn hz11 (Or.inl g19) (by first | exact Or.inl rfl | exact Or.inr rfl)) kw_799 kw_801 sel_Mo_wrong kw_8 kw_802 (by decide +kernel) ⟨rfl, rfl⟩ ⟨Nat.le_of_ble_eq_true rfl, Nat.le_of_ble_eq_true rfl⟩ rfl hl.1 (Nat.le_of_ble_eq_true rfl) d_Mo_repetition_260 ⟨Nat.le_of_ble_eq_true rfl, Nat.le_of_ble_eq_true rfl⟩ (fun mem96 H locs hq hP hS => ?_)
          have hD : va_D (Az sz) (fw n ad mem96) := fw_D hD
          obtain ⟨J97, hW98, hwr99⟩ := hq
          have kk100 : J97 1 = nI L := (show J97 1 = J9 1 from hwr99.2 1 (by decide) (by decide)).trans g16
          have kk101 : J97 24 = nI G := (show J97 24 = J9 24 from hwr99.2 24 (by decide) (by decide)).trans g17
          have kk102 : J97 16 = nI a1 := (show J97 16 = J9 16 from hwr99.2 16 (by decide) (by decide)).trans g18
          have kk103 : J97 14 = nI u := (show J97 14 = J9 14 from hwr99.2 14 (by decide) (by decide)).trans g20
          have kk104 : J97 4 = nI R := (show J97 4 = J9 4 from hwr99.2 4 (by decide) (by decide)).trans g21
          have kk105 : J97 7 = nI (Ec + 1) := (show J97 7 = J9 7 from hwr99.2 7 (by decide) (by decide)).trans g22
          have kk106 : J97 18 = nI (f + 1) := (show J97 18 = J9 18 from hwr99.2 18 (by decide) (by decide)).trans g23
          have kk107 : J97 28 = 0 := (show J97 28 = J9 28 from hwr99.2 28 (by decide) (by decide)).trans hz10.2
          refine lv_aload_n Bx.1 Bx.2.1 d_Mo_repetition_263 rfl (lv_at hl 0 rfl) ?_
          refine f_get Bx hP (by omega) hW98.1 rfl inMo 17 (by decide) kw_673 rfl rfl d_Mo_repetition_264 ?_
          refine lv_if_ne Bx.1 Bx.2.1 d_Mo_repetition_267 rfl (fun hb108 => ?_) (fun hb108 => ?_)
          · exact W.vret hx hb hr (fun t ht hW => ⟨⟨mem96, rfl, ⟨J97, A9, nm, hW98, Or.inl ⟨⟨kk100, kk101, hz12, hwr99.1, _, by omega, kk102⟩, rep_bad hdig hlt100 hr1 hr2 (Or.inr (Or.inl (bg_0 hb94)))⟩⟩, by show va_P _ _ _ t.heap; rw [ht]; exact hP⟩, hS.F ht⟩) hS.2.2 d_Mo_repetition_274
          · exact absurd hb108 hwr99.1.ne
        · refine lv_aload_n Bx.1 Bx.2.1 d_Mo_repetition_235 rfl (lv_at hl 0 rfl) ?_
          refine f_callVi (na := 0) (As := []) (rest := []) Bx hml E hP hD hS (by omega) hz11.1 rfl (m_Mo_here l hn hz11 g16 hL g18 (by omega)) kw_778 kw_780 sel_Mo_here kw_8 kw_781 (by decide +kernel) ⟨rfl, rfl⟩ ⟨Nat.le_of_ble_eq_true rfl, Nat.le_of_ble_eq_true rfl⟩ rfl hl.1 (Nat.le_of_ble_eq_true rfl) d_Mo_repetition_236 ⟨Nat.le_of_ble_eq_true rfl, Nat.le_of_ble_eq_true rfl⟩ (fun r109 mem110 H locs hq hP hS => ?_)
          have hD : va_D (Az sz) (fw n ad mem110) := fw_D hD
          obtain ⟨hre, hq⟩ := hq
          rw [hq] at hP hD
          subst hre
          rw [show hereF L (A9 225) (a1) = hereF L T (a1) by rw [hz12]]
          refine f_callSi (na := 1) (As := [.int (hereF L T (a1))]) (rest := []) Bx hml E.2.1 (m_Mo_digit l (hereF L T (a1))) kw_793 kw_794 kw_8 kw_795 (by decide +kernel) ⟨rfl, rfl⟩ ⟨Nat.le_of_ble_eq_true rfl, Nat.le_of_ble_eq_true rfl⟩ rfl hl.1 (Nat.le_of_ble_eq_true rfl) d_Mo_repetition_239 ⟨Nat.le_of_ble_eq_true rfl, Nat.le_of_ble_eq_true rfl⟩ (fun r112 hs111 => ?_)
          have hs111 : _ = dgF (hereF L T (a1)) := hs111
          subst hs111
          refine lv_if_ne Bx.1 Bx.2.1 d_Mo_repetition_242 rfl (fun hb113 => ?_) (fun hb113 => ?_)
          · refine lv_aload_n Bx.1 Bx.2.1 d_Mo_repetition_254 rfl (lv_at hl 0 rfl) ?_
            refine lv_iconst (v := 1) Bx.1 Bx.2.1 d_Mo_repetition_255 (by decide) ?_
            refine lv_aload_n Bx.1 Bx.2.1 d_Mo_repetition_256 rfl (lv_at hl 0 rfl) ?_
            refine f_get Bx hP (by omega) hz11.1 rfl inMo 16 (by decide) kw_672 rfl rfl d_Mo_repetition_257 ?_
            rw [g18]
            refine f_callVv (na := 2) (As := [.int (1), .int (nI a1)]) (rest := []) Bx hml E hP hD hS (by omega) hz11.1 rfl (m_Mo_wrong l hn hz11 (Or.inl g19) (by first | exact Or.inl rfl | exact Or.inr rfl)) kw_799 kw_801 sel_Mo_wrong kw_8 kw_802 (by decide +kernel) ⟨rfl, rfl⟩ ⟨Nat.le_of_ble_eq_true rfl, Nat.le_of_ble_eq_true rfl⟩ rfl hl.1 (Nat.le_of_ble_eq_true rfl) d_Mo_repetition_260 ⟨Nat.le_of_ble_eq_true rfl, Nat.le_of_ble_eq_true rfl⟩ (fun mem115 H locs hq hP hS => ?_)
            have hD : va_D (Az sz) (fw n ad mem115) := fw_D hD
            obtain ⟨J116, hW117, hwr118⟩ := hq
            have kk119 : J116 1 = nI L := (show J116 1 = J9 1 from hwr118.2 1 (by decide) (by decide)).trans g16
            have kk120 : J116 24 = nI G := (show J116 24 = J9 24 from hwr118.2 24 (by decide) (by decide)).trans g17
            have kk121 : J116 16 = nI a1 := (show J116 16 = J9 16 from hwr118.2 16 (by decide) (by decide)).trans g18
            have kk122 : J116 14 = nI u := (show J116 14 = J9 14 from hwr118.2 14 (by decide) (by decide)).trans g20
            have kk123 : J116 4 = nI R := (show J116 4 = J9 4 from hwr118.2 4 (by decide) (by decide)).trans g21
            have kk124 : J116 7 = nI (Ec + 1) := (show J116 7 = J9 7 from hwr118.2 7 (by decide) (by decide)).trans g22
            have kk125 : J116 18 = nI (f + 1) := (show J116 18 = J9 18 from hwr118.2 18 (by decide) (by decide)).trans g23
            have kk126 : J116 28 = 0 := (show J116 28 = J9 28 from hwr118.2 28 (by decide) (by decide)).trans hz10.2
            refine lv_aload_n Bx.1 Bx.2.1 d_Mo_repetition_263 rfl (lv_at hl 0 rfl) ?_
            refine f_get Bx hP (by omega) hW117.1 rfl inMo 17 (by decide) kw_673 rfl rfl d_Mo_repetition_264 ?_
            refine lv_if_ne Bx.1 Bx.2.1 d_Mo_repetition_267 rfl (fun hb127 => ?_) (fun hb127 => ?_)
            · exact W.vret hx hb hr (fun t ht hW => ⟨⟨mem115, rfl, ⟨J116, A9, nm, hW117, Or.inl ⟨⟨kk119, kk120, hz12, hwr118.1, _, by omega, kk121⟩, rep_bad hdig hlt100 hr1 hr2 (Or.inr (Or.inr (Or.inl hb113)))⟩⟩, by show va_P _ _ _ t.heap; rw [ht]; exact hP⟩, hS.F ht⟩) hS.2.2 d_Mo_repetition_274
            · exact absurd hb127 hwr118.1.ne
          · refine lv_aload_n Bx.1 Bx.2.1 d_Mo_repetition_245 rfl (lv_at hl 0 rfl) ?_
            refine f_callVi (na := 0) (As := []) (rest := []) Bx hml E hP hD hS (by omega) hz11.1 rfl (m_Mo_here l hn hz11 g16 hL g18 (by omega)) kw_778 kw_780 sel_Mo_here kw_8 kw_781 (by decide +kernel) ⟨rfl, rfl⟩ ⟨Nat.le_of_ble_eq_true rfl, Nat.le_of_ble_eq_true rfl⟩ rfl hl.1 (Nat.le_of_ble_eq_true rfl) d_Mo_repetition_246 ⟨Nat.le_of_ble_eq_true rfl, Nat.le_of_ble_eq_true rfl⟩ (fun r128 mem129 H locs hq hP hS => ?_)
            have hD : va_D (Az sz) (fw n ad mem129) := fw_D hD
            obtain ⟨hre, hq⟩ := hq
            rw [hq] at hP hD
            subst hre
            rw [show hereF L (A9 225) (a1) = hereF L T (a1) by rw [hz12]]
            refine lv_bipush (v := 42) Bx.1 Bx.2.1 d_Mo_repetition_249 (by decide) ?_
            refine lv_icmp_ne Bx.1 Bx.2.1 d_Mo_repetition_251 rfl (fun hb130 => ?_) (fun hb130 => ?_)
            · refine lv_aload_n Bx.1 Bx.2.1 d_Mo_repetition_263 rfl (lv_at hl 0 rfl) ?_
              refine f_get Bx hP (by omega) hz11.1 rfl inMo 17 (by decide) kw_673 rfl rfl d_Mo_repetition_264 ?_
              rw [g19]
              refine lv_if_ne Bx.1 Bx.2.1 d_Mo_repetition_267 rfl (fun hb131 => ?_) (fun hb131 => ?_)
              · exact absurd hb131 (by decide)
              · refine lv_aload_n Bx.1 Bx.2.1 d_Mo_repetition_270 rfl (lv_at hl 0 rfl) ?_
                refine f_callVv (na := 0) (As := []) (rest := []) Bx hml E hP hD hS (by omega) hz11.1 rfl (m_Mo_singleX l hn hz11 ⟨g16, g17, g18, g19, g20, g21, g22, g23⟩ ⟨hL, by omega, by omega, by omega, by omega⟩ (by omega) hz12 hz10.2 hz13) kw_830 kw_832 sel_Mo_single kw_8 kw_833 (by decide +kernel) ⟨rfl, rfl⟩ ⟨Nat.le_of_ble_eq_true rfl, Nat.le_of_ble_eq_true rfl⟩ rfl hl.1 (Nat.le_of_ble_eq_true rfl) d_Mo_repetition_271 ⟨Nat.le_of_ble_eq_true rfl, Nat.le_of_ble_eq_true rfl⟩ (fun mem133 H locs hq hP hS => ?_)
                have hD : va_D (Az sz) (fw n ad mem133) := fw_D hD
                obtain ⟨J134, A135, nn136, hW137, hres138⟩ := hq
                exact W.vret hx hb hr (fun t ht hW => ⟨⟨mem133, rfl, ⟨J134, A135, nn136, hW137, hres138.mono (by omega) (by rw [rep_ok hdig hlt100 hr1 hr2 (fun z => z.elim (fun y => absurd y.2 (Int32.not_lt.mpr hb89)) (fun z => z.elim (fun y => absurd ((bg_1 hb94).symm.trans y) (by decide)) (fun z => z.elim (fun y => y hb113) (fun y => hb130 y)))), hA9])⟩, by show va_P _ _ _ t.heap; rw [ht]; exact hP⟩, hS.F ht⟩) hS.2.2 d_Mo_repetition_274
            · have hlt139 := hereF_lt (by rw [hb130]; decide)
              refine lv_aload_n Bx.1 Bx.2.1 d_Mo_repetition_254 rfl (lv_at hl 0 rfl) ?_
              refine lv_iconst (v := 1) Bx.1 Bx.2.1 d_Mo_repetition_255 (by decide) ?_
              refine lv_aload_n Bx.1 Bx.2.1 d_Mo_repetition_256 rfl (lv_at hl 0 rfl) ?_
              refine f_get Bx hP (by omega) hz11.1 rfl inMo 16 (by decide) kw_672 rfl rfl d_Mo_repetition_257 ?_
              rw [g18]
              refine f_callVv (na := 2) (As := [.int (1), .int (nI a1)]) (rest := []) Bx hml E hP hD hS (by omega) hz11.1 rfl (m_Mo_wrong l hn hz11 (Or.inl g19) (by first | exact Or.inl rfl | exact Or.inr rfl)) kw_799 kw_801 sel_Mo_wrong kw_8 kw_802 (by decide +kernel) ⟨rfl, rfl⟩ ⟨Nat.le_of_ble_eq_true rfl, Nat.le_of_ble_eq_true rfl⟩ rfl hl.1 (Nat.le_of_ble_eq_true rfl) d_Mo_repetition_260 ⟨Nat.le_of_ble_eq_true rfl, Nat.le_of_ble_eq_true rfl⟩ (fun mem141 H locs hq hP hS => ?_)
              have hD : va_D (Az sz) (fw n ad mem141) := fw_D hD
              obtain ⟨J142, hW143, hwr144⟩ := hq
              have kk145 : J142 1 = nI L := (show J142 1 = J9 1 from hwr144.2 1 (by decide) (by decide)).trans g16
              have kk146 : J142 24 = nI G := (show J142 24 = J9 24 from hwr144.2 24 (by decide) (by decide)).trans g17
              have kk147 : J142 16 = nI a1 := (show J142 16 = J9 16 from hwr144.2 16 (by decide) (by decide)).trans g18
              have kk148 : J142 14 = nI u := (show J142 14 = J9 14 from hwr144.2 14 (by decide) (by decide)).trans g20
              have kk149 : J142 4 = nI R := (show J142 4 = J9 4 from hwr144.2 4 (by decide) (by decide)).trans g21
              have kk150 : J142 7 = nI (Ec + 1) := (show J142 7 = J9 7 from hwr144.2 7 (by decide) (by decide)).trans g22
              have kk151 : J142 18 = nI (f + 1) := (show J142 18 = J9 18 from hwr144.2 18 (by decide) (by decide)).trans g23
              have kk152 : J142 28 = 0 := (show J142 28 = J9 28 from hwr144.2 28 (by decide) (by decide)).trans hz10.2
              refine lv_aload_n Bx.1 Bx.2.1 d_Mo_repetition_263 rfl (lv_at hl 0 rfl) ?_
              refine f_get Bx hP (by omega) hW143.1 rfl inMo 17 (by decide) kw_673 rfl rfl d_Mo_repetition_264 ?_
              refine lv_if_ne Bx.1 Bx.2.1 d_Mo_repetition_267 rfl (fun hb153 => ?_) (fun hb153 => ?_)
              · exact W.vret hx hb hr (fun t ht hW => ⟨⟨mem141, rfl, ⟨J142, A9, nm, hW143, Or.inl ⟨⟨kk145, kk146, hz12, hwr144.1, _, by omega, kk147⟩, rep_bad hdig hlt100 hr1 hr2 (Or.inr (Or.inr (Or.inr hb130)))⟩⟩, by show va_P _ _ _ t.heap; rw [ht]; exact hP⟩, hS.F ht⟩) hS.2.2 d_Mo_repetition_274
              · exact absurd hb153 hwr144.1.ne
      · refine lv_aload_n Bx.1 Bx.2.1 d_Mo_repetition_219 rfl (lv_at hl 0 rfl) ?_
        refine lv_iconst (v := 1) Bx.1 Bx.2.1 d_Mo_repetition_220 (by decide) ?_
        refine lv_iload_n Bx.1 Bx.2.1 d_Mo_repetition_221 rfl (lv_at hl 1 rfl) ?_
        refine f_callVv (na := 2) (As := [.int (1), .int (nI a)]) (rest := []) Bx hml E hP hD hS (by omega) hz11.1 rfl (m_Mo_wrong l hn hz11 (Or.inl g19) (by first | exact Or.inl rfl | exact Or.inr rfl)) kw_799 kw_801 sel_Mo_wrong kw_8 kw_802 (by decide +kernel) ⟨rfl, rfl⟩ ⟨Nat.le_of_ble_eq_true rfl, Nat.le_of_ble_eq_true rfl⟩ rfl hl.1 (Nat.le_of_ble_eq_true rfl) d_Mo_repetition_222 ⟨Nat.le_of_ble_eq_true rfl, Nat.le_of_ble_eq_true rfl⟩ (fun mem155 H locs hq hP hS => ?_)
        have hD : va_D (Az sz) (fw n ad mem155) := fw_D hD
        obtain ⟨J156, hW157, hwr158⟩ := hq
        have kk159 : J156 1 = nI L := (show J156 1 = J9 1 from hwr158.2 1 (by decide) (by decide)).trans g16
        have kk160 : J156 24 = nI G := (show J156 24 = J9 24 from hwr158.2 24 (by decide) (by decide)).trans g17
        have kk161 : J156 16 = nI a1 := (show J156 16 = J9 16 from hwr158.2 16 (by decide) (by decide)).trans g18
        have kk162 : J156 14 = nI u := (show J156 14 = J9 14 from hwr158.2 14 (by decide) (by decide)).trans g20
        have kk163 : J156 4 = nI R := (show J156 4 = J9 4 from hwr158.2 4 (by decide) (by decide)).trans g21
        have kk164 : J156 7 = nI (Ec + 1) := (show J156 7 = J9 7 from hwr158.2 7 (by decide) (by decide)).trans g22
        have kk165 : J156 18 = nI (f + 1) := (show J156 18 = J9 18 from hwr158.2 18 (by decide) (by decide)).trans g23
        have kk166 : J156 28 = 0 := (show J156 28 = J9 28 from hwr158.2 28 (by decide) (by decide)).trans hz10.2
        refine lv_aload_n Bx.1 Bx.2.1 d_Mo_repetition_225 rfl (lv_at hl 0 rfl) ?_
        refine f_callVi (na := 0) (As := []) (rest := []) Bx hml E hP hD hS (by omega) hW157.1 rfl (m_Mo_here l hn hW157 kk159 hL kk161 (by omega)) kw_778 kw_780 sel_Mo_here kw_8 kw_781 (by decide +kernel) ⟨rfl, rfl⟩ ⟨Nat.le_of_ble_eq_true rfl, Nat.le_of_ble_eq_true rfl⟩ rfl hl.1 (Nat.le_of_ble_eq_true rfl) d_Mo_repetition_226 ⟨Nat.le_of_ble_eq_true rfl, Nat.le_of_ble_eq_true rfl⟩ (fun r167 mem168 H locs hq hP hS => ?_)
        have hD : va_D (Az sz) (fw n ad mem168) := fw_D hD
        obtain ⟨hre, hq⟩ := hq
        rw [hq] at hP hD
        subst hre
        rw [show hereF L (A9 225) (a1) = hereF L T (a1) by rw [hz12]]
        refine f_callSi (na := 1) (As := [.int (hereF L T (a1))]) (rest := []) Bx hml E.2.1 (m_Mo_beginsX l (hereF L T (a1))) kw_811 kw_812 kw_8 kw_813 (by decide +kernel) ⟨rfl, rfl⟩ ⟨Nat.le_of_ble_eq_true rfl, Nat.le_of_ble_eq_true rfl⟩ rfl hl.1 (Nat.le_of_ble_eq_true rfl) d_Mo_repetition_229 ⟨Nat.le_of_ble_eq_true rfl, Nat.le_of_ble_eq_true rfl⟩ (fun r170 hs169 => ?_)
        subst hs169
        refine lv_if_eq Bx.1 Bx.2.1 d_Mo_repetition_232 rfl (fun hb171 => ?_) (fun hb171 => ?_)
        · refine lv_aload_n Bx.1 Bx.2.1 d_Mo_repetition_254 rfl (lv_at hl 0 rfl) ?_
          refine lv_iconst (v := 1) Bx.1 Bx.2.1 d_Mo_repetition_255 (by decide) ?_
          refine lv_aload_n Bx.1 Bx.2.1 d_Mo_repetition_256 rfl (lv_at hl 0 rfl) ?_
          refine f_get Bx hP (by omega) hW157.1 rfl inMo 16 (by decide) kw_672 rfl rfl d_Mo_repetition_257 ?_
          rw [kk161]
          refine f_callVv (na := 2) (As := [.int (1), .int (nI a1)]) (rest := []) Bx hml E hP hD hS (by omega) hW157.1 rfl (m_Mo_wrong l hn hW157 (Or.inr hwr158.1) (by first | exact Or.inl rfl | exact Or.inr rfl)) kw_799 kw_801 sel_Mo_wrong kw_8 kw_802 (by decide +kernel) ⟨rfl, rfl⟩ ⟨Nat.le_of_ble_eq_true rfl, Nat.le_of_ble_eq_true rfl⟩ rfl hl.1 (Nat.le_of_ble_eq_true rfl) d_Mo_repetition_260 ⟨Nat.le_of_ble_eq_true rfl, Nat.le_of_ble_eq_true rfl⟩ (fun mem173 H locs hq hP hS => ?_)
          have hD : va_D (Az sz) (fw n ad mem173) := fw_D hD
          obtain ⟨J174, hW175, hwr176⟩ := hq
          have kk177 : J174 1 = nI L := (show J174 1 = J156 1 from hwr176.2 1 (by decide) (by decide)).trans kk159
          have kk178 : J174 24 = nI G := (show J174 24 = J156 24 from hwr176.2 24 (by decide) (by decide)).trans kk160
          have kk179 : J174 16 = nI a1 := (show J174 16 = J156 16 from hwr176.2 16 (by decide) (by decide)).trans kk161
          have kk180 : J174 14 = nI u := (show J174 14 = J156 14 from hwr176.2 14 (by decide) (by decide)).trans kk162
          have kk181 : J174 4 = nI R := (show J174 4 = J156 4 from hwr176.2 4 (by decide) (by decide)).trans kk163
          have kk182 : J174 7 = nI (Ec + 1) := (show J174 7 = J156 7 from hwr176.2 7 (by decide) (by decide)).trans kk164
          have kk183 : J174 18 = nI (f + 1) := (show J174 18 = J156 18 from hwr176.2 18 (by decide) (by decide)).trans kk165
          have kk184 : J174 28 = 0 := (show J174 28 = J156 28 from hwr176.2 28 (by decide) (by decide)).trans kk166
          refine lv_aload_n Bx.1 Bx.2.1 d_Mo_repetition_263 rfl (lv_at hl 0 rfl) ?_
          refine f_get Bx hP (by omega) hW175.1 rfl inMo 17 (by decide) kw_673 rfl rfl d_Mo_repetition_264 ?_
          refine lv_if_ne Bx.1 Bx.2.1 d_Mo_repetition_267 rfl (fun hb185 => ?_) (fun hb185 => ?_)
          · exact W.vret hx hb hr (fun t ht hW => ⟨⟨mem173, rfl, ⟨J174, A9, nm, hW175, Or.inl ⟨⟨kk177, kk178, hz12, hwr176.1, _, by omega, kk179⟩, rep_bad hdig hlt100 hr1 hr2 (Or.inl ⟨hb24, Int32.not_le.mp hb89⟩)⟩⟩, by show va_P _ _ _ t.heap; rw [ht]; exact hP⟩, hS.F ht⟩) hS.2.2 d_Mo_repetition_274
          · exact absurd hb185 hwr176.1.ne
        · refine lv_aload_n Bx.1 Bx.2.1 d_Mo_repetition_235 rfl (lv_at hl 0 rfl) ?_
          refine f_callVi (na := 0) (As := []) (rest := []) Bx hml E hP hD hS (by omega) hW157.1 rfl (m_Mo_here l hn hW157 kk159 hL kk161 (by omega)) kw_778 kw_780 sel_Mo_here kw_8 kw_781 (by decide +kernel) ⟨rfl, rfl⟩ ⟨Nat.le_of_ble_eq_true rfl, Nat.le_of_ble_eq_true rfl⟩ rfl hl.1 (Nat.le_of_ble_eq_true rfl) d_Mo_repetition_236 ⟨Nat.le_of_ble_eq_true rfl, Nat.le_of_ble_eq_true rfl⟩ (fun r186 mem187 H locs hq hP hS => ?_)
          have hD : va_D (Az sz) (fw n ad mem187) := fw_D hD
          obtain ⟨hre, hq⟩ := hq
          rw [hq] at hP hD
          subst hre
          rw [show hereF L (A9 225) (a1) = hereF L T (a1) by rw [hz12]]
          refine f_callSi (na := 1) (As := [.int (hereF L T (a1))]) (rest := []) Bx hml E.2.1 (m_Mo_digit l (hereF L T (a1))) kw_793 kw_794 kw_8 kw_795 (by decide +kernel) ⟨rfl, rfl⟩ ⟨Nat.le_of_ble_eq_true rfl, Nat.le_of_ble_eq_true rfl⟩ rfl hl.1 (Nat.le_of_ble_eq_true rfl) d_Mo_repetition_239 ⟨Nat.le_of_ble_eq_true rfl, Nat.le_of_ble_eq_true rfl⟩ (fun r189 hs188 => ?_)
          have hs188 : _ = dgF (hereF L T (a1)) := hs188
          subst hs188
          refine lv_if_ne Bx.1 Bx.2.1 d_Mo_repetition_242 rfl (fun hb190 => ?_) (fun hb190 => ?_)
          · refine lv_aload_n Bx.1 Bx.2.1 d_Mo_repetition_254 rfl (lv_at hl 0 rfl) ?_
            refine lv_iconst (v := 1) Bx.1 Bx.2.1 d_Mo_repetition_255 (by decide) ?_
            refine lv_aload_n Bx.1 Bx.2.1 d_Mo_repetition_256 rfl (lv_at hl 0 rfl) ?_
            refine f_get Bx hP (by omega) hW157.1 rfl inMo 16 (by decide) kw_672 rfl rfl d_Mo_repetition_257 ?_
            rw [kk161]
            refine f_callVv (na := 2) (As := [.int (1), .int (nI a1)]) (rest := []) Bx hml E hP hD hS (by omega) hW157.1 rfl (m_Mo_wrong l hn hW157 (Or.inr hwr158.1) (by first | exact Or.inl rfl | exact Or.inr rfl)) kw_799 kw_801 sel_Mo_wrong kw_8 kw_802 (by decide +kernel) ⟨rfl, rfl⟩ ⟨Nat.le_of_ble_eq_true rfl, Nat.le_of_ble_eq_true rfl⟩ rfl hl.1 (Nat.le_of_ble_eq_true rfl) d_Mo_repetition_260 ⟨Nat.le_of_ble_eq_true rfl, Nat.le_of_ble_eq_true rfl⟩ (fun mem192 H locs hq hP hS => ?_)
            have hD : va_D (Az sz) (fw n ad mem192) := fw_D hD
            obtain ⟨J193, hW194, hwr195⟩ := hq
            have kk196 : J193 1 = nI L := (show J193 1 = J156 1 from hwr195.2 1 (by decide) (by decide)).trans kk159
            have kk197 : J193 24 = nI G := (show J193 24 = J156 24 from hwr195.2 24 (by decide) (by decide)).trans kk160
            have kk198 : J193 16 = nI a1 := (show J193 16 = J156 16 from hwr195.2 16 (by decide) (by decide)).trans kk161
            have kk199 : J193 14 = nI u := (show J193 14 = J156 14 from hwr195.2 14 (by decide) (by decide)).trans kk162
            have kk200 : J193 4 = nI R := (show J193 4 = J156 4 from hwr195.2 4 (by decide) (by decide)).trans kk163
            have kk201 : J193 7 = nI (Ec + 1) := (show J193 7 = J156 7 from hwr195.2 7 (by decide) (by decide)).trans kk164
            have kk202 : J193 18 = nI (f + 1) := (show J193 18 = J156 18 from hwr195.2 18 (by decide) (by decide)).trans kk165
            have kk203 : J193 28 = 0 := (show J193 28 = J156 28 from hwr195.2 28 (by decide) (by decide)).trans kk166
            refine lv_aload_n Bx.1 Bx.2.1 d_Mo_repetition_263 rfl (lv_at hl 0 rfl) ?_
            refine f_get Bx hP (by omega) hW194.1 rfl inMo 17 (by decide) kw_673 rfl rfl d_Mo_repetition_264 ?_
            refine lv_if_ne Bx.1 Bx.2.1 d_Mo_repetition_267 rfl (fun hb204 => ?_) (fun hb204 => ?_)
            · exact W.vret hx hb hr (fun t ht hW => ⟨⟨mem192, rfl, ⟨J193, A9, nm, hW194, Or.inl ⟨⟨kk196, kk197, hz12, hwr195.1, _, by omega, kk198⟩, rep_bad hdig hlt100 hr1 hr2 (Or.inl ⟨hb24, Int32.not_le.mp hb89⟩)⟩⟩, by show va_P _ _ _ t.heap; rw [ht]; exact hP⟩, hS.F ht⟩) hS.2.2 d_Mo_repetition_274
            · exact absurd hb204 hwr195.1.ne
          · refine lv_aload_n Bx.1 Bx.2.1 d_Mo_repetition_245 rfl (lv_at hl 0 rfl) ?_
            refine f_callVi (na := 0) (As := []) (rest := []) Bx hml E hP hD hS (by omega) hW157.1 rfl (m_Mo_here l hn hW157 kk159 hL kk161 (by omega)) kw_778 kw_780 sel_Mo_here kw_8 kw_781 (by decide +kernel) ⟨rfl, rfl⟩ ⟨Nat.le_of_ble_eq_true rfl, Nat.le_of_ble_eq_true rfl⟩ rfl hl.1 (Nat.le_of_ble_eq_true rfl) d_Mo_repetition_246 ⟨Nat.le_of_ble_eq_true rfl, Nat.le_of_ble_eq_true rfl⟩ (fun r205 mem206 H locs hq hP hS => ?_)
            have hD : va_D (Az sz) (fw n ad mem206) := fw_D hD
            obtain ⟨hre, hq⟩ := hq
            rw [hq] at hP hD
            subst hre
            rw [show hereF L (A9 225) (a1) = hereF L T (a1) by rw [hz12]]
            refine lv_bipush (v := 42) Bx.1 Bx.2.1 d_Mo_repetition_249 (by decide) ?_
            refine lv_icmp_ne Bx.1 Bx.2.1 d_Mo_repetition_251 rfl (fun hb207 => ?_) (fun hb207 => ?_)
            · refine lv_aload_n Bx.1 Bx.2.1 d_Mo_repetition_263 rfl (lv_at hl 0 rfl) ?_
              refine f_get Bx hP (by omega) hW157.1 rfl inMo 17 (by decide) kw_673 rfl rfl d_Mo_repetition_264 ?_
              refine lv_if_ne Bx.1 Bx.2.1 d_Mo_repetition_267 rfl (fun hb208 => ?_) (fun hb208 => ?_)
              · exact W.vret hx hb hr (fun t ht hW => ⟨⟨mem155, rfl, ⟨J156, A9, nm, hW157, Or.inl ⟨⟨kk159, kk160, hz12, hwr158.1, _, by omega, kk161⟩, rep_bad hdig hlt100 hr1 hr2 (Or.inl ⟨hb24, Int32.not_le.mp hb89⟩)⟩⟩, by show va_P _ _ _ t.heap; rw [ht]; exact hP⟩, hS.F ht⟩) hS.2.2 d_Mo_repetition_274
              · exact absurd hb208 hwr158.1.ne
            · have hlt209 := hereF_lt (by rw [hb207]; decide)
              refine lv_aload_n Bx.1 Bx.2.1 d_Mo_repetition_254 rfl (lv_at hl 0 rfl) ?_
              refine lv_iconst (v := 1) Bx.1 Bx.2.1 d_Mo_repetition_255 (by decide) ?_
              refine lv_aload_n Bx.1 Bx.2.1 d_Mo_repetition_256 rfl (lv_at hl 0 rfl) ?_
              refine f_get Bx hP (by omega) hW157.1 rfl inMo 16 (by decide) kw_672 rfl rfl d_Mo_repetition_257 ?_
              rw [kk161]
              refine f_callVv (na := 2) (As := [.int (1), .int (nI a1)]) (rest := []) Bx hml E hP hD hS (by omega) hW157.1 rfl (m_Mo_wrong l hn hW157 (Or.inr hwr158.1) (by first | exact Or.inl rfl | exact Or.inr rfl)) kw_799 kw_801 sel_Mo_wrong kw_8 kw_802 (by decide +kernel) ⟨rfl, rfl⟩ ⟨Nat.le_of_ble_eq_true rfl, Nat.le_of_ble_eq_true rfl⟩ rfl hl.1 (Nat.le_of_ble_eq_true rfl) d_Mo_repetition_260 ⟨Nat.le_of_ble_eq_true rfl, Nat.le_of_ble_eq_true rfl⟩ (fun mem211 H locs hq hP hS => ?_)
              have hD : va_D (Az sz) (fw n ad mem211) := fw_D hD
              obtain ⟨J212, hW213, hwr214⟩ := hq
              have kk215 : J212 1 = nI L := (show J212 1 = J156 1 from hwr214.2 1 (by decide) (by decide)).trans kk159
              have kk216 : J212 24 = nI G := (show J212 24 = J156 24 from hwr214.2 24 (by decide) (by decide)).trans kk160
              have kk217 : J212 16 = nI a1 := (show J212 16 = J156 16 from hwr214.2 16 (by decide) (by decide)).trans kk161
              have kk218 : J212 14 = nI u := (show J212 14 = J156 14 from hwr214.2 14 (by decide) (by decide)).trans kk162
              have kk219 : J212 4 = nI R := (show J212 4 = J156 4 from hwr214.2 4 (by decide) (by decide)).trans kk163
              have kk220 : J212 7 = nI (Ec + 1) := (show J212 7 = J156 7 from hwr214.2 7 (by decide) (by decide)).trans kk164
              have kk221 : J212 18 = nI (f + 1) := (show J212 18 = J156 18 from hwr214.2 18 (by decide) (by decide)).trans kk165
              have kk222 : J212 28 = 0 := (show J212 28 = J156 28 from hwr214.2 28 (by decide) (by decide)).trans kk166
              refine lv_aload_n Bx.1 Bx.2.1 d_Mo_repetition_263 rfl (lv_at hl 0 rfl) ?_
              refine f_get Bx hP (by omega) hW213.1 rfl inMo 17 (by decide) kw_673 rfl rfl d_Mo_repetition_264 ?_
              refine lv_if_ne Bx.1 Bx.2.1 d_Mo_repetition_267 rfl (fun hb223 => ?_) (fun hb223 => ?_)
              · exact W.vret hx hb hr (fun t ht hW => ⟨⟨mem211, rfl, ⟨J212, A9, nm, hW213, Or.inl ⟨⟨kk215, kk216, hz12, hwr214.1, _, by omega, kk217⟩, rep_bad hdig hlt100 hr1 hr2 (Or.inl ⟨hb24, Int32.not_le.mp hb89⟩)⟩⟩, by show va_P _ _ _ t.heap; rw [ht]; exact hP⟩, hS.F ht⟩) hS.2.2 d_Mo_repetition_274
              · exact absurd hb223 hwr214.1.ne
  refine lv_aload_n Bx.1 Bx.2.1 d_Mo_repetition_0 rfl (lv_at hl 0 rfl) ?_
  refine f_get Bx hP (by omega) hM.1 rfl inMo 16 (by decide) kw_672 rfl rfl d_Mo_repetition_1 ?_
  rw [g3]
  refine lv_istore_n (lv' := [(1, .int (nI a)), (0, .ref (ad 224))]) Bx.1 Bx.2.1 d_Mo_repetition_4 rfl hl (by decide) rfl (fun ls hl => ?_)
  refine lv_aload_n Bx.1 Bx.2.1 d_Mo_repetition_5 rfl (lv_at hl 1 rfl) ?_
  refine f_get Bx hP (by omega) hM.1 rfl inMo 18 (by decide) kw_674 rfl rfl d_Mo_repetition_6 ?_
  rw [g8]
  refine lv_iconst (v := 1) Bx.1 Bx.2.1 d_Mo_repetition_9 (by decide) ?_
  refine lv_isub Bx.1 Bx.2.1 d_Mo_repetition_10 ?_
  rw [show nI (f + 1) - 1 = nI (f) from nI_pred (f)]
  refine lv_istore_n (lv' := [(2, .int (nI (f))), (1, .int (nI a)), (0, .ref (ad 224))]) Bx.1 Bx.2.1 d_Mo_repetition_11 rfl hl (by decide) rfl (fun ls hl => ?_)
  refine lv_aload_n Bx.1 Bx.2.1 d_Mo_repetition_12 rfl (lv_at hl 2 rfl) ?_
  refine f_callVi (na := 0) (As := []) (rest := []) Bx hml E hP hD hS (by omega) hM.1 rfl (m_Mo_here l hn hM g1 hL g3 (by omega)) kw_778 kw_780 sel_Mo_here kw_8 kw_781 (by decide +kernel) ⟨rfl, rfl⟩ ⟨Nat.le_of_ble_eq_true rfl, Nat.le_of_ble_eq_true rfl⟩ rfl hl.1 (Nat.le_of_ble_eq_true rfl) d_Mo_repetition_13 ⟨Nat.le_of_ble_eq_true rfl, Nat.le_of_ble_eq_true rfl⟩ (fun r224 mem225 H locs hq hP hS => ?_)
  have hD : va_D (Az sz) (fw n ad mem225) := fw_D hD
  obtain ⟨hre, hq⟩ := hq
  rw [hq] at hP hD
  subst hre
  rw [show hereF L (A 225) (a) = hereF L T (a) by rw [hT]]
  refine f_callSi (na := 1) (As := [.int (hereF L T (a))]) (rest := []) Bx hml E.2.1 (m_Mo_digit l (hereF L T (a))) kw_793 kw_794 kw_8 kw_795 (by decide +kernel) ⟨rfl, rfl⟩ ⟨Nat.le_of_ble_eq_true rfl, Nat.le_of_ble_eq_true rfl⟩ rfl hl.1 (Nat.le_of_ble_eq_true rfl) d_Mo_repetition_16 ⟨Nat.le_of_ble_eq_true rfl, Nat.le_of_ble_eq_true rfl⟩ (fun r227 hs226 => ?_)
  have hs226 : _ = dgF (hereF L T (a)) := hs226
  subst hs226
  refine lv_if_ne Bx.1 Bx.2.1 d_Mo_repetition_19 rfl (fun hb228 => ?_) (fun hb228 => ?_)
  · refine lv_aload_n Bx.1 Bx.2.1 d_Mo_repetition_31 rfl (lv_at hl 2 rfl) ?_
    refine lv_iconst (v := 2) Bx.1 Bx.2.1 d_Mo_repetition_32 (by decide) ?_
    refine lv_iload_n Bx.1 Bx.2.1 d_Mo_repetition_33 rfl (lv_at hl 1 rfl) ?_
    refine f_callVi (na := 2) (As := [.int (2), .int (nI a)]) (rest := []) Bx hml E hP hD hS (by omega) hM.1 rfl (m_Mo_elementX l hn hM (Or.inl g4) g7 (by omega)) kw_814 kw_816 sel_Mo_element kw_8 kw_817 (by decide +kernel) ⟨rfl, rfl⟩ ⟨Nat.le_of_ble_eq_true rfl, Nat.le_of_ble_eq_true rfl⟩ rfl hl.1 (Nat.le_of_ble_eq_true rfl) d_Mo_repetition_34 ⟨Nat.le_of_ble_eq_true rfl, Nat.le_of_ble_eq_true rfl⟩ (fun r229 mem230 H locs hq hP hS => ?_)
    have hD : va_D (Az sz) (fw n ad mem230) := fw_D hD
    rcases hq with ⟨hE238, hre239, J231, hW232, hwr233⟩ | ⟨hEl234, hre240, hW237⟩
    · subst hre239
      have kk241 : J231 1 = nI L := (show J231 1 = J 1 from hwr233.2 1 (by decide) (by decide)).trans g1
      have kk242 : J231 24 = nI G := (show J231 24 = J 24 from hwr233.2 24 (by decide) (by decide)).trans g2
      have kk243 : J231 16 = nI a := (show J231 16 = J 16 from hwr233.2 16 (by decide) (by decide)).trans g3
      have kk244 : J231 14 = nI u := (show J231 14 = J 14 from hwr233.2 14 (by decide) (by decide)).trans g5
      have kk245 : J231 4 = nI R := (show J231 4 = J 4 from hwr233.2 4 (by decide) (by decide)).trans g6
      have kk246 : J231 7 = nI Ec := (show J231 7 = J 7 from hwr233.2 7 (by decide) (by decide)).trans g7
      have kk247 : J231 18 = nI (f + 1) := (show J231 18 = J 18 from hwr233.2 18 (by decide) (by decide)).trans g8
      have kk248 : J231 28 = 0 := (show J231 28 = J 28 from hwr233.2 28 (by decide) (by decide)).trans hp
      refine lv_istore_n (lv' := [(3, .int (0)), (2, .int (nI (f))), (1, .int (nI a)), (0, .ref (ad 224))]) Bx.1 Bx.2.1 d_Mo_repetition_37 rfl hl (by decide) rfl (fun ls hl => ?_)
      refine lv_aload_n Bx.1 Bx.2.1 d_Mo_repetition_38 rfl (lv_at hl 3 rfl) ?_
      refine f_get Bx hP (by omega) hW232.1 rfl inMo 17 (by decide) kw_673 rfl rfl d_Mo_repetition_39 ?_
      refine lv_if_le Bx.1 Bx.2.1 d_Mo_repetition_42 rfl (fun hb249 => ?_) (fun hb249 => ?_)
      · exact absurd hb249 hwr233.1.nle
      · exact W.vret hx hb hr (fun t ht hW => ⟨⟨mem230, rfl, ⟨J231, A, nm, hW232, Or.inl ⟨⟨kk241, kk242, hT, hwr233.1, _, by omega, kk243⟩, rep_E (Or.inl hb228) hE238⟩⟩, by show va_P _ _ _ t.heap; rw [ht]; exact hP⟩, hS.F ht⟩) hS.2.2 d_Mo_repetition_45
    · subst hre240
      obtain ⟨J235, eJ235⟩ : ∃ z, z = va_up J 7 (nI (Ec + 1)) := ⟨_, rfl⟩
      obtain ⟨A236, eA236⟩ : ∃ z, z = elA A (Ec) 2 := ⟨_, rfl⟩
      rw [← eJ235, ← eA236] at hW237
      have kk250 : J235 1 = nI L := (show J235 1 = J 1 from by rw [eJ235]; rfl).trans g1
      have kk251 : J235 24 = nI G := (show J235 24 = J 24 from by rw [eJ235]; rfl).trans g2
      have kk252 : J235 16 = nI a := (show J235 16 = J 16 from by rw [eJ235]; rfl).trans g3
      have kk253 : J235 17 = 0 := (show J235 17 = J 17 from by rw [eJ235]; rfl).trans g4
      have kk254 : J235 14 = nI u := (show J235 14 = J 14 from by rw [eJ235]; rfl).trans g5
      have kk255 : J235 4 = nI R := (show J235 4 = J 4 from by rw [eJ235]; rfl).trans g6
      have kk256 : J235 18 = nI (f + 1) := (show J235 18 = J 18 from by rw [eJ235]; rfl).trans g8
      have kk257 : J235 28 = 0 := (show J235 28 = J 28 from by rw [eJ235]; rfl).trans hp
      have kk258 : J235 7 = nI (Ec + 1) := by rw [eJ235, va_up_self]
      have tT259 : A236 225 = T := by rw [eA236]; exact hT
      refine lv_istore_n (lv' := [(3, .int (nI Ec)), (2, .int (nI (f))), (1, .int (nI a)), (0, .ref (ad 224))]) Bx.1 Bx.2.1 d_Mo_repetition_37 rfl hl (by decide) rfl (fun ls hl => ?_)
      refine lv_aload_n Bx.1 Bx.2.1 d_Mo_repetition_38 rfl (lv_at hl 3 rfl) ?_
      refine f_get Bx hP (by omega) hW237.1 rfl inMo 17 (by decide) kw_673 rfl rfl d_Mo_repetition_39 ?_
      rw [kk253]
      refine lv_if_le Bx.1 Bx.2.1 d_Mo_repetition_42 rfl (fun hb260 => ?_) (fun hb260 => ?_)
      · refine lv_aload_n Bx.1 Bx.2.1 d_Mo_repetition_46 rfl (lv_at hl 3 rfl) ?_
        refine lv_aload_n Bx.1 Bx.2.1 d_Mo_repetition_47 rfl (lv_at hl 3 rfl) ?_
        refine f_get Bx hP (by omega) hW237.1 rfl inMo 22 (by decide) kw_678 rfl rfl d_Mo_repetition_48 ?_
        refine lv_iload_n Bx.1 Bx.2.1 d_Mo_repetition_51 rfl (lv_at hl 1 rfl) ?_
        refine f_iald Bx hP (by omega) (show mem230 238 = .inl (cy 1, 8, .inl (A236 238)) from hW237.2.2.1 238 (by decide) (by decide) (by decide)) (vp_in_nI (n := f) (by omega) (by decide)) d_Mo_repetition_52 ?_
        rw [nI_clamp (n := f) (by omega)]
        rw [show A236 238 (f) = nI (fs f) by simp [eA236, elA, va_up]; exact hfs.1]
        refine lv_iload_n Bx.1 Bx.2.1 d_Mo_repetition_53 rfl (lv_at hl 0 rfl) ?_
        have hkd263 : A236 228 (Ec) = 2 := by simp [eA236, elA, va_up, upd]
        obtain ⟨hnx261, hcl262⟩ := hI.ext (A' := A236) ⟨fun j h1 h2 h3 k hk => by
            have hj : j = 228 ∨ j = 229 ∨ j = 230 ∨ j = 232 ∨ j = 233 := by omega
            rcases hj with rfl | rfl | rfl | rfl | rfl <;> simp [eA236, elA, va_up, upd, Nat.ne_of_lt hk], by simp [eA236, elA, va_up], fun j h1 h2 => by
            have hj : j = 235 ∨ j = 236 ∨ j = 237 ∨ j = 238 ∨ j = 239 := by omega
            rcases hj with rfl | rfl | rfl | rfl | rfl <;> simp [eA236, elA, va_up], by simp [eA236, elA, va_up, upd], by simp [eA236, elA, va_up, upd]⟩ (Nat.le_refl u) (fun z => absurd (hkd263.symm.trans z) (by decide)) (fun z => absurd (hkd263.symm.trans z) (by decide)) (fun k z => z.elim)
        have hrr264 : A236 239 f = -1 ∨ ∃ r, A236 239 f = nI r ∧ fs f < r ∧ r < Ec := by rw [show A236 239 = A 239 by simp [eA236, elA, va_up]]; exact hrr0
        refine f_callVv (na := 2) (As := [.int (nI (fs f)), .int (nI Ec)]) (rest := []) Bx hml E hP hD hS (by omega) hW237.1 rfl (m_Mo_appendX l hn hW237 (to := fs f) (pa := Ec) (show Ec + 1 ≤ 100 by omega) (show fs f < Ec by omega) (Nat.lt_succ_self Ec) hnx261.1 hcl262) kw_822 kw_824 sel_Mo_append kw_8 kw_825 (by decide +kernel) ⟨rfl, rfl⟩ ⟨Nat.le_of_ble_eq_true rfl, Nat.le_of_ble_eq_true rfl⟩ rfl hl.1 (Nat.le_of_ble_eq_true rfl) d_Mo_repetition_54 ⟨Nat.le_of_ble_eq_true rfl, Nat.le_of_ble_eq_true rfl⟩ (fun mem266 H locs hq hP hS => ?_)
        have hD : va_D (Az sz) (fw n ad mem266) := fw_D hD
        obtain ⟨hW268, hap269⟩ := hq
        obtain ⟨A267, eA267⟩ : ∃ z, z = appS A236 (fs f) (Ec) := ⟨_, rfl⟩
        rw [← eA267] at hW268 hap269
        have tT270 : A267 225 = T := by
          obtain ⟨_, _, _, k3, _⟩ := hap269.at
          rw [k3 225 (by decide) (by decide)]; exact tT259
        refine lv_aload_n Bx.1 Bx.2.1 d_Mo_repetition_57 rfl (lv_at hl 3 rfl) ?_
        refine f_get Bx hP (by omega) hW268.1 rfl inMo 23 (by decide) kw_679 rfl rfl d_Mo_repetition_58 ?_
        refine lv_iload_n Bx.1 Bx.2.1 d_Mo_repetition_61 rfl (lv_at hl 1 rfl) ?_
        refine lv_iload_n Bx.1 Bx.2.1 d_Mo_repetition_62 rfl (lv_at hl 0 rfl) ?_
        refine f_iast (x := nI Ec) (i := nI (f)) Bx hP hD hS (by omega) (show mem266 239 = .inl (cy 1, 8, .inl (A267 239)) from hW268.2.2.1 239 (by decide) (by decide) (by decide)) (vp_in_nI (n := f) (by omega) (by decide)) d_Mo_repetition_63 (fun H locs hP hS => ?_)
        rw [nI_clamp (n := f) (by omega)] at hP
        obtain ⟨A271, eA271⟩ : ∃ z, z = va_up A267 239 (upd (A267 239) (f) (nI Ec)) := ⟨_, rfl⟩
        obtain ⟨mem272, e_mem272⟩ : ∃ z, z = va_up mem266 239 (.inl (cy 1, 8, .inl (upd (A267 239) (f) (nI Ec)))) := ⟨_, rfl⟩
        have hP : va_P D vcl (fw n ad mem272) H := by rw [e_mem272]; exact hP
        have hD : va_D (Az sz) (fw n ad mem272) := fw_D hD
        have hW273 : MW cy ad J235 A271 nm m0 mem272 := by rw [e_mem272, eA271]; exact hW268.upA (j := 239) (by decide) (by decide) (by decide) (Or.inl (by decide))
        have tT274 : A271 225 = T := by rw [eA271]; exact tT270
        obtain ⟨hin5, h95⟩ := hnx261.place (by omega) hap269 (Nat.lt_succ_self Ec) (by omega) (by omega) (v := nI Ec) (Or.inr ⟨Ec, rfl, by omega, by omega⟩) (X' := fun _ => False) (fun k _ z => Or.inr (Or.inr (by rw [(z.resolve_left id).1]))) (fun r hr z => absurd (show nI r = -1 by rw [← z, show A236 239 = A 239 by simp [eA236, elA, va_up]]; exact h39) (nI_m (by omega))) eA271
        have hk5 : A271 228 Ec = 2 := by
          obtain ⟨_, _, _, k3, _⟩ := hap269.at
          rw [eA271]
          show A267 228 Ec = 2
          rw [k3 228 (by decide) (by decide)]; exact hkd263
        have hrA : A271 = repA A f Ec := by
          have q9 : (elA A Ec 2 238 f).toNatClampNeg = fs f := by rw [show elA A Ec 2 238 f = nI (fs f) from hfs.1, nI_clamp (n := fs f) (by omega)]
          unfold repA
          simp only []
          rw [q9, eA271, eA267, eA236]
        refine lv_aload_n Bx.1 Bx.2.1 d_Mo_repetition_64 rfl (lv_at hl 3 rfl) ?_
        refine f_callVi (na := 0) (As := []) (rest := []) Bx hml E hP hD hS (by omega) hW273.1 rfl (m_Mo_here l hn hW273 kk250 hL kk252 (by omega)) kw_778 kw_780 sel_Mo_here kw_8 kw_781 (by decide +kernel) ⟨rfl, rfl⟩ ⟨Nat.le_of_ble_eq_true rfl, Nat.le_of_ble_eq_true rfl⟩ rfl hl.1 (Nat.le_of_ble_eq_true rfl) d_Mo_repetition_65 ⟨Nat.le_of_ble_eq_true rfl, Nat.le_of_ble_eq_true rfl⟩ (fun r275 mem276 H locs hq hP hS => ?_)
        have hD : va_D (Az sz) (fw n ad mem276) := fw_D hD
        obtain ⟨hre, hq⟩ := hq
        rw [hq] at hP hD
        subst hre
        rw [show hereF L (A271 225) (a) = hereF L T (a) by rw [tT274]]
        refine f_callSi (na := 1) (As := [.int (hereF L T (a))]) (rest := []) Bx hml E.2.1 (m_Mo_digit l (hereF L T (a))) kw_793 kw_794 kw_8 kw_795 (by decide +kernel) ⟨rfl, rfl⟩ ⟨Nat.le_of_ble_eq_true rfl, Nat.le_of_ble_eq_true rfl⟩ rfl hl.1 (Nat.le_of_ble_eq_true rfl) d_Mo_repetition_68 ⟨Nat.le_of_ble_eq_true rfl, Nat.le_of_ble_eq_true rfl⟩ (fun r278 hs277 => ?_)
        have hs277 : _ = dgF (hereF L T (a)) := hs277
        subst hs277
        refine lv_istore (lv' := [(4, .int (dgF (hereF L T (a)))), (3, .int (nI Ec)), (2, .int (nI (f))), (1, .int (nI a)), (0, .ref (ad 224))]) Bx.1 Bx.2.1 d_Mo_repetition_71 hl (by decide) rfl (fun ls hl => ?_)
        refine lv_aload_n Bx.1 Bx.2.1 d_Mo_repetition_73 rfl (lv_at hl 4 rfl) ?_
        refine f_get Bx hP (by omega) hW273.1 rfl inMo 9 (by decide) kw_665 rfl rfl d_Mo_repetition_74 ?_
        refine lv_iload_n Bx.1 Bx.2.1 d_Mo_repetition_77 rfl (lv_at hl 1 rfl) ?_
        refine lv_iload Bx.1 Bx.2.1 d_Mo_repetition_78 (lv_at hl 0 rfl) ?_
        refine lv_if_eq Bx.1 Bx.2.1 d_Mo_repetition_80 rfl (fun hb279 => ?_) (fun hb279 => ?_)
        · rw [hb279] at hl
          refine lv_iconst (v := 0) Bx.1 Bx.2.1 d_Mo_repetition_93 (by decide) ?_
          refine f_iast (x := 0) (i := nI (Ec)) Bx hP hD hS (by omega) (show mem272 229 = .inl (cy 1, 100, .inl (A271 229)) from hW273.2.2.1 229 (by decide) (by decide) (by decide)) (vp_in_nI (n := Ec) (by omega) (by decide)) d_Mo_repetition_94 (fun H locs hP hS => ?_)
          rw [nI_clamp (n := Ec) (by omega)] at hP
          obtain ⟨A280, eA280⟩ : ∃ z, z = va_up A271 229 (upd (A271 229) (Ec) (0)) := ⟨_, rfl⟩
          obtain ⟨mem281, e_mem281⟩ : ∃ z, z = va_up mem272 229 (.inl (cy 1, 100, .inl (upd (A271 229) (Ec) (0)))) := ⟨_, rfl⟩
          have hP : va_P D vcl (fw n ad mem281) H := by rw [e_mem281]; exact hP
          have hD : va_D (Az sz) (fw n ad mem281) := fw_D hD
          have hW282 : MW cy ad J235 A280 nm m0 mem281 := by rw [e_mem281, eA280]; exact hW273.upA (j := 229) (by decide) (by decide) (by decide) (Or.inl (by decide))
          have tT283 : A280 225 = T := by rw [eA280]; exact tT274
          refine lv_aload_n Bx.1 Bx.2.1 d_Mo_repetition_95 rfl (lv_at hl 4 rfl) ?_
          refine lv_dup Bx.1 Bx.2.1 d_Mo_repetition_96 rfl ?_
          refine f_get Bx hP (by omega) hW282.1 rfl inMo 16 (by decide) kw_672 rfl rfl d_Mo_repetition_97 ?_
          rw [kk252]
          refine lv_iload Bx.1 Bx.2.1 d_Mo_repetition_100 (lv_at hl 0 rfl) ?_
          refine lv_if_eq Bx.1 Bx.2.1 d_Mo_repetition_102 rfl (fun hb284 => ?_) (fun hb284 => ?_)
          · refine lv_iconst (v := 0) Bx.1 Bx.2.1 d_Mo_repetition_109 (by decide) ?_
            refine lv_iadd Bx.1 Bx.2.1 d_Mo_repetition_110 ?_
            rw [show nI a + 0 = nI (a + 0) from nI_add (a) (0)]
            refine f_put Bx hP hD hS (by omega) hW282.1 rfl inMo tyMo okMo nmMo 16 (by decide) kw_672 rfl rfl rfl rfl (Nat.le_of_ble_eq_true rfl) d_Mo_repetition_111 (fun H locs hP hS => ?_)
            obtain ⟨J285, eJ285⟩ : ∃ z, z = va_up J235 16 (nI (a + 0)) := ⟨_, rfl⟩
            obtain ⟨mem286, e_mem286⟩ : ∃ z, z = va_up mem281 224 (moC ad J285) := ⟨_, rfl⟩
            have hP : va_P D vcl (fw n ad mem286) H := by rw [e_mem286, eJ285]; exact hP
            have hD : va_D (Az sz) (fw n ad mem286) := fw_D hD
            have hW287 : MW cy ad J285 A280 nm m0 mem286 := by rw [e_mem286]; exact hW282.upJ (by rw [eJ285]; exact va_up_ne _ _ (by decide))
            have kk288 : J285 1 = nI L := by rw [eJ285]; exact kk250
            have kk289 : J285 24 = nI G := by rw [eJ285]; exact kk251
            have kk290 : J285 17 = 0 := by rw [eJ285]; exact kk253
            have kk291 : J285 14 = nI u := by rw [eJ285]; exact kk254
            have kk292 : J285 4 = nI R := by rw [eJ285]; exact kk255
            have kk293 : J285 18 = nI (f + 1) := by rw [eJ285]; exact kk256
            have kk294 : J285 28 = 0 := by rw [eJ285]; exact kk257
            have kk295 : J285 7 = nI (Ec + 1) := by rw [eJ285]; exact kk258
            have kk296 : J285 16 = nI (a + 0) := by rw [eJ285, va_up_self]
            refine lv_aload_n Bx.1 Bx.2.1 d_Mo_repetition_114 rfl (lv_at hl 4 rfl) ?_
            refine f_get Bx hP (by omega) hW287.1 rfl inMo 10 (by decide) kw_666 rfl rfl d_Mo_repetition_115 ?_
            refine lv_iload_n Bx.1 Bx.2.1 d_Mo_repetition_118 rfl (lv_at hl 1 rfl) ?_
            refine lv_aload_n Bx.1 Bx.2.1 d_Mo_repetition_119 rfl (lv_at hl 4 rfl) ?_
            refine f_get Bx hP (by omega) hW287.1 rfl inMo 9 (by decide) kw_665 rfl rfl d_Mo_repetition_120 ?_
            refine lv_iload_n Bx.1 Bx.2.1 d_Mo_repetition_123 rfl (lv_at hl 1 rfl) ?_
            refine f_iald Bx hP (by omega) (show mem286 229 = .inl (cy 1, 100, .inl (A280 229)) from hW287.2.2.1 229 (by decide) (by decide) (by decide)) (vp_in_nI (n := Ec) (by omega) (by decide)) d_Mo_repetition_124 ?_
            rw [nI_clamp (n := Ec) (by omega)]
            rw [show A280 229 (Ec) = 0 by simp [eA280, va_up, upd]]
            refine f_iast (x := 0) (i := nI (Ec)) Bx hP hD hS (by omega) (show mem286 230 = .inl (cy 1, 100, .inl (A280 230)) from hW287.2.2.1 230 (by decide) (by decide) (by decide)) (vp_in_nI (n := Ec) (by omega) (by decide)) d_Mo_repetition_125 (fun H locs hP hS => ?_)
            rw [nI_clamp (n := Ec) (by omega)] at hP
            obtain ⟨A297, eA297⟩ : ∃ z, z = va_up A280 230 (upd (A280 230) (Ec) (0)) := ⟨_, rfl⟩
            obtain ⟨mem298, e_mem298⟩ : ∃ z, z = va_up mem286 230 (.inl (cy 1, 100, .inl (upd (A280 230) (Ec) (0)))) := ⟨_, rfl⟩
            have hP : va_P D vcl (fw n ad mem298) H := by rw [e_mem298]; exact hP
            have hD : va_D (Az sz) (fw n ad mem298) := fw_D hD
            have hW299 : MW cy ad J285 A297 nm m0 mem298 := by rw [e_mem298, eA297]; exact hW287.upA (j := 230) (by decide) (by decide) (by decide) (Or.inl (by decide))
            have tT300 : A297 225 = T := by rw [eA297]; exact tT283
            refine lv_aload_n Bx.1 Bx.2.1 d_Mo_repetition_126 rfl (lv_at hl 4 rfl) ?_
            refine f_callVi (na := 0) (As := []) (rest := []) Bx hml E hP hD hS (by omega) hW299.1 rfl (m_Mo_here l hn hW299 kk288 hL kk296 (by omega)) kw_778 kw_780 sel_Mo_here kw_8 kw_781 (by decide +kernel) ⟨rfl, rfl⟩ ⟨Nat.le_of_ble_eq_true rfl, Nat.le_of_ble_eq_true rfl⟩ rfl hl.1 (Nat.le_of_ble_eq_true rfl) d_Mo_repetition_127 ⟨Nat.le_of_ble_eq_true rfl, Nat.le_of_ble_eq_true rfl⟩ (fun r301 mem302 H locs hq hP hS => ?_)
            have hD : va_D (Az sz) (fw n ad mem302) := fw_D hD
            obtain ⟨hre, hq⟩ := hq
            rw [hq] at hP hD
            subst hre
            rw [show hereF L (A297 225) (a + 0) = hereF L T (a + 0) by rw [tT300]]
            refine lv_bipush (v := 42) Bx.1 Bx.2.1 d_Mo_repetition_130 (by decide) ?_
            refine lv_icmp_ne Bx.1 Bx.2.1 d_Mo_repetition_132 rfl (fun hb303 => ?_) (fun hb303 => ?_)
            · have hno := hin5.note (A' := A297) (e := Ec) (u' := u) (Nat.le_refl _) (fun j q8 q9 q0 q1 q4 => by simp [eA280, eA297, va_up, q9, q0]) (fun i hi => by simp [eA280, eA297, va_up, upd, hi]) (Or.inl (by simp [eA280, eA297, va_up])) (by simp [eA280, eA297, va_up, hk5]) (fun z => absurd z (by simp [eA280, eA297, va_up, hk5]))
              exact share9 mem298 (J285) (A297) (a + 0) (0) (0) (a + 0) _ _ _ (⟨⟨kk288, kk289, kk296, kk290, kk291, kk292, kk295, kk293⟩, kk294⟩) (hW299) (tT300) (hno) (⟨by omega, by omega, by omega⟩) (⟨(Or.inl hb228), hEl234, rpt1_n hb279, rpt2_n (rpt1_n hb279) hb303, by unfold repB; rw [eA297, eA280, ← hrA]; rfl⟩) hP hD hS (lv_sub hl [4, 3, 2, 1] rfl)
            · have hlt304 := hereF_lt (by rw [hb303]; decide)
              refine lv_aload_n Bx.1 Bx.2.1 d_Mo_repetition_135 rfl (lv_at hl 4 rfl) ?_
              refine lv_dup Bx.1 Bx.2.1 d_Mo_repetition_136 rfl ?_
              refine f_get Bx hP (by omega) hW299.1 rfl inMo 16 (by decide) kw_672 rfl rfl d_Mo_repetition_137 ?_
              rw [kk296]
              refine lv_iconst (v := 1) Bx.1 Bx.2.1 d_Mo_repetition_140 (by decide) ?_
              refine lv_iadd Bx.1 Bx.2.1 d_Mo_repetition_141 ?_
              rw [show nI (a + 0) + 1 = nI (a + 0 + 1) from nI_add (a + 0) (1)]
              refine f_put Bx hP hD hS (by omega) hW299.1 rfl inMo tyMo okMo nmMo 16 (by decide) kw_672 rfl rfl rfl rfl (Nat.le_of_ble_eq_true rfl) d_Mo_repetition_142 (fun H locs hP hS => ?_)
              obtain ⟨J305, eJ305⟩ : ∃ z, z = va_up J285 16 (nI (a + 0 + 1)) := ⟨_, rfl⟩
              obtain ⟨mem306, e_mem306⟩ : ∃ z, z = va_up mem298 224 (moC ad J305) := ⟨_, rfl⟩
              have hP : va_P D vcl (fw n ad mem306) H := by rw [e_mem306, eJ305]; exact hP
              have hD : va_D (Az sz) (fw n ad mem306) := fw_D hD
              have hW307 : MW cy ad J305 A297 nm m0 mem306 := by rw [e_mem306]; exact hW299.upJ (by rw [eJ305]; exact va_up_ne _ _ (by decide))
              have kk308 : J305 1 = nI L := by rw [eJ305]; exact kk288
              have kk309 : J305 24 = nI G := by rw [eJ305]; exact kk289
              have kk310 : J305 17 = 0 := by rw [eJ305]; exact kk290
              have kk311 : J305 14 = nI u := by rw [eJ305]; exact kk291
              have kk312 : J305 4 = nI R := by rw [eJ305]; exact kk292
              have kk313 : J305 18 = nI (f + 1) := by rw [eJ305]; exact kk293
              have kk314 : J305 28 = 0 := by rw [eJ305]; exact kk294
              have kk315 : J305 7 = nI (Ec + 1) := by rw [eJ305]; exact kk295
              have kk316 : J305 16 = nI (a + 0 + 1) := by rw [eJ305, va_up_self]
              refine lv_aload_n Bx.1 Bx.2.1 d_Mo_repetition_145 rfl (lv_at hl 4 rfl) ?_
              refine f_get Bx hP (by omega) hW307.1 rfl inMo 10 (by decide) kw_666 rfl rfl d_Mo_repetition_146 ?_
              refine lv_iload_n Bx.1 Bx.2.1 d_Mo_repetition_149 rfl (lv_at hl 1 rfl) ?_
              refine lv_aload_n Bx.1 Bx.2.1 d_Mo_repetition_150 rfl (lv_at hl 4 rfl) ?_
              refine f_callVi (na := 0) (As := []) (rest := [.int (nI Ec), .ref (ad 230)]) Bx hml E hP hD hS (by omega) hW307.1 rfl (m_Mo_here l hn hW307 kk308 hL kk316 (by omega)) kw_778 kw_780 sel_Mo_here kw_8 kw_781 (by decide +kernel) ⟨rfl, rfl⟩ ⟨Nat.le_of_ble_eq_true rfl, Nat.le_of_ble_eq_true rfl⟩ rfl hl.1 (Nat.le_of_ble_eq_true rfl) d_Mo_repetition_151 ⟨Nat.le_of_ble_eq_true rfl, Nat.le_of_ble_eq_true rfl⟩ (fun r317 mem318 H locs hq hP hS => ?_)
              have hD : va_D (Az sz) (fw n ad mem318) := fw_D hD
              obtain ⟨hre, hq⟩ := hq
              rw [hq] at hP hD
              subst hre
              rw [show hereF L (A297 225) (a + 0 + 1) = hereF L T (a + 0 + 1) by rw [tT300]]
              refine f_callSi (na := 1) (As := [.int (hereF L T (a + 0 + 1))]) (rest := [.int (nI Ec), .ref (ad 230)]) Bx hml E.2.1 (m_Mo_digit l (hereF L T (a + 0 + 1))) kw_793 kw_794 kw_8 kw_795 (by decide +kernel) ⟨rfl, rfl⟩ ⟨Nat.le_of_ble_eq_true rfl, Nat.le_of_ble_eq_true rfl⟩ rfl hl.1 (Nat.le_of_ble_eq_true rfl) d_Mo_repetition_154 ⟨Nat.le_of_ble_eq_true rfl, Nat.le_of_ble_eq_true rfl⟩ (fun r320 hs319 => ?_)
              have hs319 : _ = dgF (hereF L T (a + 0 + 1)) := hs319
              subst hs319
              refine lv_if_eq Bx.1 Bx.2.1 d_Mo_repetition_157 rfl (fun hb321 => ?_) (fun hb321 => ?_)
              · refine lv_iconst (v := -1) Bx.1 Bx.2.1 d_Mo_repetition_170 (by decide) ?_
                refine f_iast (x := (-1)) (i := nI (Ec)) Bx hP hD hS (by omega) (show mem306 230 = .inl (cy 1, 100, .inl (A297 230)) from hW307.2.2.1 230 (by decide) (by decide) (by decide)) (vp_in_nI (n := Ec) (by omega) (by decide)) d_Mo_repetition_171 (fun H locs hP hS => ?_)
                rw [nI_clamp (n := Ec) (by omega)] at hP
                obtain ⟨A322, eA322⟩ : ∃ z, z = va_up A297 230 (upd (A297 230) (Ec) ((-1))) := ⟨_, rfl⟩
                obtain ⟨mem323, e_mem323⟩ : ∃ z, z = va_up mem306 230 (.inl (cy 1, 100, .inl (upd (A297 230) (Ec) ((-1))))) := ⟨_, rfl⟩
                have hP : va_P D vcl (fw n ad mem323) H := by rw [e_mem323]; exact hP
                have hD : va_D (Az sz) (fw n ad mem323) := fw_D hD
                have hW324 : MW cy ad J305 A322 nm m0 mem323 := by rw [e_mem323, eA322]; exact hW307.upA (j := 230) (by decide) (by decide) (by decide) (Or.inl (by decide))
                have tT325 : A322 225 = T := by rw [eA322]; exact tT300
                refine lv_aload_n Bx.1 Bx.2.1 d_Mo_repetition_172 rfl (lv_at hl 4 rfl) ?_
                refine lv_dup Bx.1 Bx.2.1 d_Mo_repetition_173 rfl ?_
                refine f_get Bx hP (by omega) hW324.1 rfl inMo 16 (by decide) kw_672 rfl rfl d_Mo_repetition_174 ?_
                rw [kk316]
                refine lv_aload_n Bx.1 Bx.2.1 d_Mo_repetition_177 rfl (lv_at hl 4 rfl) ?_
                refine f_get Bx hP (by omega) hW324.1 rfl inMo 10 (by decide) kw_666 rfl rfl d_Mo_repetition_178 ?_
                refine lv_iload_n Bx.1 Bx.2.1 d_Mo_repetition_181 rfl (lv_at hl 1 rfl) ?_
                refine f_iald Bx hP (by omega) (show mem323 230 = .inl (cy 1, 100, .inl (A322 230)) from hW324.2.2.1 230 (by decide) (by decide) (by decide)) (vp_in_nI (n := Ec) (by omega) (by decide)) d_Mo_repetition_182 ?_
                rw [nI_clamp (n := Ec) (by omega)]
                rw [show A322 230 (Ec) = -1 by simp [eA280, eA297, eA322, va_up, upd]]
                refine lv_if_lt Bx.1 Bx.2.1 d_Mo_repetition_183 rfl (fun hb326 => ?_) (fun hb326 => ?_)
                · refine lv_iconst (v := 0) Bx.1 Bx.2.1 d_Mo_repetition_190 (by decide) ?_
                  refine lv_iadd Bx.1 Bx.2.1 d_Mo_repetition_191 ?_
                  rw [show nI (a + 0 + 1) + 0 = nI (a + 0 + 1 + 0) from nI_add (a + 0 + 1) (0)]
                  refine f_put Bx hP hD hS (by omega) hW324.1 rfl inMo tyMo okMo nmMo 16 (by decide) kw_672 rfl rfl rfl rfl (Nat.le_of_ble_eq_true rfl) d_Mo_repetition_192 (fun H locs hP hS => ?_)
                  obtain ⟨J327, eJ327⟩ : ∃ z, z = va_up J305 16 (nI (a + 0 + 1 + 0)) := ⟨_, rfl⟩
                  obtain ⟨mem328, e_mem328⟩ : ∃ z, z = va_up mem323 224 (moC ad J327) := ⟨_, rfl⟩
                  have hP : va_P D vcl (fw n ad mem328) H := by rw [e_mem328, eJ327]; exact hP
                  have hD : va_D (Az sz) (fw n ad mem328) := fw_D hD
                  have hW329 : MW cy ad J327 A322 nm m0 mem328 := by rw [e_mem328]; exact hW324.upJ (by rw [eJ327]; exact va_up_ne _ _ (by decide))
                  have kk330 : J327 1 = nI L := by rw [eJ327]; exact kk308
                  have kk331 : J327 24 = nI G := by rw [eJ327]; exact kk309
                  have kk332 : J327 17 = 0 := by rw [eJ327]; exact kk310
                  have kk333 : J327 14 = nI u := by rw [eJ327]; exact kk311
                  have kk334 : J327 4 = nI R := by rw [eJ327]; exact kk312
                  have kk335 : J327 18 = nI (f + 1) := by rw [eJ327]; exact kk313
                  have kk336 : J327 28 = 0 := by rw [eJ327]; exact kk314
                  have kk337 : J327 7 = nI (Ec + 1) := by rw [eJ327]; exact kk315
                  have kk338 : J327 16 = nI (a + 0 + 1 + 0) := by rw [eJ327, va_up_self]
                  have hno := hin5.note (A' := A322) (e := Ec) (u' := u) (Nat.le_refl _) (fun j q8 q9 q0 q1 q4 => by simp [eA280, eA297, eA322, va_up, q9, q0]) (fun i hi => by simp [eA280, eA297, eA322, va_up, upd, hi]) (Or.inl (by simp [eA280, eA297, eA322, va_up])) (by simp [eA280, eA297, eA322, va_up, hk5]) (fun z => absurd z (by simp [eA280, eA297, eA322, va_up, hk5]))
                  exact share9 mem328 (J327) (A322) (a + 0 + 1 + 0) (0) ((-1)) (a + 0) _ _ _ (⟨⟨kk330, kk331, kk338, kk332, kk333, kk334, kk337, kk335⟩, kk336⟩) (hW329) (tT325) (hno) (⟨by omega, by omega, by omega⟩) (⟨(Or.inl hb228), hEl234, rpt1_n hb279, rpt2_x (rpt1_n hb279) hb303 hb321, by unfold repB; rw [eA322, eA297, eA280, up_up, va_up_self, updx, ← hrA]; rfl⟩) hP hD hS (lv_sub hl [4, 3, 2, 1] rfl)
                · exact absurd hb326 (by decide)
              · have hlt339 := hereF_lt (dgF_ne hb321)
                refine lv_aload_n Bx.1 Bx.2.1 d_Mo_repetition_160 rfl (lv_at hl 4 rfl) ?_
                refine f_callVi (na := 0) (As := []) (rest := [.int (nI Ec), .ref (ad 230)]) Bx hml E hP hD hS (by omega) hW307.1 rfl (m_Mo_here l hn hW307 kk308 hL kk316 (by omega)) kw_778 kw_780 sel_Mo_here kw_8 kw_781 (by decide +kernel) ⟨rfl, rfl⟩ ⟨Nat.le_of_ble_eq_true rfl, Nat.le_of_ble_eq_true rfl⟩ rfl hl.1 (Nat.le_of_ble_eq_true rfl) d_Mo_repetition_161 ⟨Nat.le_of_ble_eq_true rfl, Nat.le_of_ble_eq_true rfl⟩ (fun r340 mem341 H locs hq hP hS => ?_)
                have hD : va_D (Az sz) (fw n ad mem341) := fw_D hD
                obtain ⟨hre, hq⟩ := hq
                rw [hq] at hP hD
                subst hre
                rw [show hereF L (A297 225) (a + 0 + 1) = hereF L T (a + 0 + 1) by rw [tT300]]
                refine lv_bipush (v := 48) Bx.1 Bx.2.1 d_Mo_repetition_164 (by decide) ?_
                refine lv_isub Bx.1 Bx.2.1 d_Mo_repetition_166 ?_
                refine lv_goto Bx.1 Bx.2.1 d_Mo_repetition_167 rfl ?_
                refine f_iast (x := hereF L T (a + 0 + 1) - 48) (i := nI (Ec)) Bx hP hD hS (by omega) (show mem306 230 = .inl (cy 1, 100, .inl (A297 230)) from hW307.2.2.1 230 (by decide) (by decide) (by decide)) (vp_in_nI (n := Ec) (by omega) (by decide)) d_Mo_repetition_171 (fun H locs hP hS => ?_)
                rw [nI_clamp (n := Ec) (by omega)] at hP
                obtain ⟨A342, eA342⟩ : ∃ z, z = va_up A297 230 (upd (A297 230) (Ec) (hereF L T (a + 0 + 1) - 48)) := ⟨_, rfl⟩
                obtain ⟨mem343, e_mem343⟩ : ∃ z, z = va_up mem306 230 (.inl (cy 1, 100, .inl (upd (A297 230) (Ec) (hereF L T (a + 0 + 1) - 48)))) := ⟨_, rfl⟩
                have hP : va_P D vcl (fw n ad mem343) H := by rw [e_mem343]; exact hP
                have hD : va_D (Az sz) (fw n ad mem343) := fw_D hD
                have hW344 : MW cy ad J305 A342 nm m0 mem343 := by rw [e_mem343, eA342]; exact hW307.upA (j := 230) (by decide) (by decide) (by decide) (Or.inl (by decide))
                have tT345 : A342 225 = T := by rw [eA342]; exact tT300
                refine lv_aload_n Bx.1 Bx.2.1 d_Mo_repetition_172 rfl (lv_at hl 4 rfl) ?_
                refine lv_dup Bx.1 Bx.2.1 d_Mo_repetition_173 rfl ?_
                refine f_get Bx hP (by omega) hW344.1 rfl inMo 16 (by decide) kw_672 rfl rfl d_Mo_repetition_174 ?_
                rw [kk316]
                refine lv_aload_n Bx.1 Bx.2.1 d_Mo_repetition_177 rfl (lv_at hl 4 rfl) ?_
                refine f_get Bx hP (by omega) hW344.1 rfl inMo 10 (by decide) kw_666 rfl rfl d_Mo_repetition_178 ?_
                refine lv_iload_n Bx.1 Bx.2.1 d_Mo_repetition_181 rfl (lv_at hl 1 rfl) ?_
                refine f_iald Bx hP (by omega) (show mem343 230 = .inl (cy 1, 100, .inl (A342 230)) from hW344.2.2.1 230 (by decide) (by decide) (by decide)) (vp_in_nI (n := Ec) (by omega) (by decide)) d_Mo_repetition_182 ?_
                rw [nI_clamp (n := Ec) (by omega)]
                rw [show A342 230 (Ec) = hereF L T (a + 0 + 1) - 48 by simp [eA280, eA297, eA342, va_up, upd]]
                refine lv_if_lt Bx.1 Bx.2.1 d_Mo_repetition_183 rfl (fun hb346 => ?_) (fun hb346 => ?_)
                · exact absurd hb346 (dgF_sub hb321)
                · refine lv_iconst (v := 1) Bx.1 Bx.2.1 d_Mo_repetition_186 (by decide) ?_
                  refine lv_goto Bx.1 Bx.2.1 d_Mo_repetition_187 rfl ?_
                  refine lv_iadd Bx.1 Bx.2.1 d_Mo_repetition_191 ?_
                  rw [show nI (a + 0 + 1) + 1 = nI (a + 0 + 1 + 1) from nI_add (a + 0 + 1) (1)]
                  refine f_put Bx hP hD hS (by omega) hW344.1 rfl inMo tyMo okMo nmMo 16 (by decide) kw_672 rfl rfl rfl rfl (Nat.le_of_ble_eq_true rfl) d_Mo_repetition_192 (fun H locs hP hS => ?_)
                  obtain ⟨J347, eJ347⟩ : ∃ z, z = va_up J305 16 (nI (a + 0 + 1 + 1)) := ⟨_, rfl⟩
                  obtain ⟨mem348, e_mem348⟩ : ∃ z, z = va_up mem343 224 (moC ad J347) := ⟨_, rfl⟩
                  have hP : va_P D vcl (fw n ad mem348) H := by rw [e_mem348, eJ347]; exact hP
                  have hD : va_D (Az sz) (fw n ad mem348) := fw_D hD
                  have hW349 : MW cy ad J347 A342 nm m0 mem348 := by rw [e_mem348]; exact hW344.upJ (by rw [eJ347]; exact va_up_ne _ _ (by decide))
                  have kk350 : J347 1 = nI L := by rw [eJ347]; exact kk308
                  have kk351 : J347 24 = nI G := by rw [eJ347]; exact kk309
                  have kk352 : J347 17 = 0 := by rw [eJ347]; exact kk310
                  have kk353 : J347 14 = nI u := by rw [eJ347]; exact kk311
                  have kk354 : J347 4 = nI R := by rw [eJ347]; exact kk312
                  have kk355 : J347 18 = nI (f + 1) := by rw [eJ347]; exact kk313
                  have kk356 : J347 28 = 0 := by rw [eJ347]; exact kk314
                  have kk357 : J347 7 = nI (Ec + 1) := by rw [eJ347]; exact kk315
                  have kk358 : J347 16 = nI (a + 0 + 1 + 1) := by rw [eJ347, va_up_self]
                  have hno := hin5.note (A' := A342) (e := Ec) (u' := u) (Nat.le_refl _) (fun j q8 q9 q0 q1 q4 => by simp [eA280, eA297, eA342, va_up, q9, q0]) (fun i hi => by simp [eA280, eA297, eA342, va_up, upd, hi]) (Or.inl (by simp [eA280, eA297, eA342, va_up])) (by simp [eA280, eA297, eA342, va_up, hk5]) (fun z => absurd z (by simp [eA280, eA297, eA342, va_up, hk5]))
                  exact share9 mem348 (J347) (A342) (a + 0 + 1 + 1) (0) (hereF L T (a + 0 + 1) - 48) (a + 0) _ _ _ (⟨⟨kk350, kk351, kk358, kk352, kk353, kk354, kk357, kk355⟩, kk356⟩) (hW349) (tT345) (hno) (⟨by omega, by omega, by omega⟩) (⟨(Or.inl hb228), hEl234, rpt1_n hb279, rpt2_d (rpt1_n hb279) hb303 hb321, by unfold repB; rw [eA342, eA297, eA280, up_up, va_up_self, updx, ← hrA]; rfl⟩) hP hD hS (lv_sub hl [4, 3, 2, 1] rfl)
          · exact absurd hb284 (by decide)
        · have hlt359 := hereF_lt (dgF_ne hb279)
          rw [dgF_one hb279] at hl
          refine lv_aload_n Bx.1 Bx.2.1 d_Mo_repetition_83 rfl (lv_at hl 4 rfl) ?_
          refine f_callVi (na := 0) (As := []) (rest := [.int (nI Ec), .ref (ad 229)]) Bx hml E hP hD hS (by omega) hW273.1 rfl (m_Mo_here l hn hW273 kk250 hL kk252 (by omega)) kw_778 kw_780 sel_Mo_here kw_8 kw_781 (by decide +kernel) ⟨rfl, rfl⟩ ⟨Nat.le_of_ble_eq_true rfl, Nat.le_of_ble_eq_true rfl⟩ rfl hl.1 (Nat.le_of_ble_eq_true rfl) d_Mo_repetition_84 ⟨Nat.le_of_ble_eq_true rfl, Nat.le_of_ble_eq_true rfl⟩ (fun r360 mem361 H locs hq hP hS => ?_)
          have hD : va_D (Az sz) (fw n ad mem361) := fw_D hD
          obtain ⟨hre, hq⟩ := hq
          rw [hq] at hP hD
          subst hre
          rw [show hereF L (A271 225) (a) = hereF L T (a) by rw [tT274]]
          refine lv_bipush (v := 48) Bx.1 Bx.2.1 d_Mo_repetition_87 (by decide) ?_
          refine lv_isub Bx.1 Bx.2.1 d_Mo_repetition_89 ?_
          refine lv_goto Bx.1 Bx.2.1 d_Mo_repetition_90 rfl ?_
          refine f_iast (x := hereF L T (a) - 48) (i := nI (Ec)) Bx hP hD hS (by omega) (show mem272 229 = .inl (cy 1, 100, .inl (A271 229)) from hW273.2.2.1 229 (by decide) (by decide) (by decide)) (vp_in_nI (n := Ec) (by omega) (by decide)) d_Mo_repetition_94 (fun H locs hP hS => ?_)
          rw [nI_clamp (n := Ec) (by omega)] at hP
          obtain ⟨A362, eA362⟩ : ∃ z, z = va_up A271 229 (upd (A271 229) (Ec) (hereF L T (a) - 48)) := ⟨_, rfl⟩
          obtain ⟨mem363, e_mem363⟩ : ∃ z, z = va_up mem272 229 (.inl (cy 1, 100, .inl (upd (A271 229) (Ec) (hereF L T (a) - 48)))) := ⟨_, rfl⟩
          have hP : va_P D vcl (fw n ad mem363) H := by rw [e_mem363]; exact hP
          have hD : va_D (Az sz) (fw n ad mem363) := fw_D hD
          have hW364 : MW cy ad J235 A362 nm m0 mem363 := by rw [e_mem363, eA362]; exact hW273.upA (j := 229) (by decide) (by decide) (by decide) (Or.inl (by decide))
          have tT365 : A362 225 = T := by rw [eA362]; exact tT274
          refine lv_aload_n Bx.1 Bx.2.1 d_Mo_repetition_95 rfl (lv_at hl 4 rfl) ?_
          refine lv_dup Bx.1 Bx.2.1 d_Mo_repetition_96 rfl ?_
          refine f_get Bx hP (by omega) hW364.1 rfl inMo 16 (by decide) kw_672 rfl rfl d_Mo_repetition_97 ?_
          rw [kk252]
          refine lv_iload Bx.1 Bx.2.1 d_Mo_repetition_100 (lv_at hl 0 rfl) ?_
          refine lv_if_eq Bx.1 Bx.2.1 d_Mo_repetition_102 rfl (fun hb366 => ?_) (fun hb366 => ?_)
          · exact absurd hb366 (by decide)
          · refine lv_iconst (v := 1) Bx.1 Bx.2.1 d_Mo_repetition_105 (by decide) ?_
            refine lv_goto Bx.1 Bx.2.1 d_Mo_repetition_106 rfl ?_
            refine lv_iadd Bx.1 Bx.2.1 d_Mo_repetition_110 ?_
            rw [show nI a + 1 = nI (a + 1) from nI_add (a) (1)]
            refine f_put Bx hP hD hS (by omega) hW364.1 rfl inMo tyMo okMo nmMo 16 (by decide) kw_672 rfl rfl rfl rfl (Nat.le_of_ble_eq_true rfl) d_Mo_repetition_111 (fun H locs hP hS => ?_)
            obtain ⟨J367, eJ367⟩ : ∃ z, z = va_up J235 16 (nI (a + 1)) := ⟨_, rfl⟩
            obtain ⟨mem368, e_mem368⟩ : ∃ z, z = va_up mem363 224 (moC ad J367) := ⟨_, rfl⟩
            have hP : va_P D vcl (fw n ad mem368) H := by rw [e_mem368, eJ367]; exact hP
            have hD : va_D (Az sz) (fw n ad mem368) := fw_D hD
            have hW369 : MW cy ad J367 A362 nm m0 mem368 := by rw [e_mem368]; exact hW364.upJ (by rw [eJ367]; exact va_up_ne _ _ (by decide))
            have kk370 : J367 1 = nI L := by rw [eJ367]; exact kk250
            have kk371 : J367 24 = nI G := by rw [eJ367]; exact kk251
            have kk372 : J367 17 = 0 := by rw [eJ367]; exact kk253
            have kk373 : J367 14 = nI u := by rw [eJ367]; exact kk254
            have kk374 : J367 4 = nI R := by rw [eJ367]; exact kk255
            have kk375 : J367 18 = nI (f + 1) := by rw [eJ367]; exact kk256
            have kk376 : J367 28 = 0 := by rw [eJ367]; exact kk257
            have kk377 : J367 7 = nI (Ec + 1) := by rw [eJ367]; exact kk258
            have kk378 : J367 16 = nI (a + 1) := by rw [eJ367, va_up_self]
            refine lv_aload_n Bx.1 Bx.2.1 d_Mo_repetition_114 rfl (lv_at hl 4 rfl) ?_
            refine f_get Bx hP (by omega) hW369.1 rfl inMo 10 (by decide) kw_666 rfl rfl d_Mo_repetition_115 ?_
            refine lv_iload_n Bx.1 Bx.2.1 d_Mo_repetition_118 rfl (lv_at hl 1 rfl) ?_
            refine lv_aload_n Bx.1 Bx.2.1 d_Mo_repetition_119 rfl (lv_at hl 4 rfl) ?_
            refine f_get Bx hP (by omega) hW369.1 rfl inMo 9 (by decide) kw_665 rfl rfl d_Mo_repetition_120 ?_
            refine lv_iload_n Bx.1 Bx.2.1 d_Mo_repetition_123 rfl (lv_at hl 1 rfl) ?_
            refine f_iald Bx hP (by omega) (show mem368 229 = .inl (cy 1, 100, .inl (A362 229)) from hW369.2.2.1 229 (by decide) (by decide) (by decide)) (vp_in_nI (n := Ec) (by omega) (by decide)) d_Mo_repetition_124 ?_
            rw [nI_clamp (n := Ec) (by omega)]
            rw [show A362 229 (Ec) = hereF L T (a) - 48 by simp [eA362, va_up, upd]]
            refine f_iast (x := hereF L T (a) - 48) (i := nI (Ec)) Bx hP hD hS (by omega) (show mem368 230 = .inl (cy 1, 100, .inl (A362 230)) from hW369.2.2.1 230 (by decide) (by decide) (by decide)) (vp_in_nI (n := Ec) (by omega) (by decide)) d_Mo_repetition_125 (fun H locs hP hS => ?_)
            rw [nI_clamp (n := Ec) (by omega)] at hP
            obtain ⟨A379, eA379⟩ : ∃ z, z = va_up A362 230 (upd (A362 230) (Ec) (hereF L T (a) - 48)) := ⟨_, rfl⟩
            obtain ⟨mem380, e_mem380⟩ : ∃ z, z = va_up mem368 230 (.inl (cy 1, 100, .inl (upd (A362 230) (Ec) (hereF L T (a) - 48)))) := ⟨_, rfl⟩
            have hP : va_P D vcl (fw n ad mem380) H := by rw [e_mem380]; exact hP
            have hD : va_D (Az sz) (fw n ad mem380) := fw_D hD
            have hW381 : MW cy ad J367 A379 nm m0 mem380 := by rw [e_mem380, eA379]; exact hW369.upA (j := 230) (by decide) (by decide) (by decide) (Or.inl (by decide))
            have tT382 : A379 225 = T := by rw [eA379]; exact tT365
            refine lv_aload_n Bx.1 Bx.2.1 d_Mo_repetition_126 rfl (lv_at hl 4 rfl) ?_
            refine f_callVi (na := 0) (As := []) (rest := []) Bx hml E hP hD hS (by omega) hW381.1 rfl (m_Mo_here l hn hW381 kk370 hL kk378 (by omega)) kw_778 kw_780 sel_Mo_here kw_8 kw_781 (by decide +kernel) ⟨rfl, rfl⟩ ⟨Nat.le_of_ble_eq_true rfl, Nat.le_of_ble_eq_true rfl⟩ rfl hl.1 (Nat.le_of_ble_eq_true rfl) d_Mo_repetition_127 ⟨Nat.le_of_ble_eq_true rfl, Nat.le_of_ble_eq_true rfl⟩ (fun r383 mem384 H locs hq hP hS => ?_)
            have hD : va_D (Az sz) (fw n ad mem384) := fw_D hD
            obtain ⟨hre, hq⟩ := hq
            rw [hq] at hP hD
            subst hre
            rw [show hereF L (A379 225) (a + 1) = hereF L T (a + 1) by rw [tT382]]
            refine lv_bipush (v := 42) Bx.1 Bx.2.1 d_Mo_repetition_130 (by decide) ?_
            refine lv_icmp_ne Bx.1 Bx.2.1 d_Mo_repetition_132 rfl (fun hb385 => ?_) (fun hb385 => ?_)
            · have hno := hin5.note (A' := A379) (e := Ec) (u' := u) (Nat.le_refl _) (fun j q8 q9 q0 q1 q4 => by simp [eA362, eA379, va_up, q9, q0]) (fun i hi => by simp [eA362, eA379, va_up, upd, hi]) (Or.inl (by simp [eA362, eA379, va_up])) (by simp [eA362, eA379, va_up, hk5]) (fun z => absurd z (by simp [eA362, eA379, va_up, hk5]))
              exact share9 mem380 (J367) (A379) (a + 1) (hereF L T (a) - 48) (hereF L T (a) - 48) (a + 1) _ _ _ (⟨⟨kk370, kk371, kk378, kk372, kk373, kk374, kk377, kk375⟩, kk376⟩) (hW381) (tT382) (hno) (⟨by omega, by omega, by omega⟩) (⟨(Or.inl hb228), hEl234, rpt1_d hb279, rpt2_n (rpt1_d hb279) hb385, by unfold repB; rw [eA379, eA362, ← hrA]; rfl⟩) hP hD hS (lv_sub hl [4, 3, 2, 1] rfl)
            · have hlt386 := hereF_lt (by rw [hb385]; decide)
              refine lv_aload_n Bx.1 Bx.2.1 d_Mo_repetition_135 rfl (lv_at hl 4 rfl) ?_
              refine lv_dup Bx.1 Bx.2.1 d_Mo_repetition_136 rfl ?_
              refine f_get Bx hP (by omega) hW381.1 rfl inMo 16 (by decide) kw_672 rfl rfl d_Mo_repetition_137 ?_
              rw [kk378]
              refine lv_iconst (v := 1) Bx.1 Bx.2.1 d_Mo_repetition_140 (by decide) ?_
              refine lv_iadd Bx.1 Bx.2.1 d_Mo_repetition_141 ?_
              rw [show nI (a + 1) + 1 = nI (a + 1 + 1) from nI_add (a + 1) (1)]
              refine f_put Bx hP hD hS (by omega) hW381.1 rfl inMo tyMo okMo nmMo 16 (by decide) kw_672 rfl rfl rfl rfl (Nat.le_of_ble_eq_true rfl) d_Mo_repetition_142 (fun H locs hP hS => ?_)
              obtain ⟨J387, eJ387⟩ : ∃ z, z = va_up J367 16 (nI (a + 1 + 1)) := ⟨_, rfl⟩
              obtain ⟨mem388, e_mem388⟩ : ∃ z, z = va_up mem380 224 (moC ad J387) := ⟨_, rfl⟩
              have hP : va_P D vcl (fw n ad mem388) H := by rw [e_mem388, eJ387]; exact hP
              have hD : va_D (Az sz) (fw n ad mem388) := fw_D hD
              have hW389 : MW cy ad J387 A379 nm m0 mem388 := by rw [e_mem388]; exact hW381.upJ (by rw [eJ387]; exact va_up_ne _ _ (by decide))
              have kk390 : J387 1 = nI L := by rw [eJ387]; exact kk370
              have kk391 : J387 24 = nI G := by rw [eJ387]; exact kk371
              have kk392 : J387 17 = 0 := by rw [eJ387]; exact kk372
              have kk393 : J387 14 = nI u := by rw [eJ387]; exact kk373
              have kk394 : J387 4 = nI R := by rw [eJ387]; exact kk374
              have kk395 : J387 18 = nI (f + 1) := by rw [eJ387]; exact kk375
              have kk396 : J387 28 = 0 := by rw [eJ387]; exact kk376
              have kk397 : J387 7 = nI (Ec + 1) := by rw [eJ387]; exact kk377
              have kk398 : J387 16 = nI (a + 1 + 1) := by rw [eJ387, va_up_self]
              refine lv_aload_n Bx.1 Bx.2.1 d_Mo_repetition_145 rfl (lv_at hl 4 rfl) ?_
              refine f_get Bx hP (by omega) hW389.1 rfl inMo 10 (by decide) kw_666 rfl rfl d_Mo_repetition_146 ?_
              refine lv_iload_n Bx.1 Bx.2.1 d_Mo_repetition_149 rfl (lv_at hl 1 rfl) ?_
              refine lv_aload_n Bx.1 Bx.2.1 d_Mo_repetition_150 rfl (lv_at hl 4 rfl) ?_
              refine f_callVi (na := 0) (As := []) (rest := [.int (nI Ec), .ref (ad 230)]) Bx hml E hP hD hS (by omega) hW389.1 rfl (m_Mo_here l hn hW389 kk390 hL kk398 (by omega)) kw_778 kw_780 sel_Mo_here kw_8 kw_781 (by decide +kernel) ⟨rfl, rfl⟩ ⟨Nat.le_of_ble_eq_true rfl, Nat.le_of_ble_eq_true rfl⟩ rfl hl.1 (Nat.le_of_ble_eq_true rfl) d_Mo_repetition_151 ⟨Nat.le_of_ble_eq_true rfl, Nat.le_of_ble_eq_true rfl⟩ (fun r399 mem400 H locs hq hP hS => ?_)
              have hD : va_D (Az sz) (fw n ad mem400) := fw_D hD
              obtain ⟨hre, hq⟩ := hq
              rw [hq] at hP hD
              subst hre
              rw [show hereF L (A379 225) (a + 1 + 1) = hereF L T (a + 1 + 1) by rw [tT382]]
              refine f_callSi (na := 1) (As := [.int (hereF L T (a + 1 + 1))]) (rest := [.int (nI Ec), .ref (ad 230)]) Bx hml E.2.1 (m_Mo_digit l (hereF L T (a + 1 + 1))) kw_793 kw_794 kw_8 kw_795 (by decide +kernel) ⟨rfl, rfl⟩ ⟨Nat.le_of_ble_eq_true rfl, Nat.le_of_ble_eq_true rfl⟩ rfl hl.1 (Nat.le_of_ble_eq_true rfl) d_Mo_repetition_154 ⟨Nat.le_of_ble_eq_true rfl, Nat.le_of_ble_eq_true rfl⟩ (fun r402 hs401 => ?_)
              have hs401 : _ = dgF (hereF L T (a + 1 + 1)) := hs401
              subst hs401
              refine lv_if_eq Bx.1 Bx.2.1 d_Mo_repetition_157 rfl (fun hb403 => ?_) (fun hb403 => ?_)
              · refine lv_iconst (v := -1) Bx.1 Bx.2.1 d_Mo_repetition_170 (by decide) ?_
                refine f_iast (x := (-1)) (i := nI (Ec)) Bx hP hD hS (by omega) (show mem388 230 = .inl (cy 1, 100, .inl (A379 230)) from hW389.2.2.1 230 (by decide) (by decide) (by decide)) (vp_in_nI (n := Ec) (by omega) (by decide)) d_Mo_repetition_171 (fun H locs hP hS => ?_)
                rw [nI_clamp (n := Ec) (by omega)] at hP
                obtain ⟨A404, eA404⟩ : ∃ z, z = va_up A379 230 (upd (A379 230) (Ec) ((-1))) := ⟨_, rfl⟩
                obtain ⟨mem405, e_mem405⟩ : ∃ z, z = va_up mem388 230 (.inl (cy 1, 100, .inl (upd (A379 230) (Ec) ((-1))))) := ⟨_, rfl⟩
                have hP : va_P D vcl (fw n ad mem405) H := by rw [e_mem405]; exact hP
                have hD : va_D (Az sz) (fw n ad mem405) := fw_D hD
                have hW406 : MW cy ad J387 A404 nm m0 mem405 := by rw [e_mem405, eA404]; exact hW389.upA (j := 230) (by decide) (by decide) (by decide) (Or.inl (by decide))
                have tT407 : A404 225 = T := by rw [eA404]; exact tT382
                refine lv_aload_n Bx.1 Bx.2.1 d_Mo_repetition_172 rfl (lv_at hl 4 rfl) ?_
                refine lv_dup Bx.1 Bx.2.1 d_Mo_repetition_173 rfl ?_
                refine f_get Bx hP (by omega) hW406.1 rfl inMo 16 (by decide) kw_672 rfl rfl d_Mo_repetition_174 ?_
                rw [kk398]
                refine lv_aload_n Bx.1 Bx.2.1 d_Mo_repetition_177 rfl (lv_at hl 4 rfl) ?_
                refine f_get Bx hP (by omega) hW406.1 rfl inMo 10 (by decide) kw_666 rfl rfl d_Mo_repetition_178 ?_
                refine lv_iload_n Bx.1 Bx.2.1 d_Mo_repetition_181 rfl (lv_at hl 1 rfl) ?_
                refine f_iald Bx hP (by omega) (show mem405 230 = .inl (cy 1, 100, .inl (A404 230)) from hW406.2.2.1 230 (by decide) (by decide) (by decide)) (vp_in_nI (n := Ec) (by omega) (by decide)) d_Mo_repetition_182 ?_
                rw [nI_clamp (n := Ec) (by omega)]
                rw [show A404 230 (Ec) = -1 by simp [eA362, eA379, eA404, va_up, upd]]
                refine lv_if_lt Bx.1 Bx.2.1 d_Mo_repetition_183 rfl (fun hb408 => ?_) (fun hb408 => ?_)
                · refine lv_iconst (v := 0) Bx.1 Bx.2.1 d_Mo_repetition_190 (by decide) ?_
                  refine lv_iadd Bx.1 Bx.2.1 d_Mo_repetition_191 ?_
                  rw [show nI (a + 1 + 1) + 0 = nI (a + 1 + 1 + 0) from nI_add (a + 1 + 1) (0)]
                  refine f_put Bx hP hD hS (by omega) hW406.1 rfl inMo tyMo okMo nmMo 16 (by decide) kw_672 rfl rfl rfl rfl (Nat.le_of_ble_eq_true rfl) d_Mo_repetition_192 (fun H locs hP hS => ?_)
                  obtain ⟨J409, eJ409⟩ : ∃ z, z = va_up J387 16 (nI (a + 1 + 1 + 0)) := ⟨_, rfl⟩
                  obtain ⟨mem410, e_mem410⟩ : ∃ z, z = va_up mem405 224 (moC ad J409) := ⟨_, rfl⟩
                  have hP : va_P D vcl (fw n ad mem410) H := by rw [e_mem410, eJ409]; exact hP
                  have hD : va_D (Az sz) (fw n ad mem410) := fw_D hD
                  have hW411 : MW cy ad J409 A404 nm m0 mem410 := by rw [e_mem410]; exact hW406.upJ (by rw [eJ409]; exact va_up_ne _ _ (by decide))
                  have kk412 : J409 1 = nI L := by rw [eJ409]; exact kk390
                  have kk413 : J409 24 = nI G := by rw [eJ409]; exact kk391
                  have kk414 : J409 17 = 0 := by rw [eJ409]; exact kk392
                  have kk415 : J409 14 = nI u := by rw [eJ409]; exact kk393
                  have kk416 : J409 4 = nI R := by rw [eJ409]; exact kk394
                  have kk417 : J409 18 = nI (f + 1) := by rw [eJ409]; exact kk395
                  have kk418 : J409 28 = 0 := by rw [eJ409]; exact kk396
                  have kk419 : J409 7 = nI (Ec + 1) := by rw [eJ409]; exact kk397
                  have kk420 : J409 16 = nI (a + 1 + 1 + 0) := by rw [eJ409, va_up_self]
                  have hno := hin5.note (A' := A404) (e := Ec) (u' := u) (Nat.le_refl _) (fun j q8 q9 q0 q1 q4 => by simp [eA362, eA379, eA404, va_up, q9, q0]) (fun i hi => by simp [eA362, eA379, eA404, va_up, upd, hi]) (Or.inl (by simp [eA362, eA379, eA404, va_up])) (by simp [eA362, eA379, eA404, va_up, hk5]) (fun z => absurd z (by simp [eA362, eA379, eA404, va_up, hk5]))
                  exact share9 mem410 (J409) (A404) (a + 1 + 1 + 0) (hereF L T (a) - 48) ((-1)) (a + 1) _ _ _ (⟨⟨kk412, kk413, kk420, kk414, kk415, kk416, kk419, kk417⟩, kk418⟩) (hW411) (tT407) (hno) (⟨by omega, by omega, by omega⟩) (⟨(Or.inl hb228), hEl234, rpt1_d hb279, rpt2_x (rpt1_d hb279) hb385 hb403, by unfold repB; rw [eA404, eA379, eA362, up_up, va_up_self, updx, ← hrA]; rfl⟩) hP hD hS (lv_sub hl [4, 3, 2, 1] rfl)
                · exact absurd hb408 (by decide)
              · have hlt421 := hereF_lt (dgF_ne hb403)
                refine lv_aload_n Bx.1 Bx.2.1 d_Mo_repetition_160 rfl (lv_at hl 4 rfl) ?_
                refine f_callVi (na := 0) (As := []) (rest := [.int (nI Ec), .ref (ad 230)]) Bx hml E hP hD hS (by omega) hW389.1 rfl (m_Mo_here l hn hW389 kk390 hL kk398 (by omega)) kw_778 kw_780 sel_Mo_here kw_8 kw_781 (by decide +kernel) ⟨rfl, rfl⟩ ⟨Nat.le_of_ble_eq_true rfl, Nat.le_of_ble_eq_true rfl⟩ rfl hl.1 (Nat.le_of_ble_eq_true rfl) d_Mo_repetition_161 ⟨Nat.le_of_ble_eq_true rfl, Nat.le_of_ble_eq_true rfl⟩ (fun r422 mem423 H locs hq hP hS => ?_)
                have hD : va_D (Az sz) (fw n ad mem423) := fw_D hD
                obtain ⟨hre, hq⟩ := hq
                rw [hq] at hP hD
                subst hre
                rw [show hereF L (A379 225) (a + 1 + 1) = hereF L T (a + 1 + 1) by rw [tT382]]
                refine lv_bipush (v := 48) Bx.1 Bx.2.1 d_Mo_repetition_164 (by decide) ?_
                refine lv_isub Bx.1 Bx.2.1 d_Mo_repetition_166 ?_
                refine lv_goto Bx.1 Bx.2.1 d_Mo_repetition_167 rfl ?_
                refine f_iast (x := hereF L T (a + 1 + 1) - 48) (i := nI (Ec)) Bx hP hD hS (by omega) (show mem388 230 = .inl (cy 1, 100, .inl (A379 230)) from hW389.2.2.1 230 (by decide) (by decide) (by decide)) (vp_in_nI (n := Ec) (by omega) (by decide)) d_Mo_repetition_171 (fun H locs hP hS => ?_)
                rw [nI_clamp (n := Ec) (by omega)] at hP
                obtain ⟨A424, eA424⟩ : ∃ z, z = va_up A379 230 (upd (A379 230) (Ec) (hereF L T (a + 1 + 1) - 48)) := ⟨_, rfl⟩
                obtain ⟨mem425, e_mem425⟩ : ∃ z, z = va_up mem388 230 (.inl (cy 1, 100, .inl (upd (A379 230) (Ec) (hereF L T (a + 1 + 1) - 48)))) := ⟨_, rfl⟩
                have hP : va_P D vcl (fw n ad mem425) H := by rw [e_mem425]; exact hP
                have hD : va_D (Az sz) (fw n ad mem425) := fw_D hD
                have hW426 : MW cy ad J387 A424 nm m0 mem425 := by rw [e_mem425, eA424]; exact hW389.upA (j := 230) (by decide) (by decide) (by decide) (Or.inl (by decide))
                have tT427 : A424 225 = T := by rw [eA424]; exact tT382
                refine lv_aload_n Bx.1 Bx.2.1 d_Mo_repetition_172 rfl (lv_at hl 4 rfl) ?_
                refine lv_dup Bx.1 Bx.2.1 d_Mo_repetition_173 rfl ?_
                refine f_get Bx hP (by omega) hW426.1 rfl inMo 16 (by decide) kw_672 rfl rfl d_Mo_repetition_174 ?_
                rw [kk398]
                refine lv_aload_n Bx.1 Bx.2.1 d_Mo_repetition_177 rfl (lv_at hl 4 rfl) ?_
                refine f_get Bx hP (by omega) hW426.1 rfl inMo 10 (by decide) kw_666 rfl rfl d_Mo_repetition_178 ?_
                refine lv_iload_n Bx.1 Bx.2.1 d_Mo_repetition_181 rfl (lv_at hl 1 rfl) ?_
                refine f_iald Bx hP (by omega) (show mem425 230 = .inl (cy 1, 100, .inl (A424 230)) from hW426.2.2.1 230 (by decide) (by decide) (by decide)) (vp_in_nI (n := Ec) (by omega) (by decide)) d_Mo_repetition_182 ?_
                rw [nI_clamp (n := Ec) (by omega)]
                rw [show A424 230 (Ec) = hereF L T (a + 1 + 1) - 48 by simp [eA362, eA379, eA424, va_up, upd]]
                refine lv_if_lt Bx.1 Bx.2.1 d_Mo_repetition_183 rfl (fun hb428 => ?_) (fun hb428 => ?_)
                · exact absurd hb428 (dgF_sub hb403)
                · refine lv_iconst (v := 1) Bx.1 Bx.2.1 d_Mo_repetition_186 (by decide) ?_
                  refine lv_goto Bx.1 Bx.2.1 d_Mo_repetition_187 rfl ?_
                  refine lv_iadd Bx.1 Bx.2.1 d_Mo_repetition_191 ?_
                  rw [show nI (a + 1 + 1) + 1 = nI (a + 1 + 1 + 1) from nI_add (a + 1 + 1) (1)]
                  refine f_put Bx hP hD hS (by omega) hW426.1 rfl inMo tyMo okMo nmMo 16 (by decide) kw_672 rfl rfl rfl rfl (Nat.le_of_ble_eq_true rfl) d_Mo_repetition_192 (fun H locs hP hS => ?_)
                  obtain ⟨J429, eJ429⟩ : ∃ z, z = va_up J387 16 (nI (a + 1 + 1 + 1)) := ⟨_, rfl⟩
                  obtain ⟨mem430, e_mem430⟩ : ∃ z, z = va_up mem425 224 (moC ad J429) := ⟨_, rfl⟩
                  have hP : va_P D vcl (fw n ad mem430) H := by rw [e_mem430, eJ429]; exact hP
                  have hD : va_D (Az sz) (fw n ad mem430) := fw_D hD
                  have hW431 : MW cy ad J429 A424 nm m0 mem430 := by rw [e_mem430]; exact hW426.upJ (by rw [eJ429]; exact va_up_ne _ _ (by decide))
                  have kk432 : J429 1 = nI L := by rw [eJ429]; exact kk390
                  have kk433 : J429 24 = nI G := by rw [eJ429]; exact kk391
                  have kk434 : J429 17 = 0 := by rw [eJ429]; exact kk392
                  have kk435 : J429 14 = nI u := by rw [eJ429]; exact kk393
                  have kk436 : J429 4 = nI R := by rw [eJ429]; exact kk394
                  have kk437 : J429 18 = nI (f + 1) := by rw [eJ429]; exact kk395
                  have kk438 : J429 28 = 0 := by rw [eJ429]; exact kk396
                  have kk439 : J429 7 = nI (Ec + 1) := by rw [eJ429]; exact kk397
                  have kk440 : J429 16 = nI (a + 1 + 1 + 1) := by rw [eJ429, va_up_self]
                  have hno := hin5.note (A' := A424) (e := Ec) (u' := u) (Nat.le_refl _) (fun j q8 q9 q0 q1 q4 => by simp [eA362, eA379, eA424, va_up, q9, q0]) (fun i hi => by simp [eA362, eA379, eA424, va_up, upd, hi]) (Or.inl (by simp [eA362, eA379, eA424, va_up])) (by simp [eA362, eA379, eA424, va_up, hk5]) (fun z => absurd z (by simp [eA362, eA379, eA424, va_up, hk5]))
                  exact share9 mem430 (J429) (A424) (a + 1 + 1 + 1) (hereF L T (a) - 48) (hereF L T (a + 1 + 1) - 48) (a + 1) _ _ _ (⟨⟨kk432, kk433, kk440, kk434, kk435, kk436, kk439, kk437⟩, kk438⟩) (hW431) (tT427) (hno) (⟨by omega, by omega, by omega⟩) (⟨(Or.inl hb228), hEl234, rpt1_d hb279, rpt2_d (rpt1_d hb279) hb385 hb403, by unfold repB; rw [eA424, eA379, eA362, up_up, va_up_self, updx, ← hrA]; rfl⟩) hP hD hS (lv_sub hl [4, 3, 2, 1] rfl)
      · exact absurd hb260 (by decide)
  · refine lv_aload_n Bx.1 Bx.2.1 d_Mo_repetition_22 rfl (lv_at hl 2 rfl) ?_
    refine f_callVi (na := 0) (As := []) (rest := []) Bx hml E hP hD hS (by omega) hM.1 rfl (m_Mo_here l hn hM g1 hL g3 (by omega)) kw_778 kw_780 sel_Mo_here kw_8 kw_781 (by decide +kernel) ⟨rfl, rfl⟩ ⟨Nat.le_of_ble_eq_true rfl, Nat.le_of_ble_eq_true rfl⟩ rfl hl.1 (Nat.le_of_ble_eq_true rfl) d_Mo_repetition_23 ⟨Nat.le_of_ble_eq_true rfl, Nat.le_of_ble_eq_true rfl⟩ (fun r441 mem442 H locs hq hP hS => ?_)
    have hD : va_D (Az sz) (fw n ad mem442) := fw_D hD
    obtain ⟨hre, hq⟩ := hq
    rw [hq] at hP hD
    subst hre
    rw [show hereF L (A 225) (a) = hereF L T (a) by rw [hT]]
    refine lv_bipush (v := 42) Bx.1 Bx.2.1 d_Mo_repetition_26 (by decide) ?_
    refine lv_icmp_ne Bx.1 Bx.2.1 d_Mo_repetition_28 rfl (fun hb443 => ?_) (fun hb443 => ?_)
    · refine lv_aload_n Bx.1 Bx.2.1 d_Mo_repetition_263 rfl (lv_at hl 2 rfl) ?_
      refine f_get Bx hP (by omega) hM.1 rfl inMo 17 (by decide) kw_673 rfl rfl d_Mo_repetition_264 ?_
      rw [g4]
      refine lv_if_ne Bx.1 Bx.2.1 d_Mo_repetition_267 rfl (fun hb444 => ?_) (fun hb444 => ?_)
      · exact absurd hb444 (by decide)
      · refine lv_aload_n Bx.1 Bx.2.1 d_Mo_repetition_270 rfl (lv_at hl 2 rfl) ?_
        refine f_callVv (na := 0) (As := []) (rest := []) Bx hml E hP hD hS (by omega) hM.1 rfl (m_Mo_singleX l hn hM ⟨g1, g2, g3, g4, g5, g6, g7, g8⟩ ⟨hL, by omega, by omega, by omega, by omega⟩ (by omega) hT hp hI) kw_830 kw_832 sel_Mo_single kw_8 kw_833 (by decide +kernel) ⟨rfl, rfl⟩ ⟨Nat.le_of_ble_eq_true rfl, Nat.le_of_ble_eq_true rfl⟩ rfl hl.1 (Nat.le_of_ble_eq_true rfl) d_Mo_repetition_271 ⟨Nat.le_of_ble_eq_true rfl, Nat.le_of_ble_eq_true rfl⟩ (fun mem446 H locs hq hP hS => ?_)
        have hD : va_D (Az sz) (fw n ad mem446) := fw_D hD
        obtain ⟨J447, A448, nn449, hW450, hres451⟩ := hq
        exact W.vret hx hb hr (fun t ht hW => ⟨⟨mem446, rfl, ⟨J447, A448, nn449, hW450, hres451.mono (by omega) (rep_no hb228 hb443)⟩, by show va_P _ _ _ t.heap; rw [ht]; exact hP⟩, hS.F ht⟩) hS.2.2 d_Mo_repetition_274
    · have hlt452 := hereF_lt (by rw [hb443]; decide)
      refine lv_aload_n Bx.1 Bx.2.1 d_Mo_repetition_31 rfl (lv_at hl 2 rfl) ?_
      refine lv_iconst (v := 2) Bx.1 Bx.2.1 d_Mo_repetition_32 (by decide) ?_
      refine lv_iload_n Bx.1 Bx.2.1 d_Mo_repetition_33 rfl (lv_at hl 1 rfl) ?_
      refine f_callVi (na := 2) (As := [.int (2), .int (nI a)]) (rest := []) Bx hml E hP hD hS (by omega) hM.1 rfl (m_Mo_elementX l hn hM (Or.inl g4) g7 (by omega)) kw_814 kw_816 sel_Mo_element kw_8 kw_817 (by decide +kernel) ⟨rfl, rfl⟩ ⟨Nat.le_of_ble_eq_true rfl, Nat.le_of_ble_eq_true rfl⟩ rfl hl.1 (Nat.le_of_ble_eq_true rfl) d_Mo_repetition_34 ⟨Nat.le_of_ble_eq_true rfl, Nat.le_of_ble_eq_true rfl⟩ (fun r453 mem454 H locs hq hP hS => ?_)
      have hD : va_D (Az sz) (fw n ad mem454) := fw_D hD
      rcases hq with ⟨hE462, hre463, J455, hW456, hwr457⟩ | ⟨hEl458, hre464, hW461⟩
      · subst hre463
        have kk465 : J455 1 = nI L := (show J455 1 = J 1 from hwr457.2 1 (by decide) (by decide)).trans g1
        have kk466 : J455 24 = nI G := (show J455 24 = J 24 from hwr457.2 24 (by decide) (by decide)).trans g2
        have kk467 : J455 16 = nI a := (show J455 16 = J 16 from hwr457.2 16 (by decide) (by decide)).trans g3
        have kk468 : J455 14 = nI u := (show J455 14 = J 14 from hwr457.2 14 (by decide) (by decide)).trans g5
        have kk469 : J455 4 = nI R := (show J455 4 = J 4 from hwr457.2 4 (by decide) (by decide)).trans g6
        have kk470 : J455 7 = nI Ec := (show J455 7 = J 7 from hwr457.2 7 (by decide) (by decide)).trans g7
        have kk471 : J455 18 = nI (f + 1) := (show J455 18 = J 18 from hwr457.2 18 (by decide) (by decide)).trans g8
        have kk472 : J455 28 = 0 := (show J455 28 = J 28 from hwr457.2 28 (by decide) (by decide)).trans hp
        refine lv_istore_n (lv' := [(3, .int (0)), (2, .int (nI (f))), (1, .int (nI a)), (0, .ref (ad 224))]) Bx.1 Bx.2.1 d_Mo_repetition_37 rfl hl (by decide) rfl (fun ls hl => ?_)
        refine lv_aload_n Bx.1 Bx.2.1 d_Mo_repetition_38 rfl (lv_at hl 3 rfl) ?_
        refine f_get Bx hP (by omega) hW456.1 rfl inMo 17 (by decide) kw_673 rfl rfl d_Mo_repetition_39 ?_
        refine lv_if_le Bx.1 Bx.2.1 d_Mo_repetition_42 rfl (fun hb473 => ?_) (fun hb473 => ?_)
        · exact absurd hb473 hwr457.1.nle
        · exact W.vret hx hb hr (fun t ht hW => ⟨⟨mem454, rfl, ⟨J455, A, nm, hW456, Or.inl ⟨⟨kk465, kk466, hT, hwr457.1, _, by omega, kk467⟩, rep_E (Or.inr hb443) hE462⟩⟩, by show va_P _ _ _ t.heap; rw [ht]; exact hP⟩, hS.F ht⟩) hS.2.2 d_Mo_repetition_45
      · subst hre464
        obtain ⟨J459, eJ459⟩ : ∃ z, z = va_up J 7 (nI (Ec + 1)) := ⟨_, rfl⟩
        obtain ⟨A460, eA460⟩ : ∃ z, z = elA A (Ec) 2 := ⟨_, rfl⟩
        rw [← eJ459, ← eA460] at hW461
        have kk474 : J459 1 = nI L := (show J459 1 = J 1 from by rw [eJ459]; rfl).trans g1
        have kk475 : J459 24 = nI G := (show J459 24 = J 24 from by rw [eJ459]; rfl).trans g2
        have kk476 : J459 16 = nI a := (show J459 16 = J 16 from by rw [eJ459]; rfl).trans g3
        have kk477 : J459 17 = 0 := (show J459 17 = J 17 from by rw [eJ459]; rfl).trans g4
        have kk478 : J459 14 = nI u := (show J459 14 = J 14 from by rw [eJ459]; rfl).trans g5
        have kk479 : J459 4 = nI R := (show J459 4 = J 4 from by rw [eJ459]; rfl).trans g6
        have kk480 : J459 18 = nI (f + 1) := (show J459 18 = J 18 from by rw [eJ459]; rfl).trans g8
        have kk481 : J459 28 = 0 := (show J459 28 = J 28 from by rw [eJ459]; rfl).trans hp
        have kk482 : J459 7 = nI (Ec + 1) := by rw [eJ459, va_up_self]
        have tT483 : A460 225 = T := by rw [eA460]; exact hT
        refine lv_istore_n (lv' := [(3, .int (nI Ec)), (2, .int (nI (f))), (1, .int (nI a)), (0, .ref (ad 224))]) Bx.1 Bx.2.1 d_Mo_repetition_37 rfl hl (by decide) rfl (fun ls hl => ?_)
        refine lv_aload_n Bx.1 Bx.2.1 d_Mo_repetition_38 rfl (lv_at hl 3 rfl) ?_
        refine f_get Bx hP (by omega) hW461.1 rfl inMo 17 (by decide) kw_673 rfl rfl d_Mo_repetition_39 ?_
        rw [kk477]
        refine lv_if_le Bx.1 Bx.2.1 d_Mo_repetition_42 rfl (fun hb484 => ?_) (fun hb484 => ?_)
        · refine lv_aload_n Bx.1 Bx.2.1 d_Mo_repetition_46 rfl (lv_at hl 3 rfl) ?_
          refine lv_aload_n Bx.1 Bx.2.1 d_Mo_repetition_47 rfl (lv_at hl 3 rfl) ?_
          refine f_get Bx hP (by omega) hW461.1 rfl inMo 22 (by decide) kw_678 rfl rfl d_Mo_repetition_48 ?_
          refine lv_iload_n Bx.1 Bx.2.1 d_Mo_repetition_51 rfl (lv_at hl 1 rfl) ?_
          refine f_iald Bx hP (by omega) (show mem454 238 = .inl (cy 1, 8, .inl (A460 238)) from hW461.2.2.1 238 (by decide) (by decide) (by decide)) (vp_in_nI (n := f) (by omega) (by decide)) d_Mo_repetition_52 ?_
          rw [nI_clamp (n := f) (by omega)]
          rw [show A460 238 (f) = nI (fs f) by simp [eA460, elA, va_up]; exact hfs.1]
          refine lv_iload_n Bx.1 Bx.2.1 d_Mo_repetition_53 rfl (lv_at hl 0 rfl) ?_
          have hkd487 : A460 228 (Ec) = 2 := by simp [eA460, elA, va_up, upd]
          obtain ⟨hnx485, hcl486⟩ := hI.ext (A' := A460) ⟨fun j h1 h2 h3 k hk => by
              have hj : j = 228 ∨ j = 229 ∨ j = 230 ∨ j = 232 ∨ j = 233 := by omega
              rcases hj with rfl | rfl | rfl | rfl | rfl <;> simp [eA460, elA, va_up, upd, Nat.ne_of_lt hk], by simp [eA460, elA, va_up], fun j h1 h2 => by
              have hj : j = 235 ∨ j = 236 ∨ j = 237 ∨ j = 238 ∨ j = 239 := by omega
              rcases hj with rfl | rfl | rfl | rfl | rfl <;> simp [eA460, elA, va_up], by simp [eA460, elA, va_up, upd], by simp [eA460, elA, va_up, upd]⟩ (Nat.le_refl u) (fun z => absurd (hkd487.symm.trans z) (by decide)) (fun z => absurd (hkd487.symm.trans z) (by decide)) (fun k z => z.elim)
          have hrr488 : A460 239 f = -1 ∨ ∃ r, A460 239 f = nI r ∧ fs f < r ∧ r < Ec := by rw [show A460 239 = A 239 by simp [eA460, elA, va_up]]; exact hrr0
          refine f_callVv (na := 2) (As := [.int (nI (fs f)), .int (nI Ec)]) (rest := []) Bx hml E hP hD hS (by omega) hW461.1 rfl (m_Mo_appendX l hn hW461 (to := fs f) (pa := Ec) (show Ec + 1 ≤ 100 by omega) (show fs f < Ec by omega) (Nat.lt_succ_self Ec) hnx485.1 hcl486) kw_822 kw_824 sel_Mo_append kw_8 kw_825 (by decide +kernel) ⟨rfl, rfl⟩ ⟨Nat.le_of_ble_eq_true rfl, Nat.le_of_ble_eq_true rfl⟩ rfl hl.1 (Nat.le_of_ble_eq_true rfl) d_Mo_repetition_54 ⟨Nat.le_of_ble_eq_true rfl, Nat.le_of_ble_eq_true rfl⟩ (fun mem490 H locs hq hP hS => ?_)
          have hD : va_D (Az sz) (fw n ad mem490) := fw_D hD
          obtain ⟨hW492, hap493⟩ := hq
          obtain ⟨A491, eA491⟩ : ∃ z, z = appS A460 (fs f) (Ec) := ⟨_, rfl⟩
          rw [← eA491] at hW492 hap493
          have tT494 : A491 225 = T := by
            obtain ⟨_, _, _, k3, _⟩ := hap493.at
            rw [k3 225 (by decide) (by decide)]; exact tT483
          refine lv_aload_n Bx.1 Bx.2.1 d_Mo_repetition_57 rfl (lv_at hl 3 rfl) ?_
          refine f_get Bx hP (by omega) hW492.1 rfl inMo 23 (by decide) kw_679 rfl rfl d_Mo_repetition_58 ?_
          refine lv_iload_n Bx.1 Bx.2.1 d_Mo_repetition_61 rfl (lv_at hl 1 rfl) ?_
          refine lv_iload_n Bx.1 Bx.2.1 d_Mo_repetition_62 rfl (lv_at hl 0 rfl) ?_
          refine f_iast (x := nI Ec) (i := nI (f)) Bx hP hD hS (by omega) (show mem490 239 = .inl (cy 1, 8, .inl (A491 239)) from hW492.2.2.1 239 (by decide) (by decide) (by decide)) (vp_in_nI (n := f) (by omega) (by decide)) d_Mo_repetition_63 (fun H locs hP hS => ?_)
          rw [nI_clamp (n := f) (by omega)] at hP
          obtain ⟨A495, eA495⟩ : ∃ z, z = va_up A491 239 (upd (A491 239) (f) (nI Ec)) := ⟨_, rfl⟩
          obtain ⟨mem496, e_mem496⟩ : ∃ z, z = va_up mem490 239 (.inl (cy 1, 8, .inl (upd (A491 239) (f) (nI Ec)))) := ⟨_, rfl⟩
          have hP : va_P D vcl (fw n ad mem496) H := by rw [e_mem496]; exact hP
          have hD : va_D (Az sz) (fw n ad mem496) := fw_D hD
          have hW497 : MW cy ad J459 A495 nm m0 mem496 := by rw [e_mem496, eA495]; exact hW492.upA (j := 239) (by decide) (by decide) (by decide) (Or.inl (by decide))
          have tT498 : A495 225 = T := by rw [eA495]; exact tT494
          obtain ⟨hin5, h95⟩ := hnx485.place (by omega) hap493 (Nat.lt_succ_self Ec) (by omega) (by omega) (v := nI Ec) (Or.inr ⟨Ec, rfl, by omega, by omega⟩) (X' := fun _ => False) (fun k _ z => Or.inr (Or.inr (by rw [(z.resolve_left id).1]))) (fun r hr z => absurd (show nI r = -1 by rw [← z, show A460 239 = A 239 by simp [eA460, elA, va_up]]; exact h39) (nI_m (by omega))) eA495
          have hk5 : A495 228 Ec = 2 := by
            obtain ⟨_, _, _, k3, _⟩ := hap493.at
            rw [eA495]
            show A491 228 Ec = 2
            rw [k3 228 (by decide) (by decide)]; exact hkd487
          have hrA : A495 = repA A f Ec := by
            have q9 : (elA A Ec 2 238 f).toNatClampNeg = fs f := by rw [show elA A Ec 2 238 f = nI (fs f) from hfs.1, nI_clamp (n := fs f) (by omega)]
            unfold repA
            simp only []
            rw [q9, eA495, eA491, eA460]
          refine lv_aload_n Bx.1 Bx.2.1 d_Mo_repetition_64 rfl (lv_at hl 3 rfl) ?_
          refine f_callVi (na := 0) (As := []) (rest := []) Bx hml E hP hD hS (by omega) hW497.1 rfl (m_Mo_here l hn hW497 kk474 hL kk476 (by omega)) kw_778 kw_780 sel_Mo_here kw_8 kw_781 (by decide +kernel) ⟨rfl, rfl⟩ ⟨Nat.le_of_ble_eq_true rfl, Nat.le_of_ble_eq_true rfl⟩ rfl hl.1 (Nat.le_of_ble_eq_true rfl) d_Mo_repetition_65 ⟨Nat.le_of_ble_eq_true rfl, Nat.le_of_ble_eq_true rfl⟩ (fun r499 mem500 H locs hq hP hS => ?_)
          have hD : va_D (Az sz) (fw n ad mem500) := fw_D hD
          obtain ⟨hre, hq⟩ := hq
          rw [hq] at hP hD
          subst hre
          rw [show hereF L (A495 225) (a) = hereF L T (a) by rw [tT498]]
          refine f_callSi (na := 1) (As := [.int (hereF L T (a))]) (rest := []) Bx hml E.2.1 (m_Mo_digit l (hereF L T (a))) kw_793 kw_794 kw_8 kw_795 (by decide +kernel) ⟨rfl, rfl⟩ ⟨Nat.le_of_ble_eq_true rfl, Nat.le_of_ble_eq_true rfl⟩ rfl hl.1 (Nat.le_of_ble_eq_true rfl) d_Mo_repetition_68 ⟨Nat.le_of_ble_eq_true rfl, Nat.le_of_ble_eq_true rfl⟩ (fun r502 hs501 => ?_)
          have hs501 : _ = dgF (hereF L T (a)) := hs501
          subst hs501
          refine lv_istore (lv' := [(4, .int (dgF (hereF L T (a)))), (3, .int (nI Ec)), (2, .int (nI (f))), (1, .int (nI a)), (0, .ref (ad 224))]) Bx.1 Bx.2.1 d_Mo_repetition_71 hl (by decide) rfl (fun ls hl => ?_)
          refine lv_aload_n Bx.1 Bx.2.1 d_Mo_repetition_73 rfl (lv_at hl 4 rfl) ?_
          refine f_get Bx hP (by omega) hW497.1 rfl inMo 9 (by decide) kw_665 rfl rfl d_Mo_repetition_74 ?_
          refine lv_iload_n Bx.1 Bx.2.1 d_Mo_repetition_77 rfl (lv_at hl 1 rfl) ?_
          refine lv_iload Bx.1 Bx.2.1 d_Mo_repetition_78 (lv_at hl 0 rfl) ?_
          refine lv_if_eq Bx.1 Bx.2.1 d_Mo_repetition_80 rfl (fun hb503 => ?_) (fun hb503 => ?_)
          · rw [hb503] at hl
            refine lv_iconst (v := 0) Bx.1 Bx.2.1 d_Mo_repetition_93 (by decide) ?_
            refine f_iast (x := 0) (i := nI (Ec)) Bx hP hD hS (by omega) (show mem496 229 = .inl (cy 1, 100, .inl (A495 229)) from hW497.2.2.1 229 (by decide) (by decide) (by decide)) (vp_in_nI (n := Ec) (by omega) (by decide)) d_Mo_repetition_94 (fun H locs hP hS => ?_)
            rw [nI_clamp (n := Ec) (by omega)] at hP
            obtain ⟨A504, eA504⟩ : ∃ z, z = va_up A495 229 (upd (A495 229) (Ec) (0)) := ⟨_, rfl⟩
            obtain ⟨mem505, e_mem505⟩ : ∃ z, z = va_up mem496 229 (.inl (cy 1, 100, .inl (upd (A495 229) (Ec) (0)))) := ⟨_, rfl⟩
            have hP : va_P D vcl (fw n ad mem505) H := by rw [e_mem505]; exact hP
            have hD : va_D (Az sz) (fw n ad mem505) := fw_D hD
            have hW506 : MW cy ad J459 A504 nm m0 mem505 := by rw [e_mem505, eA504]; exact hW497.upA (j := 229) (by decide) (by decide) (by decide) (Or.inl (by decide))
            have tT507 : A504 225 = T := by rw [eA504]; exact tT498
            refine lv_aload_n Bx.1 Bx.2.1 d_Mo_repetition_95 rfl (lv_at hl 4 rfl) ?_
            refine lv_dup Bx.1 Bx.2.1 d_Mo_repetition_96 rfl ?_
            refine f_get Bx hP (by omega) hW506.1 rfl inMo 16 (by decide) kw_672 rfl rfl d_Mo_repetition_97 ?_
            rw [kk476]
            refine lv_iload Bx.1 Bx.2.1 d_Mo_repetition_100 (lv_at hl 0 rfl) ?_
            refine lv_if_eq Bx.1 Bx.2.1 d_Mo_repetition_102 rfl (fun hb508 => ?_) (fun hb508 => ?_)
            · refine lv_iconst (v := 0) Bx.1 Bx.2.1 d_Mo_repetition_109 (by decide) ?_
              refine lv_iadd Bx.1 Bx.2.1 d_Mo_repetition_110 ?_
              rw [show nI a + 0 = nI (a + 0) from nI_add (a) (0)]
              refine f_put Bx hP hD hS (by omega) hW506.1 rfl inMo tyMo okMo nmMo 16 (by decide) kw_672 rfl rfl rfl rfl (Nat.le_of_ble_eq_true rfl) d_Mo_repetition_111 (fun H locs hP hS => ?_)
              obtain ⟨J509, eJ509⟩ : ∃ z, z = va_up J459 16 (nI (a + 0)) := ⟨_, rfl⟩
              obtain ⟨mem510, e_mem510⟩ : ∃ z, z = va_up mem505 224 (moC ad J509) := ⟨_, rfl⟩
              have hP : va_P D vcl (fw n ad mem510) H := by rw [e_mem510, eJ509]; exact hP
              have hD : va_D (Az sz) (fw n ad mem510) := fw_D hD
              have hW511 : MW cy ad J509 A504 nm m0 mem510 := by rw [e_mem510]; exact hW506.upJ (by rw [eJ509]; exact va_up_ne _ _ (by decide))
              have kk512 : J509 1 = nI L := by rw [eJ509]; exact kk474
              have kk513 : J509 24 = nI G := by rw [eJ509]; exact kk475
              have kk514 : J509 17 = 0 := by rw [eJ509]; exact kk477
              have kk515 : J509 14 = nI u := by rw [eJ509]; exact kk478
              have kk516 : J509 4 = nI R := by rw [eJ509]; exact kk479
              have kk517 : J509 18 = nI (f + 1) := by rw [eJ509]; exact kk480
              have kk518 : J509 28 = 0 := by rw [eJ509]; exact kk481
              have kk519 : J509 7 = nI (Ec + 1) := by rw [eJ509]; exact kk482
              have kk520 : J509 16 = nI (a + 0) := by rw [eJ509, va_up_self]
              refine lv_aload_n Bx.1 Bx.2.1 d_Mo_repetition_114 rfl (lv_at hl 4 rfl) ?_
              refine f_get Bx hP (by omega) hW511.1 rfl inMo 10 (by decide) kw_666 rfl rfl d_Mo_repetition_115 ?_
              refine lv_iload_n Bx.1 Bx.2.1 d_Mo_repetition_118 rfl (lv_at hl 1 rfl) ?_
              refine lv_aload_n Bx.1 Bx.2.1 d_Mo_repetition_119 rfl (lv_at hl 4 rfl) ?_
              refine f_get Bx hP (by omega) hW511.1 rfl inMo 9 (by decide) kw_665 rfl rfl d_Mo_repetition_120 ?_
              refine lv_iload_n Bx.1 Bx.2.1 d_Mo_repetition_123 rfl (lv_at hl 1 rfl) ?_
              refine f_iald Bx hP (by omega) (show mem510 229 = .inl (cy 1, 100, .inl (A504 229)) from hW511.2.2.1 229 (by decide) (by decide) (by decide)) (vp_in_nI (n := Ec) (by omega) (by decide)) d_Mo_repetition_124 ?_
              rw [nI_clamp (n := Ec) (by omega)]
              rw [show A504 229 (Ec) = 0 by simp [eA504, va_up, upd]]
              refine f_iast (x := 0) (i := nI (Ec)) Bx hP hD hS (by omega) (show mem510 230 = .inl (cy 1, 100, .inl (A504 230)) from hW511.2.2.1 230 (by decide) (by decide) (by decide)) (vp_in_nI (n := Ec) (by omega) (by decide)) d_Mo_repetition_125 (fun H locs hP hS => ?_)
              rw [nI_clamp (n := Ec) (by omega)] at hP
              obtain ⟨A521, eA521⟩ : ∃ z, z = va_up A504 230 (upd (A504 230) (Ec) (0)) := ⟨_, rfl⟩
              obtain ⟨mem522, e_mem522⟩ : ∃ z, z = va_up mem510 230 (.inl (cy 1, 100, .inl (upd (A504 230) (Ec) (0)))) := ⟨_, rfl⟩
              have hP : va_P D vcl (fw n ad mem522) H := by rw [e_mem522]; exact hP
              have hD : va_D (Az sz) (fw n ad mem522) := fw_D hD
              have hW523 : MW cy ad J509 A521 nm m0 mem522 := by rw [e_mem522, eA521]; exact hW511.upA (j := 230) (by decide) (by decide) (by decide) (Or.inl (by decide))
              have tT524 : A521 225 = T := by rw [eA521]; exact tT507
              refine lv_aload_n Bx.1 Bx.2.1 d_Mo_repetition_126 rfl (lv_at hl 4 rfl) ?_
              refine f_callVi (na := 0) (As := []) (rest := []) Bx hml E hP hD hS (by omega) hW523.1 rfl (m_Mo_here l hn hW523 kk512 hL kk520 (by omega)) kw_778 kw_780 sel_Mo_here kw_8 kw_781 (by decide +kernel) ⟨rfl, rfl⟩ ⟨Nat.le_of_ble_eq_true rfl, Nat.le_of_ble_eq_true rfl⟩ rfl hl.1 (Nat.le_of_ble_eq_true rfl) d_Mo_repetition_127 ⟨Nat.le_of_ble_eq_true rfl, Nat.le_of_ble_eq_true rfl⟩ (fun r525 mem526 H locs hq hP hS => ?_)
              have hD : va_D (Az sz) (fw n ad mem526) := fw_D hD
              obtain ⟨hre, hq⟩ := hq
              rw [hq] at hP hD
              subst hre
              rw [show hereF L (A521 225) (a + 0) = hereF L T (a + 0) by rw [tT524]]
              refine lv_bipush (v := 42) Bx.1 Bx.2.1 d_Mo_repetition_130 (by decide) ?_
              refine lv_icmp_ne Bx.1 Bx.2.1 d_Mo_repetition_132 rfl (fun hb527 => ?_) (fun hb527 => ?_)
              · have hno := hin5.note (A' := A521) (e := Ec) (u' := u) (Nat.le_refl _) (fun j q8 q9 q0 q1 q4 => by simp [eA504, eA521, va_up, q9, q0]) (fun i hi => by simp [eA504, eA521, va_up, upd, hi]) (Or.inl (by simp [eA504, eA521, va_up])) (by simp [eA504, eA521, va_up, hk5]) (fun z => absurd z (by simp [eA504, eA521, va_up, hk5]))
                exact share9 mem522 (J509) (A521) (a + 0) (0) (0) (a + 0) _ _ _ (⟨⟨kk512, kk513, kk520, kk514, kk515, kk516, kk519, kk517⟩, kk518⟩) (hW523) (tT524) (hno) (⟨by omega, by omega, by omega⟩) (⟨(Or.inr hb443), hEl458, rpt1_n hb503, rpt2_n (rpt1_n hb503) hb527, by unfold repB; rw [eA521, eA504, ← hrA]; rfl⟩) hP hD hS (lv_sub hl [4, 3, 2, 1] rfl)
              · have hlt528 := hereF_lt (by rw [hb527]; decide)
                refine lv_aload_n Bx.1 Bx.2.1 d_Mo_repetition_135 rfl (lv_at hl 4 rfl) ?_
                refine lv_dup Bx.1 Bx.2.1 d_Mo_repetition_136 rfl ?_
                refine f_get Bx hP (by omega) hW523.1 rfl inMo 16 (by decide) kw_672 rfl rfl d_Mo_repetition_137 ?_
                rw [kk520]
                refine lv_iconst (v := 1) Bx.1 Bx.2.1 d_Mo_repetition_140 (by decide) ?_
                refine lv_iadd Bx.1 Bx.2.1 d_Mo_repetition_141 ?_
                rw [show nI (a + 0) + 1 = nI (a + 0 + 1) from nI_add (a + 0) (1)]
                refine f_put Bx hP hD hS (by omega) hW523.1 rfl inMo tyMo okMo nmMo 16 (by decide) kw_672 rfl rfl rfl rfl (Nat.le_of_ble_eq_true rfl) d_Mo_repetition_142 (fun H locs hP hS => ?_)
                obtain ⟨J529, eJ529⟩ : ∃ z, z = va_up J509 16 (nI (a + 0 + 1)) := ⟨_, rfl⟩
                obtain ⟨mem530, e_mem530⟩ : ∃ z, z = va_up mem522 224 (moC ad J529) := ⟨_, rfl⟩
                have hP : va_P D vcl (fw n ad mem530) H := by rw [e_mem530, eJ529]; exact hP
                have hD : va_D (Az sz) (fw n ad mem530) := fw_D hD
                have hW531 : MW cy ad J529 A521 nm m0 mem530 := by rw [e_mem530]; exact hW523.upJ (by rw [eJ529]; exact va_up_ne _ _ (by decide))
                have kk532 : J529 1 = nI L := by rw [eJ529]; exact kk512
                have kk533 : J529 24 = nI G := by rw [eJ529]; exact kk513
                have kk534 : J529 17 = 0 := by rw [eJ529]; exact kk514
                have kk535 : J529 14 = nI u := by rw [eJ529]; exact kk515
                have kk536 : J529 4 = nI R := by rw [eJ529]; exact kk516
                have kk537 : J529 18 = nI (f + 1) := by rw [eJ529]; exact kk517
                have kk538 : J529 28 = 0 := by rw [eJ529]; exact kk518
                have kk539 : J529 7 = nI (Ec + 1) := by rw [eJ529]; exact kk519
                have kk540 : J529 16 = nI (a + 0 + 1) := by rw [eJ529, va_up_self]
                refine lv_aload_n Bx.1 Bx.2.1 d_Mo_repetition_145 rfl (lv_at hl 4 rfl) ?_
                refine f_get Bx hP (by omega) hW531.1 rfl inMo 10 (by decide) kw_666 rfl rfl d_Mo_repetition_146 ?_
                refine lv_iload_n Bx.1 Bx.2.1 d_Mo_repetition_149 rfl (lv_at hl 1 rfl) ?_
                refine lv_aload_n Bx.1 Bx.2.1 d_Mo_repetition_150 rfl (lv_at hl 4 rfl) ?_
                refine f_callVi (na := 0) (As := []) (rest := [.int (nI Ec), .ref (ad 230)]) Bx hml E hP hD hS (by omega) hW531.1 rfl (m_Mo_here l hn hW531 kk532 hL kk540 (by omega)) kw_778 kw_780 sel_Mo_here kw_8 kw_781 (by decide +kernel) ⟨rfl, rfl⟩ ⟨Nat.le_of_ble_eq_true rfl, Nat.le_of_ble_eq_true rfl⟩ rfl hl.1 (Nat.le_of_ble_eq_true rfl) d_Mo_repetition_151 ⟨Nat.le_of_ble_eq_true rfl, Nat.le_of_ble_eq_true rfl⟩ (fun r541 mem542 H locs hq hP hS => ?_)
                have hD : va_D (Az sz) (fw n ad mem542) := fw_D hD
                obtain ⟨hre, hq⟩ := hq
                rw [hq] at hP hD
                subst hre
                rw [show hereF L (A521 225) (a + 0 + 1) = hereF L T (a + 0 + 1) by rw [tT524]]
                refine f_callSi (na := 1) (As := [.int (hereF L T (a + 0 + 1))]) (rest := [.int (nI Ec), .ref (ad 230)]) Bx hml E.2.1 (m_Mo_digit l (hereF L T (a + 0 + 1))) kw_793 kw_794 kw_8 kw_795 (by decide +kernel) ⟨rfl, rfl⟩ ⟨Nat.le_of_ble_eq_true rfl, Nat.le_of_ble_eq_true rfl⟩ rfl hl.1 (Nat.le_of_ble_eq_true rfl) d_Mo_repetition_154 ⟨Nat.le_of_ble_eq_true rfl, Nat.le_of_ble_eq_true rfl⟩ (fun r544 hs543 => ?_)
                have hs543 : _ = dgF (hereF L T (a + 0 + 1)) := hs543
                subst hs543
                refine lv_if_eq Bx.1 Bx.2.1 d_Mo_repetition_157 rfl (fun hb545 => ?_) (fun hb545 => ?_)
                · refine lv_iconst (v := -1) Bx.1 Bx.2.1 d_Mo_repetition_170 (by decide) ?_
                  refine f_iast (x := (-1)) (i := nI (Ec)) Bx hP hD hS (by omega) (show mem530 230 = .inl (cy 1, 100, .inl (A521 230)) from hW531.2.2.1 230 (by decide) (by decide) (by decide)) (vp_in_nI (n := Ec) (by omega) (by decide)) d_Mo_repetition_171 (fun H locs hP hS => ?_)
                  rw [nI_clamp (n := Ec) (by omega)] at hP
                  obtain ⟨A546, eA546⟩ : ∃ z, z = va_up A521 230 (upd (A521 230) (Ec) ((-1))) := ⟨_, rfl⟩
                  obtain ⟨mem547, e_mem547⟩ : ∃ z, z = va_up mem530 230 (.inl (cy 1, 100, .inl (upd (A521 230) (Ec) ((-1))))) := ⟨_, rfl⟩
                  have hP : va_P D vcl (fw n ad mem547) H := by rw [e_mem547]; exact hP
                  have hD : va_D (Az sz) (fw n ad mem547) := fw_D hD
                  have hW548 : MW cy ad J529 A546 nm m0 mem547 := by rw [e_mem547, eA546]; exact hW531.upA (j := 230) (by decide) (by decide) (by decide) (Or.inl (by decide))
                  have tT549 : A546 225 = T := by rw [eA546]; exact tT524
                  refine lv_aload_n Bx.1 Bx.2.1 d_Mo_repetition_172 rfl (lv_at hl 4 rfl) ?_
                  refine lv_dup Bx.1 Bx.2.1 d_Mo_repetition_173 rfl ?_
                  refine f_get Bx hP (by omega) hW548.1 rfl inMo 16 (by decide) kw_672 rfl rfl d_Mo_repetition_174 ?_
                  rw [kk540]
                  refine lv_aload_n Bx.1 Bx.2.1 d_Mo_repetition_177 rfl (lv_at hl 4 rfl) ?_
                  refine f_get Bx hP (by omega) hW548.1 rfl inMo 10 (by decide) kw_666 rfl rfl d_Mo_repetition_178 ?_
                  refine lv_iload_n Bx.1 Bx.2.1 d_Mo_repetition_181 rfl (lv_at hl 1 rfl) ?_
                  refine f_iald Bx hP (by omega) (show mem547 230 = .inl (cy 1, 100, .inl (A546 230)) from hW548.2.2.1 230 (by decide) (by decide) (by decide)) (vp_in_nI (n := Ec) (by omega) (by decide)) d_Mo_repetition_182 ?_
                  rw [nI_clamp (n := Ec) (by omega)]
                  rw [show A546 230 (Ec) = -1 by simp [eA504, eA521, eA546, va_up, upd]]
                  refine lv_if_lt Bx.1 Bx.2.1 d_Mo_repetition_183 rfl (fun hb550 => ?_) (fun hb550 => ?_)
                  · refine lv_iconst (v := 0) Bx.1 Bx.2.1 d_Mo_repetition_190 (by decide) ?_
                    refine lv_iadd Bx.1 Bx.2.1 d_Mo_repetition_191 ?_
                    rw [show nI (a + 0 + 1) + 0 = nI (a + 0 + 1 + 0) from nI_add (a + 0 + 1) (0)]
                    refine f_put Bx hP hD hS (by omega) hW548.1 rfl inMo tyMo okMo nmMo 16 (by decide) kw_672 rfl rfl rfl rfl (Nat.le_of_ble_eq_true rfl) d_Mo_repetition_192 (fun H locs hP hS => ?_)
                    obtain ⟨J551, eJ551⟩ : ∃ z, z = va_up J529 16 (nI (a + 0 + 1 + 0)) := ⟨_, rfl⟩
                    obtain ⟨mem552, e_mem552⟩ : ∃ z, z = va_up mem547 224 (moC ad J551) := ⟨_, rfl⟩
                    have hP : va_P D vcl (fw n ad mem552) H := by rw [e_mem552, eJ551]; exact hP
                    have hD : va_D (Az sz) (fw n ad mem552) := fw_D hD
                    have hW553 : MW cy ad J551 A546 nm m0 mem552 := by rw [e_mem552]; exact hW548.upJ (by rw [eJ551]; exact va_up_ne _ _ (by decide))
                    have kk554 : J551 1 = nI L := by rw [eJ551]; exact kk532
                    have kk555 : J551 24 = nI G := by rw [eJ551]; exact kk533
                    have kk556 : J551 17 = 0 := by rw [eJ551]; exact kk534
                    have kk557 : J551 14 = nI u := by rw [eJ551]; exact kk535
                    have kk558 : J551 4 = nI R := by rw [eJ551]; exact kk536
                    have kk559 : J551 18 = nI (f + 1) := by rw [eJ551]; exact kk537
                    have kk560 : J551 28 = 0 := by rw [eJ551]; exact kk538
                    have kk561 : J551 7 = nI (Ec + 1) := by rw [eJ551]; exact kk539
                    have kk562 : J551 16 = nI (a + 0 + 1 + 0) := by rw [eJ551, va_up_self]
                    have hno := hin5.note (A' := A546) (e := Ec) (u' := u) (Nat.le_refl _) (fun j q8 q9 q0 q1 q4 => by simp [eA504, eA521, eA546, va_up, q9, q0]) (fun i hi => by simp [eA504, eA521, eA546, va_up, upd, hi]) (Or.inl (by simp [eA504, eA521, eA546, va_up])) (by simp [eA504, eA521, eA546, va_up, hk5]) (fun z => absurd z (by simp [eA504, eA521, eA546, va_up, hk5]))
                    exact share9 mem552 (J551) (A546) (a + 0 + 1 + 0) (0) ((-1)) (a + 0) _ _ _ (⟨⟨kk554, kk555, kk562, kk556, kk557, kk558, kk561, kk559⟩, kk560⟩) (hW553) (tT549) (hno) (⟨by omega, by omega, by omega⟩) (⟨(Or.inr hb443), hEl458, rpt1_n hb503, rpt2_x (rpt1_n hb503) hb527 hb545, by unfold repB; rw [eA546, eA521, eA504, up_up, va_up_self, updx, ← hrA]; rfl⟩) hP hD hS (lv_sub hl [4, 3, 2, 1] rfl)
                  · exact absurd hb550 (by decide)
                · have hlt563 := hereF_lt (dgF_ne hb545)
                  refine lv_aload_n Bx.1 Bx.2.1 d_Mo_repetition_160 rfl (lv_at hl 4 rfl) ?_
                  refine f_callVi (na := 0) (As := []) (rest := [.int (nI Ec), .ref (ad 230)]) Bx hml E hP hD hS (by omega) hW531.1 rfl (m_Mo_here l hn hW531 kk532 hL kk540 (by omega)) kw_778 kw_780 sel_Mo_here kw_8 kw_781 (by decide +kernel) ⟨rfl, rfl⟩ ⟨Nat.le_of_ble_eq_true rfl, Nat.le_of_ble_eq_true rfl⟩ rfl hl.1 (Nat.le_of_ble_eq_true rfl) d_Mo_repetition_161 ⟨Nat.le_of_ble_eq_true rfl, Nat.le_of_ble_eq_true rfl⟩ (fun r564 mem565 H locs hq hP hS => ?_)
                  have hD : va_D (Az sz) (fw n ad mem565) := fw_D hD
                  obtain ⟨hre, hq⟩ := hq
                  rw [hq] at hP hD
                  subst hre
                  rw [show hereF L (A521 225) (a + 0 + 1) = hereF L T (a + 0 + 1) by rw [tT524]]
                  refine lv_bipush (v := 48) Bx.1 Bx.2.1 d_Mo_repetition_164 (by decide) ?_
                  refine lv_isub Bx.1 Bx.2.1 d_Mo_repetition_166 ?_
                  refine lv_goto Bx.1 Bx.2.1 d_Mo_repetition_167 rfl ?_
                  refine f_iast (x := hereF L T (a + 0 + 1) - 48) (i := nI (Ec)) Bx hP hD hS (by omega) (show mem530 230 = .inl (cy 1, 100, .inl (A521 230)) from hW531.2.2.1 230 (by decide) (by decide) (by decide)) (vp_in_nI (n := Ec) (by omega) (by decide)) d_Mo_repetition_171 (fun H locs hP hS => ?_)
                  rw [nI_clamp (n := Ec) (by omega)] at hP
                  obtain ⟨A566, eA566⟩ : ∃ z, z = va_up A521 230 (upd (A521 230) (Ec) (hereF L T (a + 0 + 1) - 48)) := ⟨_, rfl⟩
                  obtain ⟨mem567, e_mem567⟩ : ∃ z, z = va_up mem530 230 (.inl (cy 1, 100, .inl (upd (A521 230) (Ec) (hereF L T (a + 0 + 1) - 48)))) := ⟨_, rfl⟩
                  have hP : va_P D vcl (fw n ad mem567) H := by rw [e_mem567]; exact hP
                  have hD : va_D (Az sz) (fw n ad mem567) := fw_D hD
                  have hW568 : MW cy ad J529 A566 nm m0 mem567 := by rw [e_mem567, eA566]; exact hW531.upA (j := 230) (by decide) (by decide) (by decide) (Or.inl (by decide))
                  have tT569 : A566 225 = T := by rw [eA566]; exact tT524
                  refine lv_aload_n Bx.1 Bx.2.1 d_Mo_repetition_172 rfl (lv_at hl 4 rfl) ?_
                  refine lv_dup Bx.1 Bx.2.1 d_Mo_repetition_173 rfl ?_
                  refine f_get Bx hP (by omega) hW568.1 rfl inMo 16 (by decide) kw_672 rfl rfl d_Mo_repetition_174 ?_
                  rw [kk540]
                  refine lv_aload_n Bx.1 Bx.2.1 d_Mo_repetition_177 rfl (lv_at hl 4 rfl) ?_
                  refine f_get Bx hP (by omega) hW568.1 rfl inMo 10 (by decide) kw_666 rfl rfl d_Mo_repetition_178 ?_
                  refine lv_iload_n Bx.1 Bx.2.1 d_Mo_repetition_181 rfl (lv_at hl 1 rfl) ?_
                  refine f_iald Bx hP (by omega) (show mem567 230 = .inl (cy 1, 100, .inl (A566 230)) from hW568.2.2.1 230 (by decide) (by decide) (by decide)) (vp_in_nI (n := Ec) (by omega) (by decide)) d_Mo_repetition_182 ?_
                  rw [nI_clamp (n := Ec) (by omega)]
                  rw [show A566 230 (Ec) = hereF L T (a + 0 + 1) - 48 by simp [eA504, eA521, eA566, va_up, upd]]
                  refine lv_if_lt Bx.1 Bx.2.1 d_Mo_repetition_183 rfl (fun hb570 => ?_) (fun hb570 => ?_)
                  · exact absurd hb570 (dgF_sub hb545)
                  · refine lv_iconst (v := 1) Bx.1 Bx.2.1 d_Mo_repetition_186 (by decide) ?_
                    refine lv_goto Bx.1 Bx.2.1 d_Mo_repetition_187 rfl ?_
                    refine lv_iadd Bx.1 Bx.2.1 d_Mo_repetition_191 ?_
                    rw [show nI (a + 0 + 1) + 1 = nI (a + 0 + 1 + 1) from nI_add (a + 0 + 1) (1)]
                    refine f_put Bx hP hD hS (by omega) hW568.1 rfl inMo tyMo okMo nmMo 16 (by decide) kw_672 rfl rfl rfl rfl (Nat.le_of_ble_eq_true rfl) d_Mo_repetition_192 (fun H locs hP hS => ?_)
                    obtain ⟨J571, eJ571⟩ : ∃ z, z = va_up J529 16 (nI (a + 0 + 1 + 1)) := ⟨_, rfl⟩
                    obtain ⟨mem572, e_mem572⟩ : ∃ z, z = va_up mem567 224 (moC ad J571) := ⟨_, rfl⟩
                    have hP : va_P D vcl (fw n ad mem572) H := by rw [e_mem572, eJ571]; exact hP
                    have hD : va_D (Az sz) (fw n ad mem572) := fw_D hD
                    have hW573 : MW cy ad J571 A566 nm m0 mem572 := by rw [e_mem572]; exact hW568.upJ (by rw [eJ571]; exact va_up_ne _ _ (by decide))
                    have kk574 : J571 1 = nI L := by rw [eJ571]; exact kk532
                    have kk575 : J571 24 = nI G := by rw [eJ571]; exact kk533
                    have kk576 : J571 17 = 0 := by rw [eJ571]; exact kk534
                    have kk577 : J571 14 = nI u := by rw [eJ571]; exact kk535
                    have kk578 : J571 4 = nI R := by rw [eJ571]; exact kk536
                    have kk579 : J571 18 = nI (f + 1) := by rw [eJ571]; exact kk537
                    have kk580 : J571 28 = 0 := by rw [eJ571]; exact kk538
                    have kk581 : J571 7 = nI (Ec + 1) := by rw [eJ571]; exact kk539
                    have kk582 : J571 16 = nI (a + 0 + 1 + 1) := by rw [eJ571, va_up_self]
                    have hno := hin5.note (A' := A566) (e := Ec) (u' := u) (Nat.le_refl _) (fun j q8 q9 q0 q1 q4 => by simp [eA504, eA521, eA566, va_up, q9, q0]) (fun i hi => by simp [eA504, eA521, eA566, va_up, upd, hi]) (Or.inl (by simp [eA504, eA521, eA566, va_up])) (by simp [eA504, eA521, eA566, va_up, hk5]) (fun z => absurd z (by simp [eA504, eA521, eA566, va_up, hk5]))
                    exact share9 mem572 (J571) (A566) (a + 0 + 1 + 1) (0) (hereF L T (a + 0 + 1) - 48) (a + 0) _ _ _ (⟨⟨kk574, kk575, kk582, kk576, kk577, kk578, kk581, kk579⟩, kk580⟩) (hW573) (tT569) (hno) (⟨by omega, by omega, by omega⟩) (⟨(Or.inr hb443), hEl458, rpt1_n hb503, rpt2_d (rpt1_n hb503) hb527 hb545, by unfold repB; rw [eA566, eA521, eA504, up_up, va_up_self, updx, ← hrA]; rfl⟩) hP hD hS (lv_sub hl [4, 3, 2, 1] rfl)
            · exact absurd hb508 (by decide)
          · have hlt583 := hereF_lt (dgF_ne hb503)
            rw [dgF_one hb503] at hl
            refine lv_aload_n Bx.1 Bx.2.1 d_Mo_repetition_83 rfl (lv_at hl 4 rfl) ?_
            refine f_callVi (na := 0) (As := []) (rest := [.int (nI Ec), .ref (ad 229)]) Bx hml E hP hD hS (by omega) hW497.1 rfl (m_Mo_here l hn hW497 kk474 hL kk476 (by omega)) kw_778 kw_780 sel_Mo_here kw_8 kw_781 (by decide +kernel) ⟨rfl, rfl⟩ ⟨Nat.le_of_ble_eq_true rfl, Nat.le_of_ble_eq_true rfl⟩ rfl hl.1 (Nat.le_of_ble_eq_true rfl) d_Mo_repetition_84 ⟨Nat.le_of_ble_eq_true rfl, Nat.le_of_ble_eq_true rfl⟩ (fun r584 mem585 H locs hq hP hS => ?_)
            have hD : va_D (Az sz) (fw n ad mem585) := fw_D hD
            obtain ⟨hre, hq⟩ := hq
            rw [hq] at hP hD
            subst hre
            rw [show hereF L (A495 225) (a) = hereF L T (a) by rw [tT498]]
            refine lv_bipush (v := 48) Bx.1 Bx.2.1 d_Mo_repetition_87 (by decide) ?_
            refine lv_isub Bx.1 Bx.2.1 d_Mo_repetition_89 ?_
            refine lv_goto Bx.1 Bx.2.1 d_Mo_repetition_90 rfl ?_
            refine f_iast (x := hereF L T (a) - 48) (i := nI (Ec)) Bx hP hD hS (by omega) (show mem496 229 = .inl (cy 1, 100, .inl (A495 229)) from hW497.2.2.1 229 (by decide) (by decide) (by decide)) (vp_in_nI (n := Ec) (by omega) (by decide)) d_Mo_repetition_94 (fun H locs hP hS => ?_)
            rw [nI_clamp (n := Ec) (by omega)] at hP
            obtain ⟨A586, eA586⟩ : ∃ z, z = va_up A495 229 (upd (A495 229) (Ec) (hereF L T (a) - 48)) := ⟨_, rfl⟩
            obtain ⟨mem587, e_mem587⟩ : ∃ z, z = va_up mem496 229 (.inl (cy 1, 100, .inl (upd (A495 229) (Ec) (hereF L T (a) - 48)))) := ⟨_, rfl⟩
            have hP : va_P D vcl (fw n ad mem587) H := by rw [e_mem587]; exact hP
            have hD : va_D (Az sz) (fw n ad mem587) := fw_D hD
            have hW588 : MW cy ad J459 A586 nm m0 mem587 := by rw [e_mem587, eA586]; exact hW497.upA (j := 229) (by decide) (by decide) (by decide) (Or.inl (by decide))
            have tT589 : A586 225 = T := by rw [eA586]; exact tT498
            refine lv_aload_n Bx.1 Bx.2.1 d_Mo_repetition_95 rfl (lv_at hl 4 rfl) ?_
            refine lv_dup Bx.1 Bx.2.1 d_Mo_repetition_96 rfl ?_
            refine f_get Bx hP (by omega) hW588.1 rfl inMo 16 (by decide) kw_672 rfl rfl d_Mo_repetition_97 ?_
            rw [kk476]
            refine lv_iload Bx.1 Bx.2.1 d_Mo_repetition_100 (lv_at hl 0 rfl) ?_
            refine lv_if_eq Bx.1 Bx.2.1 d_Mo_repetition_102 rfl (fun hb590 => ?_) (fun hb590 => ?_)
            · exact absurd hb590 (by decide)
            · refine lv_iconst (v := 1) Bx.1 Bx.2.1 d_Mo_repetition_105 (by decide) ?_
              refine lv_goto Bx.1 Bx.2.1 d_Mo_repetition_106 rfl ?_
              refine lv_iadd Bx.1 Bx.2.1 d_Mo_repetition_110 ?_
              rw [show nI a + 1 = nI (a + 1) from nI_add (a) (1)]
              refine f_put Bx hP hD hS (by omega) hW588.1 rfl inMo tyMo okMo nmMo 16 (by decide) kw_672 rfl rfl rfl rfl (Nat.le_of_ble_eq_true rfl) d_Mo_repetition_111 (fun H locs hP hS => ?_)
              obtain ⟨J591, eJ591⟩ : ∃ z, z = va_up J459 16 (nI (a + 1)) := ⟨_, rfl⟩
              obtain ⟨mem592, e_mem592⟩ : ∃ z, z = va_up mem587 224 (moC ad J591) := ⟨_, rfl⟩
              have hP : va_P D vcl (fw n ad mem592) H := by rw [e_mem592, eJ591]; exact hP
              have hD : va_D (Az sz) (fw n ad mem592) := fw_D hD
              have hW593 : MW cy ad J591 A586 nm m0 mem592 := by rw [e_mem592]; exact hW588.upJ (by rw [eJ591]; exact va_up_ne _ _ (by decide))
              have kk594 : J591 1 = nI L := by rw [eJ591]; exact kk474
              have kk595 : J591 24 = nI G := by rw [eJ591]; exact kk475
              have kk596 : J591 17 = 0 := by rw [eJ591]; exact kk477
              have kk597 : J591 14 = nI u := by rw [eJ591]; exact kk478
              have kk598 : J591 4 = nI R := by rw [eJ591]; exact kk479
              have kk599 : J591 18 = nI (f + 1) := by rw [eJ591]; exact kk480
              have kk600 : J591 28 = 0 := by rw [eJ591]; exact kk481
              have kk601 : J591 7 = nI (Ec + 1) := by rw [eJ591]; exact kk482
              have kk602 : J591 16 = nI (a + 1) := by rw [eJ591, va_up_self]
              refine lv_aload_n Bx.1 Bx.2.1 d_Mo_repetition_114 rfl (lv_at hl 4 rfl) ?_
              refine f_get Bx hP (by omega) hW593.1 rfl inMo 10 (by decide) kw_666 rfl rfl d_Mo_repetition_115 ?_
              refine lv_iload_n Bx.1 Bx.2.1 d_Mo_repetition_118 rfl (lv_at hl 1 rfl) ?_
              refine lv_aload_n Bx.1 Bx.2.1 d_Mo_repetition_119 rfl (lv_at hl 4 rfl) ?_
              refine f_get Bx hP (by omega) hW593.1 rfl inMo 9 (by decide) kw_665 rfl rfl d_Mo_repetition_120 ?_
              refine lv_iload_n Bx.1 Bx.2.1 d_Mo_repetition_123 rfl (lv_at hl 1 rfl) ?_
              refine f_iald Bx hP (by omega) (show mem592 229 = .inl (cy 1, 100, .inl (A586 229)) from hW593.2.2.1 229 (by decide) (by decide) (by decide)) (vp_in_nI (n := Ec) (by omega) (by decide)) d_Mo_repetition_124 ?_
              rw [nI_clamp (n := Ec) (by omega)]
              rw [show A586 229 (Ec) = hereF L T (a) - 48 by simp [eA586, va_up, upd]]
              refine f_iast (x := hereF L T (a) - 48) (i := nI (Ec)) Bx hP hD hS (by omega) (show mem592 230 = .inl (cy 1, 100, .inl (A586 230)) from hW593.2.2.1 230 (by decide) (by decide) (by decide)) (vp_in_nI (n := Ec) (by omega) (by decide)) d_Mo_repetition_125 (fun H locs hP hS => ?_)
              rw [nI_clamp (n := Ec) (by omega)] at hP
              obtain ⟨A603, eA603⟩ : ∃ z, z = va_up A586 230 (upd (A586 230) (Ec) (hereF L T (a) - 48)) := ⟨_, rfl⟩
              obtain ⟨mem604, e_mem604⟩ : ∃ z, z = va_up mem592 230 (.inl (cy 1, 100, .inl (upd (A586 230) (Ec) (hereF L T (a) - 48)))) := ⟨_, rfl⟩
              have hP : va_P D vcl (fw n ad mem604) H := by rw [e_mem604]; exact hP
              have hD : va_D (Az sz) (fw n ad mem604) := fw_D hD
              have hW605 : MW cy ad J591 A603 nm m0 mem604 := by rw [e_mem604, eA603]; exact hW593.upA (j := 230) (by decide) (by decide) (by decide) (Or.inl (by decide))
              have tT606 : A603 225 = T := by rw [eA603]; exact tT589
              refine lv_aload_n Bx.1 Bx.2.1 d_Mo_repetition_126 rfl (lv_at hl 4 rfl) ?_
              refine f_callVi (na := 0) (As := []) (rest := []) Bx hml E hP hD hS (by omega) hW605.1 rfl (m_Mo_here l hn hW605 kk594 hL kk602 (by omega)) kw_778 kw_780 sel_Mo_here kw_8 kw_781 (by decide +kernel) ⟨rfl, rfl⟩ ⟨Nat.le_of_ble_eq_true rfl, Nat.le_of_ble_eq_true rfl⟩ rfl hl.1 (Nat.le_of_ble_eq_true rfl) d_Mo_repetition_127 ⟨Nat.le_of_ble_eq_true rfl, Nat.le_of_ble_eq_true rfl⟩ (fun r607 mem608 H locs hq hP hS => ?_)
              have hD : va_D (Az sz) (fw n ad mem608) := fw_D hD
              obtain ⟨hre, hq⟩ := hq
              rw [hq] at hP hD
              subst hre
              rw [show hereF L (A603 225) (a + 1) = hereF L T (a + 1) by rw [tT606]]
              refine lv_bipush (v := 42) Bx.1 Bx.2.1 d_Mo_repetition_130 (by decide) ?_
              refine lv_icmp_ne Bx.1 Bx.2.1 d_Mo_repetition_132 rfl (fun hb609 => ?_) (fun hb609 => ?_)
              · have hno := hin5.note (A' := A603) (e := Ec) (u' := u) (Nat.le_refl _) (fun j q8 q9 q0 q1 q4 => by simp [eA586, eA603, va_up, q9, q0]) (fun i hi => by simp [eA586, eA603, va_up, upd, hi]) (Or.inl (by simp [eA586, eA603, va_up])) (by simp [eA586, eA603, va_up, hk5]) (fun z => absurd z (by simp [eA586, eA603, va_up, hk5]))
                exact share9 mem604 (J591) (A603) (a + 1) (hereF L T (a) - 48) (hereF L T (a) - 48) (a + 1) _ _ _ (⟨⟨kk594, kk595, kk602, kk596, kk597, kk598, kk601, kk599⟩, kk600⟩) (hW605) (tT606) (hno) (⟨by omega, by omega, by omega⟩) (⟨(Or.inr hb443), hEl458, rpt1_d hb503, rpt2_n (rpt1_d hb503) hb609, by unfold repB; rw [eA603, eA586, ← hrA]; rfl⟩) hP hD hS (lv_sub hl [4, 3, 2, 1] rfl)
              · have hlt610 := hereF_lt (by rw [hb609]; decide)
                refine lv_aload_n Bx.1 Bx.2.1 d_Mo_repetition_135 rfl (lv_at hl 4 rfl) ?_
                refine lv_dup Bx.1 Bx.2.1 d_Mo_repetition_136 rfl ?_
                refine f_get Bx hP (by omega) hW605.1 rfl inMo 16 (by decide) kw_672 rfl rfl d_Mo_repetition_137 ?_
                rw [kk602]
                refine lv_iconst (v := 1) Bx.1 Bx.2.1 d_Mo_repetition_140 (by decide) ?_
                refine lv_iadd Bx.1 Bx.2.1 d_Mo_repetition_141 ?_
                rw [show nI (a + 1) + 1 = nI (a + 1 + 1) from nI_add (a + 1) (1)]
                refine f_put Bx hP hD hS (by omega) hW605.1 rfl inMo tyMo okMo nmMo 16 (by decide) kw_672 rfl rfl rfl rfl (Nat.le_of_ble_eq_true rfl) d_Mo_repetition_142 (fun H locs hP hS => ?_)
                obtain ⟨J611, eJ611⟩ : ∃ z, z = va_up J591 16 (nI (a + 1 + 1)) := ⟨_, rfl⟩
                obtain ⟨mem612, e_mem612⟩ : ∃ z, z = va_up mem604 224 (moC ad J611) := ⟨_, rfl⟩
                have hP : va_P D vcl (fw n ad mem612) H := by rw [e_mem612, eJ611]; exact hP
                have hD : va_D (Az sz) (fw n ad mem612) := fw_D hD
                have hW613 : MW cy ad J611 A603 nm m0 mem612 := by rw [e_mem612]; exact hW605.upJ (by rw [eJ611]; exact va_up_ne _ _ (by decide))
                have kk614 : J611 1 = nI L := by rw [eJ611]; exact kk594
                have kk615 : J611 24 = nI G := by rw [eJ611]; exact kk595
                have kk616 : J611 17 = 0 := by rw [eJ611]; exact kk596
                have kk617 : J611 14 = nI u := by rw [eJ611]; exact kk597
                have kk618 : J611 4 = nI R := by rw [eJ611]; exact kk598
                have kk619 : J611 18 = nI (f + 1) := by rw [eJ611]; exact kk599
                have kk620 : J611 28 = 0 := by rw [eJ611]; exact kk600
                have kk621 : J611 7 = nI (Ec + 1) := by rw [eJ611]; exact kk601
                have kk622 : J611 16 = nI (a + 1 + 1) := by rw [eJ611, va_up_self]
                refine lv_aload_n Bx.1 Bx.2.1 d_Mo_repetition_145 rfl (lv_at hl 4 rfl) ?_
                refine f_get Bx hP (by omega) hW613.1 rfl inMo 10 (by decide) kw_666 rfl rfl d_Mo_repetition_146 ?_
                refine lv_iload_n Bx.1 Bx.2.1 d_Mo_repetition_149 rfl (lv_at hl 1 rfl) ?_
                refine lv_aload_n Bx.1 Bx.2.1 d_Mo_repetition_150 rfl (lv_at hl 4 rfl) ?_
                refine f_callVi (na := 0) (As := []) (rest := [.int (nI Ec), .ref (ad 230)]) Bx hml E hP hD hS (by omega) hW613.1 rfl (m_Mo_here l hn hW613 kk614 hL kk622 (by omega)) kw_778 kw_780 sel_Mo_here kw_8 kw_781 (by decide +kernel) ⟨rfl, rfl⟩ ⟨Nat.le_of_ble_eq_true rfl, Nat.le_of_ble_eq_true rfl⟩ rfl hl.1 (Nat.le_of_ble_eq_true rfl) d_Mo_repetition_151 ⟨Nat.le_of_ble_eq_true rfl, Nat.le_of_ble_eq_true rfl⟩ (fun r623 mem624 H locs hq hP hS => ?_)
                have hD : va_D (Az sz) (fw n ad mem624) := fw_D hD
                obtain ⟨hre, hq⟩ := hq
                rw [hq] at hP hD
                subst hre
                rw [show hereF L (A603 225) (a + 1 + 1) = hereF L T (a + 1 + 1) by rw [tT606]]
                refine f_callSi (na := 1) (As := [.int (hereF L T (a + 1 + 1))]) (rest := [.int (nI Ec), .ref (ad 230)]) Bx hml E.2.1 (m_Mo_digit l (hereF L T (a + 1 + 1))) kw_793 kw_794 kw_8 kw_795 (by decide +kernel) ⟨rfl, rfl⟩ ⟨Nat.le_of_ble_eq_true rfl, Nat.le_of_ble_eq_true rfl⟩ rfl hl.1 (Nat.le_of_ble_eq_true rfl) d_Mo_repetition_154 ⟨Nat.le_of_ble_eq_true rfl, Nat.le_of_ble_eq_true rfl⟩ (fun r626 hs625 => ?_)
                have hs625 : _ = dgF (hereF L T (a + 1 + 1)) := hs625
                subst hs625
                refine lv_if_eq Bx.1 Bx.2.1 d_Mo_repetition_157 rfl (fun hb627 => ?_) (fun hb627 => ?_)
                · refine lv_iconst (v := -1) Bx.1 Bx.2.1 d_Mo_repetition_170 (by decide) ?_
                  refine f_iast (x := (-1)) (i := nI (Ec)) Bx hP hD hS (by omega) (show mem612 230 = .inl (cy 1, 100, .inl (A603 230)) from hW613.2.2.1 230 (by decide) (by decide) (by decide)) (vp_in_nI (n := Ec) (by omega) (by decide)) d_Mo_repetition_171 (fun H locs hP hS => ?_)
                  rw [nI_clamp (n := Ec) (by omega)] at hP
                  obtain ⟨A628, eA628⟩ : ∃ z, z = va_up A603 230 (upd (A603 230) (Ec) ((-1))) := ⟨_, rfl⟩
                  obtain ⟨mem629, e_mem629⟩ : ∃ z, z = va_up mem612 230 (.inl (cy 1, 100, .inl (upd (A603 230) (Ec) ((-1))))) := ⟨_, rfl⟩
                  have hP : va_P D vcl (fw n ad mem629) H := by rw [e_mem629]; exact hP
                  have hD : va_D (Az sz) (fw n ad mem629) := fw_D hD
                  have hW630 : MW cy ad J611 A628 nm m0 mem629 := by rw [e_mem629, eA628]; exact hW613.upA (j := 230) (by decide) (by decide) (by decide) (Or.inl (by decide))
                  have tT631 : A628 225 = T := by rw [eA628]; exact tT606
                  refine lv_aload_n Bx.1 Bx.2.1 d_Mo_repetition_172 rfl (lv_at hl 4 rfl) ?_
                  refine lv_dup Bx.1 Bx.2.1 d_Mo_repetition_173 rfl ?_
                  refine f_get Bx hP (by omega) hW630.1 rfl inMo 16 (by decide) kw_672 rfl rfl d_Mo_repetition_174 ?_
                  rw [kk622]
                  refine lv_aload_n Bx.1 Bx.2.1 d_Mo_repetition_177 rfl (lv_at hl 4 rfl) ?_
                  refine f_get Bx hP (by omega) hW630.1 rfl inMo 10 (by decide) kw_666 rfl rfl d_Mo_repetition_178 ?_
                  refine lv_iload_n Bx.1 Bx.2.1 d_Mo_repetition_181 rfl (lv_at hl 1 rfl) ?_
                  refine f_iald Bx hP (by omega) (show mem629 230 = .inl (cy 1, 100, .inl (A628 230)) from hW630.2.2.1 230 (by decide) (by decide) (by decide)) (vp_in_nI (n := Ec) (by omega) (by decide)) d_Mo_repetition_182 ?_
                  rw [nI_clamp (n := Ec) (by omega)]
                  rw [show A628 230 (Ec) = -1 by simp [eA586, eA603, eA628, va_up, upd]]
                  refine lv_if_lt Bx.1 Bx.2.1 d_Mo_repetition_183 rfl (fun hb632 => ?_) (fun hb632 => ?_)
                  · refine lv_iconst (v := 0) Bx.1 Bx.2.1 d_Mo_repetition_190 (by decide) ?_
                    refine lv_iadd Bx.1 Bx.2.1 d_Mo_repetition_191 ?_
                    rw [show nI (a + 1 + 1) + 0 = nI (a + 1 + 1 + 0) from nI_add (a + 1 + 1) (0)]
                    refine f_put Bx hP hD hS (by omega) hW630.1 rfl inMo tyMo okMo nmMo 16 (by decide) kw_672 rfl rfl rfl rfl (Nat.le_of_ble_eq_true rfl) d_Mo_repetition_192 (fun H locs hP hS => ?_)
                    obtain ⟨J633, eJ633⟩ : ∃ z, z = va_up J611 16 (nI (a + 1 + 1 + 0)) := ⟨_, rfl⟩
                    obtain ⟨mem634, e_mem634⟩ : ∃ z, z = va_up mem629 224 (moC ad J633) := ⟨_, rfl⟩
                    have hP : va_P D vcl (fw n ad mem634) H := by rw [e_mem634, eJ633]; exact hP
                    have hD : va_D (Az sz) (fw n ad mem634) := fw_D hD
                    have hW635 : MW cy ad J633 A628 nm m0 mem634 := by rw [e_mem634]; exact hW630.upJ (by rw [eJ633]; exact va_up_ne _ _ (by decide))
                    have kk636 : J633 1 = nI L := by rw [eJ633]; exact kk614
                    have kk637 : J633 24 = nI G := by rw [eJ633]; exact kk615
                    have kk638 : J633 17 = 0 := by rw [eJ633]; exact kk616
                    have kk639 : J633 14 = nI u := by rw [eJ633]; exact kk617
                    have kk640 : J633 4 = nI R := by rw [eJ633]; exact kk618
                    have kk641 : J633 18 = nI (f + 1) := by rw [eJ633]; exact kk619
                    have kk642 : J633 28 = 0 := by rw [eJ633]; exact kk620
                    have kk643 : J633 7 = nI (Ec + 1) := by rw [eJ633]; exact kk621
                    have kk644 : J633 16 = nI (a + 1 + 1 + 0) := by rw [eJ633, va_up_self]
                    have hno := hin5.note (A' := A628) (e := Ec) (u' := u) (Nat.le_refl _) (fun j q8 q9 q0 q1 q4 => by simp [eA586, eA603, eA628, va_up, q9, q0]) (fun i hi => by simp [eA586, eA603, eA628, va_up, upd, hi]) (Or.inl (by simp [eA586, eA603, eA628, va_up])) (by simp [eA586, eA603, eA628, va_up, hk5]) (fun z => absurd z (by simp [eA586, eA603, eA628, va_up, hk5]))
                    exact share9 mem634 (J633) (A628) (a + 1 + 1 + 0) (hereF L T (a) - 48) ((-1)) (a + 1) _ _ _ (⟨⟨kk636, kk637, kk644, kk638, kk639, kk640, kk643, kk641⟩, kk642⟩) (hW635) (tT631) (hno) (⟨by omega, by omega, by omega⟩) (⟨(Or.inr hb443), hEl458, rpt1_d hb503, rpt2_x (rpt1_d hb503) hb609 hb627, by unfold repB; rw [eA628, eA603, eA586, up_up, va_up_self, updx, ← hrA]; rfl⟩) hP hD hS (lv_sub hl [4, 3, 2, 1] rfl)
                  · exact absurd hb632 (by decide)
                · have hlt645 := hereF_lt (dgF_ne hb627)
                  refine lv_aload_n Bx.1 Bx.2.1 d_Mo_repetition_160 rfl (lv_at hl 4 rfl) ?_
                  refine f_callVi (na := 0) (As := []) (rest := [.int (nI Ec), .ref (ad 230)]) Bx hml E hP hD hS (by omega) hW613.1 rfl (m_Mo_here l hn hW613 kk614 hL kk622 (by omega)) kw_778 kw_780 sel_Mo_here kw_8 kw_781 (by decide +kernel) ⟨rfl, rfl⟩ ⟨Nat.le_of_ble_eq_true rfl, Nat.le_of_ble_eq_true rfl⟩ rfl hl.1 (Nat.le_of_ble_eq_true rfl) d_Mo_repetition_161 ⟨Nat.le_of_ble_eq_true rfl, Nat.le_of_ble_eq_true rfl⟩ (fun r646 mem647 H locs hq hP hS => ?_)
                  have hD : va_D (Az sz) (fw n ad mem647) := fw_D hD
                  obtain ⟨hre, hq⟩ := hq
                  rw [hq] at hP hD
                  subst hre
                  rw [show hereF L (A603 225) (a + 1 + 1) = hereF L T (a + 1 + 1) by rw [tT606]]
                  refine lv_bipush (v := 48) Bx.1 Bx.2.1 d_Mo_repetition_164 (by decide) ?_
                  refine lv_isub Bx.1 Bx.2.1 d_Mo_repetition_166 ?_
                  refine lv_goto Bx.1 Bx.2.1 d_Mo_repetition_167 rfl ?_
                  refine f_iast (x := hereF L T (a + 1 + 1) - 48) (i := nI (Ec)) Bx hP hD hS (by omega) (show mem612 230 = .inl (cy 1, 100, .inl (A603 230)) from hW613.2.2.1 230 (by decide) (by decide) (by decide)) (vp_in_nI (n := Ec) (by omega) (by decide)) d_Mo_repetition_171 (fun H locs hP hS => ?_)
                  rw [nI_clamp (n := Ec) (by omega)] at hP
                  obtain ⟨A648, eA648⟩ : ∃ z, z = va_up A603 230 (upd (A603 230) (Ec) (hereF L T (a + 1 + 1) - 48)) := ⟨_, rfl⟩
                  obtain ⟨mem649, e_mem649⟩ : ∃ z, z = va_up mem612 230 (.inl (cy 1, 100, .inl (upd (A603 230) (Ec) (hereF L T (a + 1 + 1) - 48)))) := ⟨_, rfl⟩
                  have hP : va_P D vcl (fw n ad mem649) H := by rw [e_mem649]; exact hP
                  have hD : va_D (Az sz) (fw n ad mem649) := fw_D hD
                  have hW650 : MW cy ad J611 A648 nm m0 mem649 := by rw [e_mem649, eA648]; exact hW613.upA (j := 230) (by decide) (by decide) (by decide) (Or.inl (by decide))
                  have tT651 : A648 225 = T := by rw [eA648]; exact tT606
                  refine lv_aload_n Bx.1 Bx.2.1 d_Mo_repetition_172 rfl (lv_at hl 4 rfl) ?_
                  refine lv_dup Bx.1 Bx.2.1 d_Mo_repetition_173 rfl ?_
                  refine f_get Bx hP (by omega) hW650.1 rfl inMo 16 (by decide) kw_672 rfl rfl d_Mo_repetition_174 ?_
                  rw [kk622]
                  refine lv_aload_n Bx.1 Bx.2.1 d_Mo_repetition_177 rfl (lv_at hl 4 rfl) ?_
                  refine f_get Bx hP (by omega) hW650.1 rfl inMo 10 (by decide) kw_666 rfl rfl d_Mo_repetition_178 ?_
                  refine lv_iload_n Bx.1 Bx.2.1 d_Mo_repetition_181 rfl (lv_at hl 1 rfl) ?_
                  refine f_iald Bx hP (by omega) (show mem649 230 = .inl (cy 1, 100, .inl (A648 230)) from hW650.2.2.1 230 (by decide) (by decide) (by decide)) (vp_in_nI (n := Ec) (by omega) (by decide)) d_Mo_repetition_182 ?_
                  rw [nI_clamp (n := Ec) (by omega)]
                  rw [show A648 230 (Ec) = hereF L T (a + 1 + 1) - 48 by simp [eA586, eA603, eA648, va_up, upd]]
                  refine lv_if_lt Bx.1 Bx.2.1 d_Mo_repetition_183 rfl (fun hb652 => ?_) (fun hb652 => ?_)
                  · exact absurd hb652 (dgF_sub hb627)
                  · refine lv_iconst (v := 1) Bx.1 Bx.2.1 d_Mo_repetition_186 (by decide) ?_
                    refine lv_goto Bx.1 Bx.2.1 d_Mo_repetition_187 rfl ?_
                    refine lv_iadd Bx.1 Bx.2.1 d_Mo_repetition_191 ?_
                    rw [show nI (a + 1 + 1) + 1 = nI (a + 1 + 1 + 1) from nI_add (a + 1 + 1) (1)]
                    refine f_put Bx hP hD hS (by omega) hW650.1 rfl inMo tyMo okMo nmMo 16 (by decide) kw_672 rfl rfl rfl rfl (Nat.le_of_ble_eq_true rfl) d_Mo_repetition_192 (fun H locs hP hS => ?_)
                    obtain ⟨J653, eJ653⟩ : ∃ z, z = va_up J611 16 (nI (a + 1 + 1 + 1)) := ⟨_, rfl⟩
                    obtain ⟨mem654, e_mem654⟩ : ∃ z, z = va_up mem649 224 (moC ad J653) := ⟨_, rfl⟩
                    have hP : va_P D vcl (fw n ad mem654) H := by rw [e_mem654, eJ653]; exact hP
                    have hD : va_D (Az sz) (fw n ad mem654) := fw_D hD
                    have hW655 : MW cy ad J653 A648 nm m0 mem654 := by rw [e_mem654]; exact hW650.upJ (by rw [eJ653]; exact va_up_ne _ _ (by decide))
                    have kk656 : J653 1 = nI L := by rw [eJ653]; exact kk614
                    have kk657 : J653 24 = nI G := by rw [eJ653]; exact kk615
                    have kk658 : J653 17 = 0 := by rw [eJ653]; exact kk616
                    have kk659 : J653 14 = nI u := by rw [eJ653]; exact kk617
                    have kk660 : J653 4 = nI R := by rw [eJ653]; exact kk618
                    have kk661 : J653 18 = nI (f + 1) := by rw [eJ653]; exact kk619
                    have kk662 : J653 28 = 0 := by rw [eJ653]; exact kk620
                    have kk663 : J653 7 = nI (Ec + 1) := by rw [eJ653]; exact kk621
                    have kk664 : J653 16 = nI (a + 1 + 1 + 1) := by rw [eJ653, va_up_self]
                    have hno := hin5.note (A' := A648) (e := Ec) (u' := u) (Nat.le_refl _) (fun j q8 q9 q0 q1 q4 => by simp [eA586, eA603, eA648, va_up, q9, q0]) (fun i hi => by simp [eA586, eA603, eA648, va_up, upd, hi]) (Or.inl (by simp [eA586, eA603, eA648, va_up])) (by simp [eA586, eA603, eA648, va_up, hk5]) (fun z => absurd z (by simp [eA586, eA603, eA648, va_up, hk5]))
                    exact share9 mem654 (J653) (A648) (a + 1 + 1 + 1) (hereF L T (a) - 48) (hereF L T (a + 1 + 1) - 48) (a + 1) _ _ _ (⟨⟨kk656, kk657, kk664, kk658, kk659, kk660, kk663, kk661⟩, kk662⟩) (hW655) (tT651) (hno) (⟨by omega, by omega, by omega⟩) (⟨(Or.inr hb443), hEl458, rpt1_d hb503, rpt2_d (rpt1_d hb503) hb609 hb627, by unfold repB; rw [eA648, eA603, eA586, up_up, va_up_self, updx, ← hrA]; rfl⟩) hP hD hS (lv_sub hl [4, 3, 2, 1] rfl)
        · exact absurd hb484 (by decide)
set_option maxHeartbeats 4000000 in
set_option maxRecDepth 100000 in
theorem m_Mo_sequenceX (l : Launch) {D : va_G} {cy : Nat → ClassId} {sz n : Nat} {ad : Nat → Nat} {mem : Nat → va_E} {J : Nat → Int32} {A : Nat → Nat → Int32} {nm : Nat → Int64} {m0 : Nat → va_E} {L G a u R f : Nat} {T : Nat → Int32} {fc fs ft : Nat → Nat} {Ec : Nat} (hn : 242 ≤ n) (hM : MW cy ad J A nm m0 mem) (hNm : Num L G a u R Ec f J) (hBd : L ≤ 240 ∧ a ≤ L ∧ u ≤ a ∧ R ≤ 12 ∧ f ≤ 6) (hEb : Ec ≤ 100) (hT : A 225 = T) (hp : J 28 = 0) (hI : Inv R Ec u f False fc fs ft A (fun _ => False)) (h39 : A 239 f = -1) : MV l D cy sz n ad y_Mo_sequence c_Mo_sequence 2 ({ frames := 7, cells := 0, slots := 0, locals := 205 } : Room) mem [.ref (ad 224)] (fun mem' => ∃ J' A' nm', MW cy ad J' A' nm' m0 mem' ∧ Res9 L G T a J' A' nm' (seqS T L a u R Ec f A nm)) := by
  refine Met.ofW (cc := c_Mo_sequence) (maxL := 2) (ret := none) (by decide) rfl ?_
  intro p e s m args below meth c s₁ B hml hv
  obtain ⟨rfl, E, hP, hD⟩ := hv
  have hx := B.exec
  have hb := B.bytes
  have hr := B.returns
  have hlocks := B.notSynchronized
  have Bx : MB p s m [.ref (ad 224)].toArray c c_Mo_sequence "AbnfChartModel" D cy := ⟨hx, hb, tb_all (atoms_spec B.pre) E.2.1, findClass_of_methodNamed B.named, E.1⟩
  have hS : va_S (Az sz) s.heap s.heap [] := va_S.rf
  have hl := lv_entry ([.ref (ad 224)]) (n := 2) (Nat.le_of_ble_eq_true rfl)
  rw [lg_entry_eq]
  generalize (lg_sl ([.ref (ad 224)]) ++ List.replicate (2 - (lg_sl ([.ref (ad 224)])).length) Slot.unset).toArray = ls at hl ⊢
  have hl : lv_has ls 2 [(0, .ref (ad 224))] := hl
  obtain ⟨hL, haL, huA, hRb, hfb⟩ := hBd
  obtain ⟨g1, g2, g3, g4, g5, g6, g7, g8⟩ := hNm
  have hfg := hI.2.2.2.2 f (Nat.le_refl _)
  have hrr0 := hfg.rep
  have hfc := hfg.1.2.2
  refine lv_aload_n Bx.1 Bx.2.1 d_Mo_sequence_0 rfl (lv_at hl 0 rfl) ?_
  refine f_callVi (na := 0) (As := []) (rest := []) Bx hml E hP hD hS (by omega) hM.1 rfl (m_Mo_here l hn hM g1 hL g3 (by omega)) kw_778 kw_780 sel_Mo_here kw_8 kw_781 (by decide +kernel) ⟨rfl, rfl⟩ ⟨Nat.le_of_ble_eq_true rfl, Nat.le_of_ble_eq_true rfl⟩ rfl hl.1 (Nat.le_of_ble_eq_true rfl) d_Mo_sequence_1 ⟨Nat.le_of_ble_eq_true rfl, Nat.le_of_ble_eq_true rfl⟩ (fun r9 mem10 H locs hq hP hS => ?_)
  have hD : va_D (Az sz) (fw n ad mem10) := fw_D hD
  obtain ⟨hre, hq⟩ := hq
  rw [hq] at hP hD
  subst hre
  rw [show hereF L (A 225) (a) = hereF L T (a) by rw [hT]]
  refine f_callSi (na := 1) (As := [.int (hereF L T (a))]) (rest := []) Bx hml E.2.1 (m_Mo_beginsX l (hereF L T (a))) kw_811 kw_812 kw_8 kw_813 (by decide +kernel) ⟨rfl, rfl⟩ ⟨Nat.le_of_ble_eq_true rfl, Nat.le_of_ble_eq_true rfl⟩ rfl hl.1 (Nat.le_of_ble_eq_true rfl) d_Mo_sequence_4 ⟨Nat.le_of_ble_eq_true rfl, Nat.le_of_ble_eq_true rfl⟩ (fun r12 hs11 => ?_)
  subst hs11
  refine lv_if_ne Bx.1 Bx.2.1 d_Mo_sequence_7 rfl (fun hb13 => ?_) (fun hb13 => ?_)
  · refine lv_aload_n Bx.1 Bx.2.1 d_Mo_sequence_20 rfl (lv_at hl 0 rfl) ?_
    refine f_get Bx hP (by omega) hM.1 rfl inMo 18 (by decide) kw_674 rfl rfl d_Mo_sequence_21 ?_
    rw [g8]
    refine lv_iconst (v := 1) Bx.1 Bx.2.1 d_Mo_sequence_24 (by decide) ?_
    refine lv_isub Bx.1 Bx.2.1 d_Mo_sequence_25 ?_
    rw [show nI (f + 1) - 1 = nI (f) from nI_pred (f)]
    refine lv_istore_n (lv' := [(1, .int (nI (f))), (0, .ref (ad 224))]) Bx.1 Bx.2.1 d_Mo_sequence_26 rfl hl (by decide) rfl (fun ls hl => ?_)
    refine lv_aload_n Bx.1 Bx.2.1 d_Mo_sequence_27 rfl (lv_at hl 1 rfl) ?_
    refine f_get Bx hP (by omega) hM.1 rfl inMo 22 (by decide) kw_678 rfl rfl d_Mo_sequence_28 ?_
    refine lv_iload_n Bx.1 Bx.2.1 d_Mo_sequence_31 rfl (lv_at hl 0 rfl) ?_
    refine lv_aload_n Bx.1 Bx.2.1 d_Mo_sequence_32 rfl (lv_at hl 1 rfl) ?_
    refine lv_iconst (v := 1) Bx.1 Bx.2.1 d_Mo_sequence_33 (by decide) ?_
    refine lv_aload_n Bx.1 Bx.2.1 d_Mo_sequence_34 rfl (lv_at hl 1 rfl) ?_
    refine f_get Bx hP (by omega) hM.1 rfl inMo 16 (by decide) kw_672 rfl rfl d_Mo_sequence_35 ?_
    rw [g3]
    refine f_callVi (na := 2) (As := [.int (1), .int (nI a)]) (rest := [.int (nI (f)), .ref (ad 238)]) Bx hml E hP hD hS (by omega) hM.1 rfl (m_Mo_elementX l hn hM (Or.inl g4) g7 (by omega)) kw_814 kw_816 sel_Mo_element kw_8 kw_817 (by decide +kernel) ⟨rfl, rfl⟩ ⟨Nat.le_of_ble_eq_true rfl, Nat.le_of_ble_eq_true rfl⟩ rfl hl.1 (Nat.le_of_ble_eq_true rfl) d_Mo_sequence_38 ⟨Nat.le_of_ble_eq_true rfl, Nat.le_of_ble_eq_true rfl⟩ (fun r14 mem15 H locs hq hP hS => ?_)
    have hD : va_D (Az sz) (fw n ad mem15) := fw_D hD
    rcases hq with ⟨hE23, hre24, J16, hW17, hwr18⟩ | ⟨hEl19, hre25, hW22⟩
    · subst hre24
      have kk26 : J16 1 = nI L := (show J16 1 = J 1 from hwr18.2 1 (by decide) (by decide)).trans g1
      have kk27 : J16 24 = nI G := (show J16 24 = J 24 from hwr18.2 24 (by decide) (by decide)).trans g2
      have kk28 : J16 16 = nI a := (show J16 16 = J 16 from hwr18.2 16 (by decide) (by decide)).trans g3
      have kk29 : J16 14 = nI u := (show J16 14 = J 14 from hwr18.2 14 (by decide) (by decide)).trans g5
      have kk30 : J16 4 = nI R := (show J16 4 = J 4 from hwr18.2 4 (by decide) (by decide)).trans g6
      have kk31 : J16 7 = nI Ec := (show J16 7 = J 7 from hwr18.2 7 (by decide) (by decide)).trans g7
      have kk32 : J16 18 = nI (f + 1) := (show J16 18 = J 18 from hwr18.2 18 (by decide) (by decide)).trans g8
      have kk33 : J16 28 = 0 := (show J16 28 = J 28 from hwr18.2 28 (by decide) (by decide)).trans hp
      refine f_iast (x := 0) (i := nI (f)) Bx hP hD hS (by omega) (show mem15 238 = .inl (cy 1, 8, .inl (A 238)) from hW17.2.2.1 238 (by decide) (by decide) (by decide)) (vp_in_nI (n := f) (by omega) (by decide)) d_Mo_sequence_41 (fun H locs hP hS => ?_)
      rw [nI_clamp (n := f) (by omega)] at hP
      obtain ⟨A34, eA34⟩ : ∃ z, z = va_up A 238 (upd (A 238) (f) (0)) := ⟨_, rfl⟩
      obtain ⟨mem35, e_mem35⟩ : ∃ z, z = va_up mem15 238 (.inl (cy 1, 8, .inl (upd (A 238) (f) (0)))) := ⟨_, rfl⟩
      have hP : va_P D vcl (fw n ad mem35) H := by rw [e_mem35]; exact hP
      have hD : va_D (Az sz) (fw n ad mem35) := fw_D hD
      have hW36 : MW cy ad J16 A34 nm m0 mem35 := by rw [e_mem35, eA34]; exact hW17.upA (j := 238) (by decide) (by decide) (by decide) (Or.inl (by decide))
      have tT37 : A34 225 = T := by rw [eA34]; exact hT
      refine lv_aload_n Bx.1 Bx.2.1 d_Mo_sequence_42 rfl (lv_at hl 1 rfl) ?_
      refine f_get Bx hP (by omega) hW36.1 rfl inMo 17 (by decide) kw_673 rfl rfl d_Mo_sequence_43 ?_
      refine lv_if_ne Bx.1 Bx.2.1 d_Mo_sequence_46 rfl (fun hb38 => ?_) (fun hb38 => ?_)
      · refine lv_aload_n Bx.1 Bx.2.1 d_Mo_sequence_65 rfl (lv_at hl 1 rfl) ?_
        refine f_get Bx hP (by omega) hW36.1 rfl inMo 17 (by decide) kw_673 rfl rfl d_Mo_sequence_66 ?_
        refine lv_if_ne Bx.1 Bx.2.1 d_Mo_sequence_69 rfl (fun hb39 => ?_) (fun hb39 => ?_)
        · exact W.vret hx hb hr (fun t ht hW => ⟨⟨mem35, rfl, ⟨J16, A34, nm, hW36, Or.inl ⟨⟨kk26, kk27, tT37, hwr18.1, _, by omega, kk28⟩, seq_no (Or.inr hE23)⟩⟩, by show va_P _ _ _ t.heap; rw [ht]; exact hP⟩, hS.F ht⟩) hS.2.2 d_Mo_sequence_76
        · exact absurd hb39 hwr18.1.ne
      · exact absurd hb38 hwr18.1.ne
    · subst hre25
      obtain ⟨J20, eJ20⟩ : ∃ z, z = va_up J 7 (nI (Ec + 1)) := ⟨_, rfl⟩
      obtain ⟨A21, eA21⟩ : ∃ z, z = elA A (Ec) 1 := ⟨_, rfl⟩
      rw [← eJ20, ← eA21] at hW22
      have kk40 : J20 1 = nI L := (show J20 1 = J 1 from by rw [eJ20]; rfl).trans g1
      have kk41 : J20 24 = nI G := (show J20 24 = J 24 from by rw [eJ20]; rfl).trans g2
      have kk42 : J20 16 = nI a := (show J20 16 = J 16 from by rw [eJ20]; rfl).trans g3
      have kk43 : J20 17 = 0 := (show J20 17 = J 17 from by rw [eJ20]; rfl).trans g4
      have kk44 : J20 14 = nI u := (show J20 14 = J 14 from by rw [eJ20]; rfl).trans g5
      have kk45 : J20 4 = nI R := (show J20 4 = J 4 from by rw [eJ20]; rfl).trans g6
      have kk46 : J20 18 = nI (f + 1) := (show J20 18 = J 18 from by rw [eJ20]; rfl).trans g8
      have kk47 : J20 28 = 0 := (show J20 28 = J 28 from by rw [eJ20]; rfl).trans hp
      have kk48 : J20 7 = nI (Ec + 1) := by rw [eJ20, va_up_self]
      have tT49 : A21 225 = T := by rw [eA21]; exact hT
      refine f_iast (x := nI Ec) (i := nI (f)) Bx hP hD hS (by omega) (show mem15 238 = .inl (cy 1, 8, .inl (A21 238)) from hW22.2.2.1 238 (by decide) (by decide) (by decide)) (vp_in_nI (n := f) (by omega) (by decide)) d_Mo_sequence_41 (fun H locs hP hS => ?_)
      rw [nI_clamp (n := f) (by omega)] at hP
      obtain ⟨A50, eA50⟩ : ∃ z, z = va_up A21 238 (upd (A21 238) (f) (nI Ec)) := ⟨_, rfl⟩
      obtain ⟨mem51, e_mem51⟩ : ∃ z, z = va_up mem15 238 (.inl (cy 1, 8, .inl (upd (A21 238) (f) (nI Ec)))) := ⟨_, rfl⟩
      have hP : va_P D vcl (fw n ad mem51) H := by rw [e_mem51]; exact hP
      have hD : va_D (Az sz) (fw n ad mem51) := fw_D hD
      have hW52 : MW cy ad J20 A50 nm m0 mem51 := by rw [e_mem51, eA50]; exact hW22.upA (j := 238) (by decide) (by decide) (by decide) (Or.inl (by decide))
      have tT53 : A50 225 = T := by rw [eA50]; exact tT49
      refine lv_aload_n Bx.1 Bx.2.1 d_Mo_sequence_42 rfl (lv_at hl 1 rfl) ?_
      refine f_get Bx hP (by omega) hW52.1 rfl inMo 17 (by decide) kw_673 rfl rfl d_Mo_sequence_43 ?_
      rw [kk43]
      refine lv_if_ne Bx.1 Bx.2.1 d_Mo_sequence_46 rfl (fun hb54 => ?_) (fun hb54 => ?_)
      · exact absurd hb54 (by decide)
      · refine lv_aload_n Bx.1 Bx.2.1 d_Mo_sequence_49 rfl (lv_at hl 1 rfl) ?_
        refine lv_aload_n Bx.1 Bx.2.1 d_Mo_sequence_50 rfl (lv_at hl 1 rfl) ?_
        refine f_get Bx hP (by omega) hW52.1 rfl inMo 21 (by decide) kw_677 rfl rfl d_Mo_sequence_51 ?_
        refine lv_iload_n Bx.1 Bx.2.1 d_Mo_sequence_54 rfl (lv_at hl 0 rfl) ?_
        refine f_iald Bx hP (by omega) (show mem51 237 = .inl (cy 1, 8, .inl (A50 237)) from hW52.2.2.1 237 (by decide) (by decide) (by decide)) (vp_in_nI (n := f) (by omega) (by decide)) d_Mo_sequence_55 ?_
        rw [nI_clamp (n := f) (by omega)]
        rw [show A50 237 (f) = nI (fc f) by simp [eA21, eA50, elA, va_up]; exact hfg.1.1]
        refine lv_aload_n Bx.1 Bx.2.1 d_Mo_sequence_56 rfl (lv_at hl 1 rfl) ?_
        refine f_get Bx hP (by omega) hW52.1 rfl inMo 22 (by decide) kw_678 rfl rfl d_Mo_sequence_57 ?_
        refine lv_iload_n Bx.1 Bx.2.1 d_Mo_sequence_60 rfl (lv_at hl 0 rfl) ?_
        refine f_iald Bx hP (by omega) (show mem51 238 = .inl (cy 1, 8, .inl (A50 238)) from hW52.2.2.1 238 (by decide) (by decide) (by decide)) (vp_in_nI (n := f) (by omega) (by decide)) d_Mo_sequence_61 ?_
        rw [nI_clamp (n := f) (by omega)]
        have h238 : A50 238 (f) = nI Ec := by simp [eA21, eA50, elA, va_up, upd]
        rw [h238]
        have hkd9 : A21 228 Ec = 1 := by simp [eA21, elA, va_up, upd]
        obtain ⟨hx3, hc3⟩ := hI.ext (A' := A21) ⟨fun j h1 h2 h3 k hk => by
            have hj : j = 228 ∨ j = 229 ∨ j = 230 ∨ j = 232 ∨ j = 233 := by omega
            rcases hj with rfl | rfl | rfl | rfl | rfl <;> simp [eA21, elA, va_up, upd, Nat.ne_of_lt hk], by simp [eA21, elA, va_up], fun j h1 h2 => by
            have hj : j = 235 ∨ j = 236 ∨ j = 237 ∨ j = 238 ∨ j = 239 := by omega
            rcases hj with rfl | rfl | rfl | rfl | rfl <;> simp [eA21, elA, va_up], by simp [eA21, elA, va_up, upd], by simp [eA21, elA, va_up, upd]⟩ (Nat.le_refl u) (fun z => absurd (hkd9.symm.trans z) (by decide)) (fun z => absurd (hkd9.symm.trans z) (by decide)) (fun k z => z.elim)
        have hx4 : Inv R (Ec + 1) u f False fc fs ft A50 (fun _ => False) := by
          rw [eA50]
          exact (hx3.wk (X' := fun _ => False) (fun k z => z.elim id (fun y => absurd (y.2) (by rw [hkd9]; decide)))).set8
        have hc4 : CL Ec A50 := fun i hi => by rw [eA50]; exact hc3 i hi
        have h94 : A50 239 f = -1 := by rw [eA50, eA21]; exact h39
        refine f_callVv (na := 2) (As := [.int (nI (fc f)), .int (nI Ec)]) (rest := []) Bx hml E hP hD hS (by omega) hW52.1 rfl (m_Mo_appendX l hn hW52 (to := fc f) (pa := Ec) (show Ec + 1 ≤ 100 by omega) (show fc f < Ec by omega) (Nat.lt_succ_self Ec) hx4.1 hc4) kw_822 kw_824 sel_Mo_append kw_8 kw_825 (by decide +kernel) ⟨rfl, rfl⟩ ⟨Nat.le_of_ble_eq_true rfl, Nat.le_of_ble_eq_true rfl⟩ rfl hl.1 (Nat.le_of_ble_eq_true rfl) d_Mo_sequence_62 ⟨Nat.le_of_ble_eq_true rfl, Nat.le_of_ble_eq_true rfl⟩ (fun mem56 H locs hq hP hS => ?_)
        have hD : va_D (Az sz) (fw n ad mem56) := fw_D hD
        obtain ⟨hW58, hap59⟩ := hq
        obtain ⟨A57, eA57⟩ : ∃ z, z = appS A50 (fc f) (Ec) := ⟨_, rfl⟩
        rw [← eA57] at hW58 hap59
        have tT60 : A57 225 = T := by
          obtain ⟨_, _, _, k3, _⟩ := hap59.at
          rw [k3 225 (by decide) (by decide)]; exact tT53
        obtain ⟨hx5, h95⟩ := hx4.seq (by omega) h238 h94 (by omega) hap59
        have hsA : A57 = seqA A f Ec := by
          have q9 : (A50 237 f).toNatClampNeg = fc f := by rw [show A50 237 f = nI (fc f) by rw [eA50, eA21]; exact hfg.1.1, nI_clamp (n := fc f) (by omega)]
          unfold seqA
          simp only []
          rw [eA57, ← eA21, ← eA50, q9]
        refine lv_aload_n Bx.1 Bx.2.1 d_Mo_sequence_65 rfl (lv_at hl 1 rfl) ?_
        refine f_get Bx hP (by omega) hW58.1 rfl inMo 17 (by decide) kw_673 rfl rfl d_Mo_sequence_66 ?_
        rw [kk43]
        refine lv_if_ne Bx.1 Bx.2.1 d_Mo_sequence_69 rfl (fun hb61 => ?_) (fun hb61 => ?_)
        · exact absurd hb61 (by decide)
        · refine lv_aload_n Bx.1 Bx.2.1 d_Mo_sequence_72 rfl (lv_at hl 1 rfl) ?_
          refine f_callVv (na := 0) (As := []) (rest := []) Bx hml E hP hD hS (by omega) hW58.1 rfl (m_Mo_repetitionX l hn hW58 ⟨kk40, kk41, kk42, kk43, kk44, kk45, kk48, kk46⟩ ⟨hL, by omega, by omega, by omega, by omega⟩ (by omega) tT60 kk47 hx5 h95) kw_826 kw_828 sel_Mo_repetition kw_8 kw_829 (by decide +kernel) ⟨rfl, rfl⟩ ⟨Nat.le_of_ble_eq_true rfl, Nat.le_of_ble_eq_true rfl⟩ rfl hl.1 (Nat.le_of_ble_eq_true rfl) d_Mo_sequence_73 ⟨Nat.le_of_ble_eq_true rfl, Nat.le_of_ble_eq_true rfl⟩ (fun mem63 H locs hq hP hS => ?_)
          have hD : va_D (Az sz) (fw n ad mem63) := fw_D hD
          obtain ⟨J64, A65, nn66, hW67, hres68⟩ := hq
          exact W.vret hx hb hr (fun t ht hW => ⟨⟨mem63, rfl, ⟨J64, A65, nn66, hW67, hres68.mono (by omega) (by rw [seq_ok (bg_1 hb13) hEl19, hsA])⟩, by show va_P _ _ _ t.heap; rw [ht]; exact hP⟩, hS.F ht⟩) hS.2.2 d_Mo_sequence_76
  · refine lv_aload_n Bx.1 Bx.2.1 d_Mo_sequence_10 rfl (lv_at hl 0 rfl) ?_
    refine lv_iconst (v := 1) Bx.1 Bx.2.1 d_Mo_sequence_11 (by decide) ?_
    refine lv_aload_n Bx.1 Bx.2.1 d_Mo_sequence_12 rfl (lv_at hl 0 rfl) ?_
    refine f_get Bx hP (by omega) hM.1 rfl inMo 16 (by decide) kw_672 rfl rfl d_Mo_sequence_13 ?_
    rw [g3]
    refine f_callVv (na := 2) (As := [.int (1), .int (nI a)]) (rest := []) Bx hml E hP hD hS (by omega) hM.1 rfl (m_Mo_wrong l hn hM (Or.inl g4) (by first | exact Or.inl rfl | exact Or.inr rfl)) kw_799 kw_801 sel_Mo_wrong kw_8 kw_802 (by decide +kernel) ⟨rfl, rfl⟩ ⟨Nat.le_of_ble_eq_true rfl, Nat.le_of_ble_eq_true rfl⟩ rfl hl.1 (Nat.le_of_ble_eq_true rfl) d_Mo_sequence_16 ⟨Nat.le_of_ble_eq_true rfl, Nat.le_of_ble_eq_true rfl⟩ (fun mem70 H locs hq hP hS => ?_)
    have hD : va_D (Az sz) (fw n ad mem70) := fw_D hD
    obtain ⟨J71, hW72, hwr73⟩ := hq
    have kk74 : J71 1 = nI L := (show J71 1 = J 1 from hwr73.2 1 (by decide) (by decide)).trans g1
    have kk75 : J71 24 = nI G := (show J71 24 = J 24 from hwr73.2 24 (by decide) (by decide)).trans g2
    have kk76 : J71 16 = nI a := (show J71 16 = J 16 from hwr73.2 16 (by decide) (by decide)).trans g3
    have kk77 : J71 14 = nI u := (show J71 14 = J 14 from hwr73.2 14 (by decide) (by decide)).trans g5
    have kk78 : J71 4 = nI R := (show J71 4 = J 4 from hwr73.2 4 (by decide) (by decide)).trans g6
    have kk79 : J71 7 = nI Ec := (show J71 7 = J 7 from hwr73.2 7 (by decide) (by decide)).trans g7
    have kk80 : J71 18 = nI (f + 1) := (show J71 18 = J 18 from hwr73.2 18 (by decide) (by decide)).trans g8
    have kk81 : J71 28 = 0 := (show J71 28 = J 28 from hwr73.2 28 (by decide) (by decide)).trans hp
    exact W.vret hx hb hr (fun t ht hW => ⟨⟨mem70, rfl, ⟨J71, A, nm, hW72, Or.inl ⟨⟨kk74, kk75, hT, hwr73.1, _, by omega, kk76⟩, seq_no (Or.inl (bg_0 hb13))⟩⟩, by show va_P _ _ _ t.heap; rw [ht]; exact hP⟩, hS.F ht⟩) hS.2.2 d_Mo_sequence_19
