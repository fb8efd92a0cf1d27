set_option maxHeartbeats 4000000 in
set_option maxRecDepth 100000 in
theorem m_Mo_repetition (l : Launch) {D : va_G} {cy : Nat → ClassId} {sz n : Nat} {ad : Nat → Nat} {mem : Nat → va_E} {J : Nat → Int32} {A : Nat → Nat → Int32} {nm : Nat → Int64} {m0 : Nat → va_E} {L G a u R f : Nat} {T : Nat → Int32} {fc fs ft : Nat → Nat} {Ec : Nat} (hn : 242 ≤ n) (hM : MW cy ad J A nm m0 mem) (hNm : Num L G a u R Ec f J) (hBd : L ≤ 240 ∧ a ≤ L ∧ u ≤ a ∧ R ≤ 12 ∧ f ≤ 6) (hEb : Ec ≤ 100) (hT : A 225 = T) (hp : J 28 = 0) (hI : Inv R Ec u f True fc fs ft A (fun _ => False)) (h39 : A 239 f = -1) : MV l D cy sz n ad y_Mo_repetition c_Mo_repetition 5 ({ frames := 6, cells := 0, slots := 0, locals := 180 } : Room) mem [.ref (ad 224)] (fun mem' => ∃ J' A' nm', MW cy ad J' A' nm' m0 mem' ∧ Res L G T a J' A') := by
  refine Met.ofW (cc := c_Mo_repetition) (maxL := 5) (ret := none) (by decide) rfl ?_
  intro p e s m args below meth c s₁ B hml hv
  obtain ⟨rfl, E, hP, hD⟩ := hv
  have hx := B.exec
  have hb := B.bytes
  have hr := B.returns
  have hlocks := B.notSynchronized
  have Bx : MB p s m [.ref (ad 224)].toArray c c_Mo_repetition "AbnfChartModel" D cy := ⟨hx, hb, tb_all (atoms_spec B.pre) E.2.1, findClass_of_methodNamed B.named, E.1⟩
  have hS : va_S (Az sz) s.heap s.heap [] := va_S.rf
  have hl := lv_entry ([.ref (ad 224)]) (n := 5) (Nat.le_of_ble_eq_true rfl)
  rw [lg_entry_eq]
  generalize (lg_sl ([.ref (ad 224)]) ++ List.replicate (5 - (lg_sl ([.ref (ad 224)])).length) Slot.unset).toArray = ls at hl ⊢
  have hl : lv_has ls 5 [(0, .ref (ad 224))] := hl
  obtain ⟨hL, haL, huA, hRb, hfb⟩ := hBd
  obtain ⟨g1, g2, g3, g4, g5, g6, g7, g8⟩ := hNm
  have hfg := hI.2.2.2.2 f (Nat.le_refl _)
  have hrr0 := hfg.rep
  have hfs := hfg.2.2.2.1 (Or.inr trivial)
  have share9 : ∀ (mem9 : Nat → va_E) (J9 : Nat → Int32) (A9 : Nat → Nat → Int32) (a1 : Nat) (ls : Array Slot) (H : Heap) (locs : List Loc), (Num L G a1 u R (Ec + 1) f J9 ∧ J9 28 = 0) → (MW cy ad J9 A9 nm m0 mem9) → (A9 225 = T) → (Inv R (Ec + 1) u f True fc fs ft A9 (fun _ => False)) → (a ≤ a1 ∧ a1 ≤ L ∧ Ec < 100) → (va_P D vcl (fw n ad mem9) H) → (va_D (Az sz) (fw n ad mem9)) → (va_S (Az sz) s.heap H locs) → (lv_has ls 5 [(0, .ref (ad 224)), (1, .int (nI a)), (2, .int (nI f)), (3, .int (nI Ec))]) → W p l e (headSpec (Cond.code y_Mo_repetition c_Mo_repetition 5 none :: tg) ({ frames := 6, cells := 0, slots := 0, locals := 180 } : Room)).room s m [.ref (ad 224)].toArray below meth c H locs 0 0 (MQ below (va_Qv (fun mem' => ∃ J' A' nm', MW cy ad J' A' nm' m0 mem' ∧ Res L G T a J' A') (PP D n ad) (Az sz)) [.ref (ad 224)].toArray s 0 0 (Az sz)) (F0 m 195 ls []) := by
    intro mem9 J9 A9 a1 ls H locs hz10 hz11 hz12 hz13 hz14 hP hD hS hl
    obtain ⟨g15, g16, g17, g18, g19, g20, g21, g22⟩ := hz10.1
    refine lv_aload_n Bx.1 Bx.2.1 d_Mo_repetition_195 rfl (lv_at hl 0 rfl) ?_
    refine f_get Bx hP (by omega) hz11.1 rfl inMo 10 (by decide) kw_666 rfl rfl d_Mo_repetition_196 ?_
    refine lv_iload_n Bx.1 Bx.2.1 d_Mo_repetition_199 rfl (lv_at hl 3 rfl) ?_
    refine f_iald Bx hP (by omega) (show mem9 230 = .inl (cy 1, 100, .inl (A9 230)) from hz11.2.2.1 230 (by decide) (by decide) (by decide)) (vp_in_nI (n := Ec) (by omega) (by decide)) d_Mo_repetition_200 ?_
    rw [nI_clamp (n := Ec) (by omega)]
    refine lv_if_lt Bx.1 Bx.2.1 d_Mo_repetition_201 rfl (fun hb23 => ?_) (fun hb23 => ?_)
    · refine lv_aload_n Bx.1 Bx.2.1 d_Mo_repetition_225 rfl (lv_at hl 0 rfl) ?_
      refine f_callVi (na := 0) (As := []) (rest := []) Bx hml E hP hD hS (by omega) hz11.1 rfl (m_Mo_here l hn hz11 g15 hL g17 (by omega)) kw_778 kw_780 sel_Mo_here kw_8 kw_781 (by decide +kernel) ⟨rfl, rfl⟩ ⟨Nat.le_of_ble_eq_true rfl, Nat.le_of_ble_eq_true rfl⟩ rfl hl.1 (Nat.le_of_ble_eq_true rfl) d_Mo_repetition_226 ⟨Nat.le_of_ble_eq_true rfl, Nat.le_of_ble_eq_true rfl⟩ (fun r24 mem25 H locs hq hP hS => ?_)
      have hD : va_D (Az sz) (fw n ad mem25) := fw_D hD
      obtain ⟨hre, hq⟩ := hq
      rw [hq] at hP hD
      subst hre
      rw [show hereF L (A9 225) (a1) = hereF L T (a1) by rw [hz12]]
      refine f_callSi (na := 1) (As := [.int (hereF L T (a1))]) (rest := []) Bx hml E.2.1 (m_Mo_begins l (hereF L T (a1))) kw_811 kw_812 kw_8 kw_813 (by decide +kernel) ⟨rfl, rfl⟩ ⟨Nat.le_of_ble_eq_true rfl, Nat.le_of_ble_eq_true rfl⟩ rfl hl.1 (Nat.le_of_ble_eq_true rfl) d_Mo_repetition_229 ⟨Nat.le_of_ble_eq_true rfl, Nat.le_of_ble_eq_true rfl⟩ (fun r27 hs26 => ?_)
      refine lv_if_eq Bx.1 Bx.2.1 d_Mo_repetition_232 rfl (fun hb28 => ?_) (fun hb28 => ?_)
      · refine lv_aload_n Bx.1 Bx.2.1 d_Mo_repetition_254 rfl (lv_at hl 0 rfl) ?_
        refine lv_iconst (v := 1) Bx.1 Bx.2.1 d_Mo_repetition_255 (by decide) ?_
        refine lv_aload_n Bx.1 Bx.2.1 d_Mo_repetition_256 rfl (lv_at hl 0 rfl) ?_
        refine f_get Bx hP (by omega) hz11.1 rfl inMo 16 (by decide) kw_672 rfl rfl d_Mo_repetition_257 ?_
        rw [g17]
        refine f_callVv (na := 2) (As := [.int (1), .int (nI a1)]) (rest := []) Bx hml E hP hD hS (by omega) hz11.1 rfl (m_Mo_wrong l hn hz11 (Or.inl g18) (by first | exact Or.inl rfl | exact Or.inr rfl)) kw_799 kw_801 sel_Mo_wrong kw_8 kw_802 (by decide +kernel) ⟨rfl, rfl⟩ ⟨Nat.le_of_ble_eq_true rfl, Nat.le_of_ble_eq_true rfl⟩ rfl hl.1 (Nat.le_of_ble_eq_true rfl) d_Mo_repetition_260 ⟨Nat.le_of_ble_eq_true rfl, Nat.le_of_ble_eq_true rfl⟩ (fun mem30 H locs hq hP hS => ?_)
        have hD : va_D (Az sz) (fw n ad mem30) := fw_D hD
        obtain ⟨J31, hW32, hwr33⟩ := hq
        have kk34 : J31 1 = nI L := (show J31 1 = J9 1 from hwr33.2 1 (by decide) (by decide)).trans g15
        have kk35 : J31 24 = nI G := (show J31 24 = J9 24 from hwr33.2 24 (by decide) (by decide)).trans g16
        have kk36 : J31 16 = nI a1 := (show J31 16 = J9 16 from hwr33.2 16 (by decide) (by decide)).trans g17
        have kk37 : J31 14 = nI u := (show J31 14 = J9 14 from hwr33.2 14 (by decide) (by decide)).trans g19
        have kk38 : J31 4 = nI R := (show J31 4 = J9 4 from hwr33.2 4 (by decide) (by decide)).trans g20
        have kk39 : J31 7 = nI (Ec + 1) := (show J31 7 = J9 7 from hwr33.2 7 (by decide) (by decide)).trans g21
        have kk40 : J31 18 = nI (f + 1) := (show J31 18 = J9 18 from hwr33.2 18 (by decide) (by decide)).trans g22
        have kk41 : J31 28 = 0 := (show J31 28 = J9 28 from hwr33.2 28 (by decide) (by decide)).trans hz10.2
        refine lv_aload_n Bx.1 Bx.2.1 d_Mo_repetition_263 rfl (lv_at hl 0 rfl) ?_
        refine f_get Bx hP (by omega) hW32.1 rfl inMo 17 (by decide) kw_673 rfl rfl d_Mo_repetition_264 ?_
        refine lv_if_ne Bx.1 Bx.2.1 d_Mo_repetition_267 rfl (fun hb42 => ?_) (fun hb42 => ?_)
        · exact W.vret hx hb hr (fun t ht hW => ⟨⟨mem30, rfl, ⟨J31, A9, nm, hW32, Or.inl ⟨kk34, kk35, hz12, hwr33.1, _, by omega, kk36⟩⟩, by show va_P _ _ _ t.heap; rw [ht]; exact hP⟩, hS.F ht⟩) hS.2.2 d_Mo_repetition_274
        · exact absurd hb42 hwr33.1.ne
      · refine lv_aload_n Bx.1 Bx.2.1 d_Mo_repetition_235 rfl (lv_at hl 0 rfl) ?_
        refine f_callVi (na := 0) (As := []) (rest := []) Bx hml E hP hD hS (by omega) hz11.1 rfl (m_Mo_here l hn hz11 g15 hL g17 (by omega)) kw_778 kw_780 sel_Mo_here kw_8 kw_781 (by decide +kernel) ⟨rfl, rfl⟩ ⟨Nat.le_of_ble_eq_true rfl, Nat.le_of_ble_eq_true rfl⟩ rfl hl.1 (Nat.le_of_ble_eq_true rfl) d_Mo_repetition_236 ⟨Nat.le_of_ble_eq_true rfl, Nat.le_of_ble_eq_true rfl⟩ (fun r43 mem44 H locs hq hP hS => ?_)
        have hD : va_D (Az sz) (fw n ad mem44) := fw_D hD
        obtain ⟨hre, hq⟩ := hq
        rw [hq] at hP hD
        subst hre
        rw [show hereF L (A9 225) (a1) = hereF L T (a1) by rw [hz12]]
        refine f_callSi (na := 1) (As := [.int (hereF L T (a1))]) (rest := []) Bx hml E.2.1 (m_Mo_digit l (hereF L T (a1))) kw_793 kw_794 kw_8 kw_795 (by decide +kernel) ⟨rfl, rfl⟩ ⟨Nat.le_of_ble_eq_true rfl, Nat.le_of_ble_eq_true rfl⟩ rfl hl.1 (Nat.le_of_ble_eq_true rfl) d_Mo_repetition_239 ⟨Nat.le_of_ble_eq_true rfl, Nat.le_of_ble_eq_true rfl⟩ (fun r46 hs45 => ?_)
        subst hs45
        refine lv_if_ne Bx.1 Bx.2.1 d_Mo_repetition_242 rfl (fun hb47 => ?_) (fun hb47 => ?_)
        · refine lv_aload_n Bx.1 Bx.2.1 d_Mo_repetition_254 rfl (lv_at hl 0 rfl) ?_
          refine lv_iconst (v := 1) Bx.1 Bx.2.1 d_Mo_repetition_255 (by decide) ?_
          refine lv_aload_n Bx.1 Bx.2.1 d_Mo_repetition_256 rfl (lv_at hl 0 rfl) ?_
          refine f_get Bx hP (by omega) hz11.1 rfl inMo 16 (by decide) kw_672 rfl rfl d_Mo_repetition_257 ?_
          rw [g17]
          refine f_callVv (na := 2) (As := [.int (1), .int (nI a1)]) (rest := []) Bx hml E hP hD hS (by omega) hz11.1 rfl (m_Mo_wrong l hn hz11 (Or.inl g18) (by first | exact Or.inl rfl | exact Or.inr rfl)) kw_799 kw_801 sel_Mo_wrong kw_8 kw_802 (by decide +kernel) ⟨rfl, rfl⟩ ⟨Nat.le_of_ble_eq_true rfl, Nat.le_of_ble_eq_true rfl⟩ rfl hl.1 (Nat.le_of_ble_eq_true rfl) d_Mo_repetition_260 ⟨Nat.le_of_ble_eq_true rfl, Nat.le_of_ble_eq_true rfl⟩ (fun mem49 H locs hq hP hS => ?_)
          have hD : va_D (Az sz) (fw n ad mem49) := fw_D hD
          obtain ⟨J50, hW51, hwr52⟩ := hq
          have kk53 : J50 1 = nI L := (show J50 1 = J9 1 from hwr52.2 1 (by decide) (by decide)).trans g15
          have kk54 : J50 24 = nI G := (show J50 24 = J9 24 from hwr52.2 24 (by decide) (by decide)).trans g16
          have kk55 : J50 16 = nI a1 := (show J50 16 = J9 16 from hwr52.2 16 (by decide) (by decide)).trans g17
          have kk56 : J50 14 = nI u := (show J50 14 = J9 14 from hwr52.2 14 (by decide) (by decide)).trans g19
          have kk57 : J50 4 = nI R := (show J50 4 = J9 4 from hwr52.2 4 (by decide) (by decide)).trans g20
          have kk58 : J50 7 = nI (Ec + 1) := (show J50 7 = J9 7 from hwr52.2 7 (by decide) (by decide)).trans g21
          have kk59 : J50 18 = nI (f + 1) := (show J50 18 = J9 18 from hwr52.2 18 (by decide) (by decide)).trans g22
          have kk60 : J50 28 = 0 := (show J50 28 = J9 28 from hwr52.2 28 (by decide) (by decide)).trans hz10.2
          refine lv_aload_n Bx.1 Bx.2.1 d_Mo_repetition_263 rfl (lv_at hl 0 rfl) ?_
          refine f_get Bx hP (by omega) hW51.1 rfl inMo 17 (by decide) kw_673 rfl rfl d_Mo_repetition_264 ?_
          refine lv_if_ne Bx.1 Bx.2.1 d_Mo_repetition_267 rfl (fun hb61 => ?_) (fun hb61 => ?_)
          · exact W.vret hx hb hr (fun t ht hW => ⟨⟨mem49, rfl, ⟨J50, A9, nm, hW51, Or.inl ⟨kk53, kk54, hz12, hwr52.1, _, by omega, kk55⟩⟩, by show va_P _ _ _ t.heap; rw [ht]; exact hP⟩, hS.F ht⟩) hS.2.2 d_Mo_repetition_274
          · exact absurd hb61 hwr52.1.ne
        · refine lv_aload_n Bx.1 Bx.2.1 d_Mo_repetition_245 rfl (lv_at hl 0 rfl) ?_
          refine f_callVi (na := 0) (As := []) (rest := []) Bx hml E hP hD hS (by omega) hz11.1 rfl (m_Mo_here l hn hz11 g15 hL g17 (by omega)) kw_778 kw_780 sel_Mo_here kw_8 kw_781 (by decide +kernel) ⟨rfl, rfl⟩ ⟨Nat.le_of_ble_eq_true rfl, Nat.le_of_ble_eq_true rfl⟩ rfl hl.1 (Nat.le_of_ble_eq_true rfl) d_Mo_repetition_246 ⟨Nat.le_of_ble_eq_true rfl, Nat.le_of_ble_eq_true rfl⟩ (fun r62 mem63 H locs hq hP hS => ?_)
          have hD : va_D (Az sz) (fw n ad mem63) := fw_D hD
          obtain ⟨hre, hq⟩ := hq
          rw [hq] at hP hD
          subst hre
          rw [show hereF L (A9 225) (a1) = hereF L T (a1) by rw [hz12]]
          refine lv_bipush (v := 42) Bx.1 Bx.2.1 d_Mo_repetition_249 (by decide) ?_
          refine lv_icmp_ne Bx.1 Bx.2.1 d_Mo_repetition_251 rfl (fun hb64 => ?_) (fun hb64 => ?_)
          · refine lv_aload_n Bx.1 Bx.2.1 d_Mo_repetition_263 rfl (lv_at hl 0 rfl) ?_
            refine f_get Bx hP (by omega) hz11.1 rfl inMo 17 (by decide) kw_673 rfl rfl d_Mo_repetition_264 ?_
            rw [g18]
            refine lv_if_ne Bx.1 Bx.2.1 d_Mo_repetition_267 rfl (fun hb65 => ?_) (fun hb65 => ?_)
            · exact absurd hb65 (by decide)
            · refine lv_aload_n Bx.1 Bx.2.1 d_Mo_repetition_270 rfl (lv_at hl 0 rfl) ?_
              refine f_callVv (na := 0) (As := []) (rest := []) Bx hml E hP hD hS (by omega) hz11.1 rfl (m_Mo_single l hn hz11 ⟨g15, g16, g17, g18, g19, g20, g21, g22⟩ ⟨hL, by omega, by omega, by omega, by omega⟩ (by omega) hz12 hz10.2 hz13) kw_830 kw_832 sel_Mo_single kw_8 kw_833 (by decide +kernel) ⟨rfl, rfl⟩ ⟨Nat.le_of_ble_eq_true rfl, Nat.le_of_ble_eq_true rfl⟩ rfl hl.1 (Nat.le_of_ble_eq_true rfl) d_Mo_repetition_271 ⟨Nat.le_of_ble_eq_true rfl, Nat.le_of_ble_eq_true rfl⟩ (fun mem67 H locs hq hP hS => ?_)
              have hD : va_D (Az sz) (fw n ad mem67) := fw_D hD
              obtain ⟨J68, A69, nn70, hW71, hres72⟩ := hq
              exact W.vret hx hb hr (fun t ht hW => ⟨⟨mem67, rfl, ⟨J68, A69, nn70, hW71, hres72.mono (by omega)⟩, by show va_P _ _ _ t.heap; rw [ht]; exact hP⟩, hS.F ht⟩) hS.2.2 d_Mo_repetition_274
          · have hlt73 := hereF_lt (by rw [hb64]; decide)
            refine lv_aload_n Bx.1 Bx.2.1 d_Mo_repetition_254 rfl (lv_at hl 0 rfl) ?_
            refine lv_iconst (v := 1) Bx.1 Bx.2.1 d_Mo_repetition_255 (by decide) ?_
            refine lv_aload_n Bx.1 Bx.2.1 d_Mo_repetition_256 rfl (lv_at hl 0 rfl) ?_
            refine f_get Bx hP (by omega) hz11.1 rfl inMo 16 (by decide) kw_672 rfl rfl d_Mo_repetition_257 ?_
            rw [g17]
            refine f_callVv (na := 2) (As := [.int (1), .int (nI a1)]) (rest := []) Bx hml E hP hD hS (by omega) hz11.1 rfl (m_Mo_wrong l hn hz11 (Or.inl g18) (by first | exact Or.inl rfl | exact Or.inr rfl)) kw_799 kw_801 sel_Mo_wrong kw_8 kw_802 (by decide +kernel) ⟨rfl, rfl⟩ ⟨Nat.le_of_ble_eq_true rfl, Nat.le_of_ble_eq_true rfl⟩ rfl hl.1 (Nat.le_of_ble_eq_true rfl) d_Mo_repetition_260 ⟨Nat.le_of_ble_eq_true rfl, Nat.le_of_ble_eq_true rfl⟩ (fun mem75 H locs hq hP hS => ?_)
            have hD : va_D (Az sz) (fw n ad mem75) := fw_D hD
            obtain ⟨J76, hW77, hwr78⟩ := hq
            have kk79 : J76 1 = nI L := (show J76 1 = J9 1 from hwr78.2 1 (by decide) (by decide)).trans g15
            have kk80 : J76 24 = nI G := (show J76 24 = J9 24 from hwr78.2 24 (by decide) (by decide)).trans g16
            have kk81 : J76 16 = nI a1 := (show J76 16 = J9 16 from hwr78.2 16 (by decide) (by decide)).trans g17
            have kk82 : J76 14 = nI u := (show J76 14 = J9 14 from hwr78.2 14 (by decide) (by decide)).trans g19
            have kk83 : J76 4 = nI R := (show J76 4 = J9 4 from hwr78.2 4 (by decide) (by decide)).trans g20
            have kk84 : J76 7 = nI (Ec + 1) := (show J76 7 = J9 7 from hwr78.2 7 (by decide) (by decide)).trans g21
            have kk85 : J76 18 = nI (f + 1) := (show J76 18 = J9 18 from hwr78.2 18 (by decide) (by decide)).trans g22
            have kk86 : J76 28 = 0 := (show J76 28 = J9 28 from hwr78.2 28 (by decide) (by decide)).trans hz10.2
            refine lv_aload_n Bx.1 Bx.2.1 d_Mo_repetition_263 rfl (lv_at hl 0 rfl) ?_
            refine f_get Bx hP (by omega) hW77.1 rfl inMo 17 (by decide) kw_673 rfl rfl d_Mo_repetition_264 ?_
            refine lv_if_ne Bx.1 Bx.2.1 d_Mo_repetition_267 rfl (fun hb87 => ?_) (fun hb87 => ?_)
            · exact W.vret hx hb hr (fun t ht hW => ⟨⟨mem75, rfl, ⟨J76, A9, nm, hW77, Or.inl ⟨kk79, kk80, hz12, hwr78.1, _, by omega, kk81⟩⟩, by show va_P _ _ _ t.heap; rw [ht]; exact hP⟩, hS.F ht⟩) hS.2.2 d_Mo_repetition_274
            · exact absurd hb87 hwr78.1.ne
    · refine lv_aload_n Bx.1 Bx.2.1 d_Mo_repetition_204 rfl (lv_at hl 0 rfl) ?_
      refine f_get Bx hP (by omega) hz11.1 rfl inMo 9 (by decide) kw_665 rfl rfl d_Mo_repetition_205 ?_
      refine lv_iload_n Bx.1 Bx.2.1 d_Mo_repetition_208 rfl (lv_at hl 3 rfl) ?_
      refine f_iald Bx hP (by omega) (show mem9 229 = .inl (cy 1, 100, .inl (A9 229)) from hz11.2.2.1 229 (by decide) (by decide) (by decide)) (vp_in_nI (n := Ec) (by omega) (by decide)) d_Mo_repetition_209 ?_
      rw [nI_clamp (n := Ec) (by omega)]
      refine lv_aload_n Bx.1 Bx.2.1 d_Mo_repetition_210 rfl (lv_at hl 0 rfl) ?_
      refine f_get Bx hP (by omega) hz11.1 rfl inMo 10 (by decide) kw_666 rfl rfl d_Mo_repetition_211 ?_
      refine lv_iload_n Bx.1 Bx.2.1 d_Mo_repetition_214 rfl (lv_at hl 3 rfl) ?_
      refine f_iald Bx hP (by omega) (show mem9 230 = .inl (cy 1, 100, .inl (A9 230)) from hz11.2.2.1 230 (by decide) (by decide) (by decide)) (vp_in_nI (n := Ec) (by omega) (by decide)) d_Mo_repetition_215 ?_
      rw [nI_clamp (n := Ec) (by omega)]
      refine lv_icmp_le Bx.1 Bx.2.1 d_Mo_repetition_216 rfl (fun hb88 => ?_) (fun hb88 => ?_)
      · refine lv_aload_n Bx.1 Bx.2.1 d_Mo_repetition_225 rfl (lv_at hl 0 rfl) ?_
        refine f_callVi (na := 0) (As := []) (rest := []) Bx hml E hP hD hS (by omega) hz11.1 rfl (m_Mo_here l hn hz11 g15 hL g17 (by omega)) kw_778 kw_780 sel_Mo_here kw_8 kw_781 (by decide +kernel) ⟨rfl, rfl⟩ ⟨Nat.le_of_ble_eq_true rfl, Nat.le_of_ble_eq_true rfl⟩ rfl hl.1 (Nat.le_of_ble_eq_true rfl) d_Mo_repetition_226 ⟨Nat.le_of_ble_eq_true rfl, Nat.le_of_ble_eq_true rfl⟩ (fun r89 mem90 H locs hq hP hS => ?_)
        have hD : va_D (Az sz) (fw n ad mem90) := fw_D hD
        obtain ⟨hre, hq⟩ := hq
        rw [hq] at hP hD
        subst hre
        rw [show hereF L (A9 225) (a1) = hereF L T (a1) by rw [hz12]]
        refine f_callSi (na := 1) (As := [.int (hereF L T (a1))]) (rest := []) Bx hml E.2.1 (m_Mo_begins l (hereF L T (a1))) kw_811 kw_812 kw_8 kw_813 (by decide +kernel) ⟨rfl, rfl⟩ ⟨Nat.le_of_ble_eq_true rfl, Nat.le_of_ble_eq_true rfl⟩ rfl hl.1 (Nat.le_of_ble_eq_true rfl) d_Mo_repetition_229 ⟨Nat.le_of_ble_eq_true rfl, Nat.le_of_ble_eq_true rfl⟩ (fun r92 hs91 => ?_)
        refine lv_if_eq Bx.1 Bx.2.1 d_Mo_repetition_232 rfl (fun hb93 => ?_) (fun hb93 => ?_)
        · refine lv_aload_n Bx.1 Bx.2.1 d_Mo_repetition_254 rfl (lv_at hl 0 rfl) ?_
          refine lv_iconst (v := 1) Bx.1 Bx.2.1 d_Mo_repetition_255 (by decide) ?_
          refine lv_aload_n Bx.1 Bx.2.1 d_Mo_repetition_256 rfl (lv_at hl 0 rfl) ?_
          refine f_get Bx hP (by omega) hz11.1 rfl inMo 16 (by decide) kw_672 rfl rfl d_Mo_repetition_257 ?_
          rw [g17]
          refine f_callVv (na := 2) (As := [.int (1), .int (nI a1)]) (rest := []) Bx hml E hP hD hS (by omega) hz11.1 rfl (m_Mo_wrong l hn hz11 (Or.inl g18) (by first | exact Or.inl rfl | exact Or.inr rfl)) kw_799 kw_801 sel_Mo_wrong kw_8 kw_802 (by decide +kernel) ⟨rfl, rfl⟩ ⟨Nat.le_of_ble_eq_true rfl, Nat.le_of_ble_eq_true rfl⟩ rfl hl.1 (Nat.le_of_ble_eq_true rfl) d_Mo_repetition_260 ⟨Nat.le_of_ble_eq_true rfl, Nat.le_of_ble_eq_true rfl⟩ (fun mem95 H locs hq hP hS => ?_)
          have hD : va_D (Az sz) (fw n ad mem95) := fw_D hD
          obtain ⟨J96, hW97, hwr98⟩ := hq
          have kk99 : J96 1 = nI L := (show J96 1 = J9 1 from hwr98.2 1 (by decide) (by decide)).trans g15
          have kk100 : J96 24 = nI G := (show J96 24 = J9 24 from hwr98.2 24 (by decide) (by decide)).trans g16
          have kk101 : J96 16 = nI a1 := (show J96 16 = J9 16 from hwr98.2 16 (by decide) (by decide)).trans g17
          have kk102 : J96 14 = nI u := (show J96 14 = J9 14 from hwr98.2 14 (by decide) (by decide)).trans g19
          have kk103 : J96 4 = nI R := (show J96 4 = J9 4 from hwr98.2 4 (by decide) (by decide)).trans g20
          have kk104 : J96 7 = nI (Ec + 1) := (show J96 7 = J9 7 from hwr98.2 7 (by decide) (by decide)).trans g21
          have kk105 : J96 18 = nI (f + 1) := (show J96 18 = J9 18 from hwr98.2 18 (by decide) (by decide)).trans g22
          have kk106 : J96 28 = 0 := (show J96 28 = J9 28 from hwr98.2 28 (by decide) (by decide)).trans hz10.2
          refine lv_aload_n Bx.1 Bx.2.1 d_Mo_repetition_263 rfl (lv_at hl 0 rfl) ?_
          refine f_get Bx hP (by omega) hW97.1 rfl inMo 17 (by decide) kw_673 rfl rfl d_Mo_repetition_264 ?_
          refine lv_if_ne Bx.1 Bx.2.1 d_Mo_repetition_267 rfl (fun hb107 => ?_) (fun hb107 => ?_)
          · exact W.vret hx hb hr (fun t ht hW => ⟨⟨mem95, rfl, ⟨J96, A9, nm, hW97, Or.inl ⟨kk99, kk100, hz12, hwr98.1, _, by omega, kk101⟩⟩, by show va_P _ _ _ t.heap; rw [ht]; exact hP⟩, hS.F ht⟩) hS.2.2 d_Mo_repetition_274
          · exact absurd hb107 hwr98.1.ne
        · refine lv_aload_n Bx.1 Bx.2.1 d_Mo_repetition_235 rfl (lv_at hl 0 rfl) ?_
          refine f_callVi (na := 0) (As := []) (rest := []) Bx hml E hP hD hS (by omega) hz11.1 rfl (m_Mo_here l hn hz11 g15 hL g17 (by omega)) kw_778 kw_780 sel_Mo_here kw_8 kw_781 (by decide +kernel) ⟨rfl, rfl⟩ ⟨Nat.le_of_ble_eq_true rfl, Nat.le_of_ble_eq_true rfl⟩ rfl hl.1 (Nat.le_of_ble_eq_true rfl) d_Mo_repetition_236 ⟨Nat.le_of_ble_eq_true rfl, Nat.le_of_ble_eq_true rfl⟩ (fun r108 mem109 H locs hq hP hS => ?_)
          have hD : va_D (Az sz) (fw n ad mem109) := fw_D hD
          obtain ⟨hre, hq⟩ := hq
          rw [hq] at hP hD
          subst hre
          rw [show hereF L (A9 225) (a1) = hereF L T (a1) by rw [hz12]]
          refine f_callSi (na := 1) (As := [.int (hereF L T (a1))]) (rest := []) Bx hml E.2.1 (m_Mo_digit l (hereF L T (a1))) kw_793 kw_794 kw_8 kw_795 (by decide +kernel) ⟨rfl, rfl⟩ ⟨Nat.le_of_ble_eq_true rfl, Nat.le_of_ble_eq_true rfl⟩ rfl hl.1 (Nat.le_of_ble_eq_true rfl) d_Mo_repetition_239 ⟨Nat.le_of_ble_eq_true rfl, Nat.le_of_ble_eq_true rfl⟩ (fun r111 hs110 => ?_)
          subst hs110
          refine lv_if_ne Bx.1 Bx.2.1 d_Mo_repetition_242 rfl (fun hb112 => ?_) (fun hb112 => ?_)
          · refine lv_aload_n Bx.1 Bx.2.1 d_Mo_repetition_254 rfl (lv_at hl 0 rfl) ?_
            refine lv_iconst (v := 1) Bx.1 Bx.2.1 d_Mo_repetition_255 (by decide) ?_
            refine lv_aload_n Bx.1 Bx.2.1 d_Mo_repetition_256 rfl (lv_at hl 0 rfl) ?_
            refine f_get Bx hP (by omega) hz11.1 rfl inMo 16 (by decide) kw_672 rfl rfl d_Mo_repetition_257 ?_
            rw [g17]
            refine f_callVv (na := 2) (As := [.int (1), .int (nI a1)]) (rest := []) Bx hml E hP hD hS (by omega) hz11.1 rfl (m_Mo_wrong l hn hz11 (Or.inl g18) (by first | exact Or.inl rfl | exact Or.inr rfl)) kw_799 kw_801 sel_Mo_wrong kw_8 kw_802 (by decide +kernel) ⟨rfl, rfl⟩ ⟨Nat.le_of_ble_eq_true rfl, Nat.le_of_ble_eq_true rfl⟩ rfl hl.1 (Nat.le_of_ble_eq_true rfl) d_Mo_repetition_260 ⟨Nat.le_of_ble_eq_true rfl, Nat.le_of_ble_eq_true rfl⟩ (fun mem114 H locs hq hP hS => ?_)
            have hD : va_D (Az sz) (fw n ad mem114) := fw_D hD
            obtain ⟨J115, hW116, hwr117⟩ := hq
            have kk118 : J115 1 = nI L := (show J115 1 = J9 1 from hwr117.2 1 (by decide) (by decide)).trans g15
            have kk119 : J115 24 = nI G := (show J115 24 = J9 24 from hwr117.2 24 (by decide) (by decide)).trans g16
            have kk120 : J115 16 = nI a1 := (show J115 16 = J9 16 from hwr117.2 16 (by decide) (by decide)).trans g17
            have kk121 : J115 14 = nI u := (show J115 14 = J9 14 from hwr117.2 14 (by decide) (by decide)).trans g19
            have kk122 : J115 4 = nI R := (show J115 4 = J9 4 from hwr117.2 4 (by decide) (by decide)).trans g20
            have kk123 : J115 7 = nI (Ec + 1) := (show J115 7 = J9 7 from hwr117.2 7 (by decide) (by decide)).trans g21
            have kk124 : J115 18 = nI (f + 1) := (show J115 18 = J9 18 from hwr117.2 18 (by decide) (by decide)).trans g22
            have kk125 : J115 28 = 0 := (show J115 28 = J9 28 from hwr117.2 28 (by decide) (by decide)).trans hz10.2
            refine lv_aload_n Bx.1 Bx.2.1 d_Mo_repetition_263 rfl (lv_at hl 0 rfl) ?_
            refine f_get Bx hP (by omega) hW116.1 rfl inMo 17 (by decide) kw_673 rfl rfl d_Mo_repetition_264 ?_
            refine lv_if_ne Bx.1 Bx.2.1 d_Mo_repetition_267 rfl (fun hb126 => ?_) (fun hb126 => ?_)
            · exact W.vret hx hb hr (fun t ht hW => ⟨⟨mem114, rfl, ⟨J115, A9, nm, hW116, Or.inl ⟨kk118, kk119, hz12, hwr117.1, _, by omega, kk120⟩⟩, by show va_P _ _ _ t.heap; rw [ht]; exact hP⟩, hS.F ht⟩) hS.2.2 d_Mo_repetition_274
            · exact absurd hb126 hwr117.1.ne
          · refine lv_aload_n Bx.1 Bx.2.1 d_Mo_repetition_245 rfl (lv_at hl 0 rfl) ?_
            refine f_callVi (na := 0) (As := []) (rest := []) Bx hml E hP hD hS (by omega) hz11.1 rfl (m_Mo_here l hn hz11 g15 hL g17 (by omega)) kw_778 kw_780 sel_Mo_here kw_8 kw_781 (by decide +kernel) ⟨rfl, rfl⟩ ⟨Nat.le_of_ble_eq_true rfl, Nat.le_of_ble_eq_true rfl⟩ rfl hl.1 (Nat.le_of_ble_eq_true rfl) d_Mo_repetition_246 ⟨Nat.le_of_ble_eq_true rfl, Nat.le_of_ble_eq_true rfl⟩ (fun r127 mem128 H locs hq hP hS => ?_)
            have hD : va_D (Az sz) (fw n ad mem128) := fw_D hD
            obtain ⟨hre, hq⟩ := hq
            rw [hq] at hP hD
            subst hre
            rw [show hereF L (A9 225) (a1) = hereF L T (a1) by rw [hz12]]
            refine lv_bipush (v := 42) Bx.1 Bx.2.1 d_Mo_repetition_249 (by decide) ?_
            refine lv_icmp_ne Bx.1 Bx.2.1 d_Mo_repetition_251 rfl (fun hb129 => ?_) (fun hb129 => ?_)
            · refine lv_aload_n Bx.1 Bx.2.1 d_Mo_repetition_263 rfl (lv_at hl 0 rfl) ?_
              refine f_get Bx hP (by omega) hz11.1 rfl inMo 17 (by decide) kw_673 rfl rfl d_Mo_repetition_264 ?_
              rw [g18]
              refine lv_if_ne Bx.1 Bx.2.1 d_Mo_repetition_267 rfl (fun hb130 => ?_) (fun hb130 => ?_)
              · exact absurd hb130 (by decide)
              · refine lv_aload_n Bx.1 Bx.2.1 d_Mo_repetition_270 rfl (lv_at hl 0 rfl) ?_
                refine f_callVv (na := 0) (As := []) (rest := []) Bx hml E hP hD hS (by omega) hz11.1 rfl (m_Mo_single l hn hz11 ⟨g15, g16, g17, g18, g19, g20, g21, g22⟩ ⟨hL, by omega, by omega, by omega, by omega⟩ (by omega) hz12 hz10.2 hz13) kw_830 kw_832 sel_Mo_single kw_8 kw_833 (by decide +kernel) ⟨rfl, rfl⟩ ⟨Nat.le_of_ble_eq_true rfl, Nat.le_of_ble_eq_true rfl⟩ rfl hl.1 (Nat.le_of_ble_eq_true rfl) d_Mo_repetition_271 ⟨Nat.le_of_ble_eq_true rfl, Nat.le_of_ble_eq_true rfl⟩ (fun mem132 H locs hq hP hS => ?_)
                have hD : va_D (Az sz) (fw n ad mem132) := fw_D hD
                obtain ⟨J133, A134, nn135, hW136, hres137⟩ := hq
                exact W.vret hx hb hr (fun t ht hW => ⟨⟨mem132, rfl, ⟨J133, A134, nn135, hW136, hres137.mono (by omega)⟩, by show va_P _ _ _ t.heap; rw [ht]; exact hP⟩, hS.F ht⟩) hS.2.2 d_Mo_repetition_274
            · have hlt138 := hereF_lt (by rw [hb129]; decide)
              refine lv_aload_n Bx.1 Bx.2.1 d_Mo_repetition_254 rfl (lv_at hl 0 rfl) ?_
              refine lv_iconst (v := 1) Bx.1 Bx.2.1 d_Mo_repetition_255 (by decide) ?_
              refine lv_aload_n Bx.1 Bx.2.1 d_Mo_repetition_256 rfl (lv_at hl 0 rfl) ?_
              refine f_get Bx hP (by omega) hz11.1 rfl inMo 16 (by decide) kw_672 rfl rfl d_Mo_repetition_257 ?_
              rw [g17]
              refine f_callVv (na := 2) (As := [.int (1), .int (nI a1)]) (rest := []) Bx hml E hP hD hS (by omega) hz11.1 rfl (m_Mo_wrong l hn hz11 (Or.inl g18) (by first | exact Or.inl rfl | exact Or.inr rfl)) kw_799 kw_801 sel_Mo_wrong kw_8 kw_802 (by decide +kernel) ⟨rfl, rfl⟩ ⟨Nat.le_of_ble_eq_true rfl, Nat.le_of_ble_eq_true rfl⟩ rfl hl.1 (Nat.le_of_ble_eq_true rfl) d_Mo_repetition_260 ⟨Nat.le_of_ble_eq_true rfl, Nat.le_of_ble_eq_true rfl⟩ (fun mem140 H locs hq hP hS => ?_)
              have hD : va_D (Az sz) (fw n ad mem140) := fw_D hD
              obtain ⟨J141, hW142, hwr143⟩ := hq
              have kk144 : J141 1 = nI L := (show J141 1 = J9 1 from hwr143.2 1 (by decide) (by decide)).trans g15
              have kk145 : J141 24 = nI G := (show J141 24 = J9 24 from hwr143.2 24 (by decide) (by decide)).trans g16
              have kk146 : J141 16 = nI a1 := (show J141 16 = J9 16 from hwr143.2 16 (by decide) (by decide)).trans g17
              have kk147 : J141 14 = nI u := (show J141 14 = J9 14 from hwr143.2 14 (by decide) (by decide)).trans g19
              have kk148 : J141 4 = nI R := (show J141 4 = J9 4 from hwr143.2 4 (by decide) (by decide)).trans g20
              have kk149 : J141 7 = nI (Ec + 1) := (show J141 7 = J9 7 from hwr143.2 7 (by decide) (by decide)).trans g21
              have kk150 : J141 18 = nI (f + 1) := (show J141 18 = J9 18 from hwr143.2 18 (by decide) (by decide)).trans g22
              have kk151 : J141 28 = 0 := (show J141 28 = J9 28 from hwr143.2 28 (by decide) (by decide)).trans hz10.2
              refine lv_aload_n Bx.1 Bx.2.1 d_Mo_repetition_263 rfl (lv_at hl 0 rfl) ?_
              refine f_get Bx hP (by omega) hW142.1 rfl inMo 17 (by decide) kw_673 rfl rfl d_Mo_repetition_264 ?_
              refine lv_if_ne Bx.1 Bx.2.1 d_Mo_repetition_267 rfl (fun hb152 => ?_) (fun hb152 => ?_)
              · exact W.vret hx hb hr (fun t ht hW => ⟨⟨mem140, rfl, ⟨J141, A9, nm, hW142, Or.inl ⟨kk144, kk145, hz12, hwr143.1, _, by omega, kk146⟩⟩, by show va_P _ _ _ t.heap; rw [ht]; exact hP⟩, hS.F ht⟩) hS.2.2 d_Mo_repetition_274
              · exact absurd hb152 hwr143.1.ne
      · refine lv_aload_n Bx.1 Bx.2.1 d_Mo_repetition_219 rfl (lv_at hl 0 rfl) ?_
        refine lv_iconst (v := 1) Bx.1 Bx.2.1 d_Mo_repetition_220 (by decide) ?_
        refine lv_iload_n Bx.1 Bx.2.1 d_Mo_repetition_221 rfl (lv_at hl 1 rfl) ?_
        refine f_callVv (na := 2) (As := [.int (1), .int (nI a)]) (rest := []) Bx hml E hP hD hS (by omega) hz11.1 rfl (m_Mo_wrong l hn hz11 (Or.inl g18) (by first | exact Or.inl rfl | exact Or.inr rfl)) kw_799 kw_801 sel_Mo_wrong kw_8 kw_802 (by decide +kernel) ⟨rfl, rfl⟩ ⟨Nat.le_of_ble_eq_true rfl, Nat.le_of_ble_eq_true rfl⟩ rfl hl.1 (Nat.le_of_ble_eq_true rfl) d_Mo_repetition_222 ⟨Nat.le_of_ble_eq_true rfl, Nat.le_of_ble_eq_true rfl⟩ (fun mem154 H locs hq hP hS => ?_)
        have hD : va_D (Az sz) (fw n ad mem154) := fw_D hD
        obtain ⟨J155, hW156, hwr157⟩ := hq
        have kk158 : J155 1 = nI L := (show J155 1 = J9 1 from hwr157.2 1 (by decide) (by decide)).trans g15
        have kk159 : J155 24 = nI G := (show J155 24 = J9 24 from hwr157.2 24 (by decide) (by decide)).trans g16
        have kk160 : J155 16 = nI a1 := (show J155 16 = J9 16 from hwr157.2 16 (by decide) (by decide)).trans g17
        have kk161 : J155 14 = nI u := (show J155 14 = J9 14 from hwr157.2 14 (by decide) (by decide)).trans g19
        have kk162 : J155 4 = nI R := (show J155 4 = J9 4 from hwr157.2 4 (by decide) (by decide)).trans g20
        have kk163 : J155 7 = nI (Ec + 1) := (show J155 7 = J9 7 from hwr157.2 7 (by decide) (by decide)).trans g21
        have kk164 : J155 18 = nI (f + 1) := (show J155 18 = J9 18 from hwr157.2 18 (by decide) (by decide)).trans g22
        have kk165 : J155 28 = 0 := (show J155 28 = J9 28 from hwr157.2 28 (by decide) (by decide)).trans hz10.2
        refine lv_aload_n Bx.1 Bx.2.1 d_Mo_repetition_225 rfl (lv_at hl 0 rfl) ?_
        refine f_callVi (na := 0) (As := []) (rest := []) Bx hml E hP hD hS (by omega) hW156.1 rfl (m_Mo_here l hn hW156 kk158 hL kk160 (by omega)) kw_778 kw_780 sel_Mo_here kw_8 kw_781 (by decide +kernel) ⟨rfl, rfl⟩ ⟨Nat.le_of_ble_eq_true rfl, Nat.le_of_ble_eq_true rfl⟩ rfl hl.1 (Nat.le_of_ble_eq_true rfl) d_Mo_repetition_226 ⟨Nat.le_of_ble_eq_true rfl, Nat.le_of_ble_eq_true rfl⟩ (fun r166 mem167 H locs hq hP hS => ?_)
        have hD : va_D (Az sz) (fw n ad mem167) := fw_D hD
        obtain ⟨hre, hq⟩ := hq
        rw [hq] at hP hD
        subst hre
        rw [show hereF L (A9 225) (a1) = hereF L T (a1) by rw [hz12]]
        refine f_callSi (na := 1) (As := [.int (hereF L T (a1))]) (rest := []) Bx hml E.2.1 (m_Mo_begins l (hereF L T (a1))) kw_811 kw_812 kw_8 kw_813 (by decide +kernel) ⟨rfl, rfl⟩ ⟨Nat.le_of_ble_eq_true rfl, Nat.le_of_ble_eq_true rfl⟩ rfl hl.1 (Nat.le_of_ble_eq_true rfl) d_Mo_repetition_229 ⟨Nat.le_of_ble_eq_true rfl, Nat.le_of_ble_eq_true rfl⟩ (fun r169 hs168 => ?_)
        refine lv_if_eq Bx.1 Bx.2.1 d_Mo_repetition_232 rfl (fun hb170 => ?_) (fun hb170 => ?_)
        · refine lv_aload_n Bx.1 Bx.2.1 d_Mo_repetition_254 rfl (lv_at hl 0 rfl) ?_
          refine lv_iconst (v := 1) Bx.1 Bx.2.1 d_Mo_repetition_255 (by decide) ?_
          refine lv_aload_n Bx.1 Bx.2.1 d_Mo_repetition_256 rfl (lv_at hl 0 rfl) ?_
          refine f_get Bx hP (by omega) hW156.1 rfl inMo 16 (by decide) kw_672 rfl rfl d_Mo_repetition_257 ?_
          rw [kk160]
          refine f_callVv (na := 2) (As := [.int (1), .int (nI a1)]) (rest := []) Bx hml E hP hD hS (by omega) hW156.1 rfl (m_Mo_wrong l hn hW156 (Or.inr hwr157.1) (by first | exact Or.inl rfl | exact Or.inr rfl)) kw_799 kw_801 sel_Mo_wrong kw_8 kw_802 (by decide +kernel) ⟨rfl, rfl⟩ ⟨Nat.le_of_ble_eq_true rfl, Nat.le_of_ble_eq_true rfl⟩ rfl hl.1 (Nat.le_of_ble_eq_true rfl) d_Mo_repetition_260 ⟨Nat.le_of_ble_eq_true rfl, Nat.le_of_ble_eq_true rfl⟩ (fun mem172 H locs hq hP hS => ?_)
          have hD : va_D (Az sz) (fw n ad mem172) := fw_D hD
          obtain ⟨J173, hW174, hwr175⟩ := hq
          have kk176 : J173 1 = nI L := (show J173 1 = J155 1 from hwr175.2 1 (by decide) (by decide)).trans kk158
          have kk177 : J173 24 = nI G := (show J173 24 = J155 24 from hwr175.2 24 (by decide) (by decide)).trans kk159
          have kk178 : J173 16 = nI a1 := (show J173 16 = J155 16 from hwr175.2 16 (by decide) (by decide)).trans kk160
          have kk179 : J173 14 = nI u := (show J173 14 = J155 14 from hwr175.2 14 (by decide) (by decide)).trans kk161
          have kk180 : J173 4 = nI R := (show J173 4 = J155 4 from hwr175.2 4 (by decide) (by decide)).trans kk162
          have kk181 : J173 7 = nI (Ec + 1) := (show J173 7 = J155 7 from hwr175.2 7 (by decide) (by decide)).trans kk163
          have kk182 : J173 18 = nI (f + 1) := (show J173 18 = J155 18 from hwr175.2 18 (by decide) (by decide)).trans kk164
          have kk183 : J173 28 = 0 := (show J173 28 = J155 28 from hwr175.2 28 (by decide) (by decide)).trans kk165
          refine lv_aload_n Bx.1 Bx.2.1 d_Mo_repetition_263 rfl (lv_at hl 0 rfl) ?_
          refine f_get Bx hP (by omega) hW174.1 rfl inMo 17 (by decide) kw_673 rfl rfl d_Mo_repetition_264 ?_
          refine lv_if_ne Bx.1 Bx.2.1 d_Mo_repetition_267 rfl (fun hb184 => ?_) (fun hb184 => ?_)
          · exact W.vret hx hb hr (fun t ht hW => ⟨⟨mem172, rfl, ⟨J173, A9, nm, hW174, Or.inl ⟨kk176, kk177, hz12, hwr175.1, _, by omega, kk178⟩⟩, by show va_P _ _ _ t.heap; rw [ht]; exact hP⟩, hS.F ht⟩) hS.2.2 d_Mo_repetition_274
          · exact absurd hb184 hwr175.1.ne
        · refine lv_aload_n Bx.1 Bx.2.1 d_Mo_repetition_235 rfl (lv_at hl 0 rfl) ?_
          refine f_callVi (na := 0) (As := []) (rest := []) Bx hml E hP hD hS (by omega) hW156.1 rfl (m_Mo_here l hn hW156 kk158 hL kk160 (by omega)) kw_778 kw_780 sel_Mo_here kw_8 kw_781 (by decide +kernel) ⟨rfl, rfl⟩ ⟨Nat.le_of_ble_eq_true rfl, Nat.le_of_ble_eq_true rfl⟩ rfl hl.1 (Nat.le_of_ble_eq_true rfl) d_Mo_repetition_236 ⟨Nat.le_of_ble_eq_true rfl, Nat.le_of_ble_eq_true rfl⟩ (fun r185 mem186 H locs hq hP hS => ?_)
          have hD : va_D (Az sz) (fw n ad mem186) := fw_D hD
          obtain ⟨hre, hq⟩ := hq
          rw [hq] at hP hD
          subst hre
          rw [show hereF L (A9 225) (a1) = hereF L T (a1) by rw [hz12]]
          refine f_callSi (na := 1) (As := [.int (hereF L T (a1))]) (rest := []) Bx hml E.2.1 (m_Mo_digit l (hereF L T (a1))) kw_793 kw_794 kw_8 kw_795 (by decide +kernel) ⟨rfl, rfl⟩ ⟨Nat.le_of_ble_eq_true rfl, Nat.le_of_ble_eq_true rfl⟩ rfl hl.1 (Nat.le_of_ble_eq_true rfl) d_Mo_repetition_239 ⟨Nat.le_of_ble_eq_true rfl, Nat.le_of_ble_eq_true rfl⟩ (fun r188 hs187 => ?_)
          subst hs187
          refine lv_if_ne Bx.1 Bx.2.1 d_Mo_repetition_242 rfl (fun hb189 => ?_) (fun hb189 => ?_)
          · refine lv_aload_n Bx.1 Bx.2.1 d_Mo_repetition_254 rfl (lv_at hl 0 rfl) ?_
            refine lv_iconst (v := 1) Bx.1 Bx.2.1 d_Mo_repetition_255 (by decide) ?_
            refine lv_aload_n Bx.1 Bx.2.1 d_Mo_repetition_256 rfl (lv_at hl 0 rfl) ?_
            refine f_get Bx hP (by omega) hW156.1 rfl inMo 16 (by decide) kw_672 rfl rfl d_Mo_repetition_257 ?_
            rw [kk160]
            refine f_callVv (na := 2) (As := [.int (1), .int (nI a1)]) (rest := []) Bx hml E hP hD hS (by omega) hW156.1 rfl (m_Mo_wrong l hn hW156 (Or.inr hwr157.1) (by first | exact Or.inl rfl | exact Or.inr rfl)) kw_799 kw_801 sel_Mo_wrong kw_8 kw_802 (by decide +kernel) ⟨rfl, rfl⟩ ⟨Nat.le_of_ble_eq_true rfl, Nat.le_of_ble_eq_true rfl⟩ rfl hl.1 (Nat.le_of_ble_eq_true rfl) d_Mo_repetition_260 ⟨Nat.le_of_ble_eq_true rfl, Nat.le_of_ble_eq_true rfl⟩ (fun mem191 H locs hq hP hS => ?_)
            have hD : va_D (Az sz) (fw n ad mem191) := fw_D hD
            obtain ⟨J192, hW193, hwr194⟩ := hq
            have kk195 : J192 1 = nI L := (show J192 1 = J155 1 from hwr194.2 1 (by decide) (by decide)).trans kk158
            have kk196 : J192 24 = nI G := (show J192 24 = J155 24 from hwr194.2 24 (by decide) (by decide)).trans kk159
            have kk197 : J192 16 = nI a1 := (show J192 16 = J155 16 from hwr194.2 16 (by decide) (by decide)).trans kk160
            have kk198 : J192 14 = nI u := (show J192 14 = J155 14 from hwr194.2 14 (by decide) (by decide)).trans kk161
            have kk199 : J192 4 = nI R := (show J192 4 = J155 4 from hwr194.2 4 (by decide) (by decide)).trans kk162
            have kk200 : J192 7 = nI (Ec + 1) := (show J192 7 = J155 7 from hwr194.2 7 (by decide) (by decide)).trans kk163
            have kk201 : J192 18 = nI (f + 1) := (show J192 18 = J155 18 from hwr194.2 18 (by decide) (by decide)).trans kk164
            have kk202 : J192 28 = 0 := (show J192 28 = J155 28 from hwr194.2 28 (by decide) (by decide)).trans kk165
            refine lv_aload_n Bx.1 Bx.2.1 d_Mo_repetition_263 rfl (lv_at hl 0 rfl) ?_
            refine f_get Bx hP (by omega) hW193.1 rfl inMo 17 (by decide) kw_673 rfl rfl d_Mo_repetition_264 ?_
            refine lv_if_ne Bx.1 Bx.2.1 d_Mo_repetition_267 rfl (fun hb203 => ?_) (fun hb203 => ?_)
            · exact W.vret hx hb hr (fun t ht hW => ⟨⟨mem191, rfl, ⟨J192, A9, nm, hW193, Or.inl ⟨kk195, kk196, hz12, hwr194.1, _, by omega, kk197⟩⟩, by show va_P _ _ _ t.heap; rw [ht]; exact hP⟩, hS.F ht⟩) hS.2.2 d_Mo_repetition_274
            · exact absurd hb203 hwr194.1.ne
          · refine lv_aload_n Bx.1 Bx.2.1 d_Mo_repetition_245 rfl (lv_at hl 0 rfl) ?_
            refine f_callVi (na := 0) (As := []) (rest := []) Bx hml E hP hD hS (by omega) hW156.1 rfl (m_Mo_here l hn hW156 kk158 hL kk160 (by omega)) kw_778 kw_780 sel_Mo_here kw_8 kw_781 (by decide +kernel) ⟨rfl, rfl⟩ ⟨Nat.le_of_ble_eq_true rfl, Nat.le_of_ble_eq_true rfl⟩ rfl hl.1 (Nat.le_of_ble_eq_true rfl) d_Mo_repetition_246 ⟨Nat.le_of_ble_eq_true rfl, Nat.le_of_ble_eq_true rfl⟩ (fun r204 mem205 H locs hq hP hS => ?_)
            have hD : va_D (Az sz) (fw n ad mem205) := fw_D hD
            obtain ⟨hre, hq⟩ := hq
            rw [hq] at hP hD
            subst hre
            rw [show hereF L (A9 225) (a1) = hereF L T (a1) by rw [hz12]]
            refine lv_bipush (v := 42) Bx.1 Bx.2.1 d_Mo_repetition_249 (by decide) ?_
            refine lv_icmp_ne Bx.1 Bx.2.1 d_Mo_repetition_251 rfl (fun hb206 => ?_) (fun hb206 => ?_)
            · refine lv_aload_n Bx.1 Bx.2.1 d_Mo_repetition_263 rfl (lv_at hl 0 rfl) ?_
              refine f_get Bx hP (by omega) hW156.1 rfl inMo 17 (by decide) kw_673 rfl rfl d_Mo_repetition_264 ?_
              refine lv_if_ne Bx.1 Bx.2.1 d_Mo_repetition_267 rfl (fun hb207 => ?_) (fun hb207 => ?_)
              · exact W.vret hx hb hr (fun t ht hW => ⟨⟨mem154, rfl, ⟨J155, A9, nm, hW156, Or.inl ⟨kk158, kk159, hz12, hwr157.1, _, by omega, kk160⟩⟩, by show va_P _ _ _ t.heap; rw [ht]; exact hP⟩, hS.F ht⟩) hS.2.2 d_Mo_repetition_274
              · exact absurd hb207 hwr157.1.ne
            · have hlt208 := hereF_lt (by rw [hb206]; decide)
              refine lv_aload_n Bx.1 Bx.2.1 d_Mo_repetition_254 rfl (lv_at hl 0 rfl) ?_
              refine lv_iconst (v := 1) Bx.1 Bx.2.1 d_Mo_repetition_255 (by decide) ?_
              refine lv_aload_n Bx.1 Bx.2.1 d_Mo_repetition_256 rfl (lv_at hl 0 rfl) ?_
              refine f_get Bx hP (by omega) hW156.1 rfl inMo 16 (by decide) kw_672 rfl rfl d_Mo_repetition_257 ?_
              rw [kk160]
              refine f_callVv (na := 2) (As := [.int (1), .int (nI a1)]) (rest := []) Bx hml E hP hD hS (by omega) hW156.1 rfl (m_Mo_wrong l hn hW156 (Or.inr hwr157.1) (by first | exact Or.inl rfl | exact Or.inr rfl)) kw_799 kw_801 sel_Mo_wrong kw_8 kw_802 (by decide +kernel) ⟨rfl, rfl⟩ ⟨Nat.le_of_ble_eq_true rfl, Nat.le_of_ble_eq_true rfl⟩ rfl hl.1 (Nat.le_of_ble_eq_true rfl) d_Mo_repetition_260 ⟨Nat.le_of_ble_eq_true rfl, Nat.le_of_ble_eq_true rfl⟩ (fun mem210 H locs hq hP hS => ?_)
              have hD : va_D (Az sz) (fw n ad mem210) := fw_D hD
              obtain ⟨J211, hW212, hwr213⟩ := hq
              have kk214 : J211 1 = nI L := (show J211 1 = J155 1 from hwr213.2 1 (by decide) (by decide)).trans kk158
              have kk215 : J211 24 = nI G := (show J211 24 = J155 24 from hwr213.2 24 (by decide) (by decide)).trans kk159
              have kk216 : J211 16 = nI a1 := (show J211 16 = J155 16 from hwr213.2 16 (by decide) (by decide)).trans kk160
              have kk217 : J211 14 = nI u := (show J211 14 = J155 14 from hwr213.2 14 (by decide) (by decide)).trans kk161
              have kk218 : J211 4 = nI R := (show J211 4 = J155 4 from hwr213.2 4 (by decide) (by decide)).trans kk162
              have kk219 : J211 7 = nI (Ec + 1) := (show J211 7 = J155 7 from hwr213.2 7 (by decide) (by decide)).trans kk163
              have kk220 : J211 18 = nI (f + 1) := (show J211 18 = J155 18 from hwr213.2 18 (by decide) (by decide)).trans kk164
              have kk221 : J211 28 = 0 := (show J211 28 = J155 28 from hwr213.2 28 (by decide) (by decide)).trans kk165
              refine lv_aload_n Bx.1 Bx.2.1 d_Mo_repetition_263 rfl (lv_at hl 0 rfl) ?_
              refine f_get Bx hP (by omega) hW212.1 rfl inMo 17 (by decide) kw_673 rfl rfl d_Mo_repetition_264 ?_
              refine lv_if_ne Bx.1 Bx.2.1 d_Mo_repetition_267 rfl (fun hb222 => ?_) (fun hb222 => ?_)
              · exact W.vret hx hb hr (fun t ht hW => ⟨⟨mem210, rfl, ⟨J211, A9, nm, hW212, Or.inl ⟨kk214, kk215, hz12, hwr213.1, _, by omega, kk216⟩⟩, by show va_P _ _ _ t.heap; rw [ht]; exact hP⟩, hS.F ht⟩) hS.2.2 d_Mo_repetition_274
              · exact absurd hb222 hwr213.1.ne
  refine lv_aload_n Bx.1 Bx.2.1 d_Mo_repetition_0 rfl (lv_at hl 0 rfl) ?_
  refine f_get Bx hP (by omega) hM.1 rfl inMo 16 (by decide) kw_672 rfl rfl d_Mo_repetition_1 ?_
  rw [g3]
  refine lv_istore_n (lv' := [(1, .int (nI a)), (0, .ref (ad 224))]) Bx.1 Bx.2.1 d_Mo_repetition_4 rfl hl (by decide) rfl (fun ls hl => ?_)
  refine lv_aload_n Bx.1 Bx.2.1 d_Mo_repetition_5 rfl (lv_at hl 1 rfl) ?_
  refine f_get Bx hP (by omega) hM.1 rfl inMo 18 (by decide) kw_674 rfl rfl d_Mo_repetition_6 ?_
  rw [g8]
  refine lv_iconst (v := 1) Bx.1 Bx.2.1 d_Mo_repetition_9 (by decide) ?_
  refine lv_isub Bx.1 Bx.2.1 d_Mo_repetition_10 ?_
  rw [show nI (f + 1) - 1 = nI (f) from nI_pred (f)]
  refine lv_istore_n (lv' := [(2, .int (nI (f))), (1, .int (nI a)), (0, .ref (ad 224))]) Bx.1 Bx.2.1 d_Mo_repetition_11 rfl hl (by decide) rfl (fun ls hl => ?_)
  refine lv_aload_n Bx.1 Bx.2.1 d_Mo_repetition_12 rfl (lv_at hl 2 rfl) ?_
  refine f_callVi (na := 0) (As := []) (rest := []) Bx hml E hP hD hS (by omega) hM.1 rfl (m_Mo_here l hn hM g1 hL g3 (by omega)) kw_778 kw_780 sel_Mo_here kw_8 kw_781 (by decide +kernel) ⟨rfl, rfl⟩ ⟨Nat.le_of_ble_eq_true rfl, Nat.le_of_ble_eq_true rfl⟩ rfl hl.1 (Nat.le_of_ble_eq_true rfl) d_Mo_repetition_13 ⟨Nat.le_of_ble_eq_true rfl, Nat.le_of_ble_eq_true rfl⟩ (fun r223 mem224 H locs hq hP hS => ?_)
  have hD : va_D (Az sz) (fw n ad mem224) := fw_D hD
  obtain ⟨hre, hq⟩ := hq
  rw [hq] at hP hD
  subst hre
  rw [show hereF L (A 225) (a) = hereF L T (a) by rw [hT]]
  refine f_callSi (na := 1) (As := [.int (hereF L T (a))]) (rest := []) Bx hml E.2.1 (m_Mo_digit l (hereF L T (a))) kw_793 kw_794 kw_8 kw_795 (by decide +kernel) ⟨rfl, rfl⟩ ⟨Nat.le_of_ble_eq_true rfl, Nat.le_of_ble_eq_true rfl⟩ rfl hl.1 (Nat.le_of_ble_eq_true rfl) d_Mo_repetition_16 ⟨Nat.le_of_ble_eq_true rfl, Nat.le_of_ble_eq_true rfl⟩ (fun r226 hs225 => ?_)
  subst hs225
  refine lv_if_ne Bx.1 Bx.2.1 d_Mo_repetition_19 rfl (fun hb227 => ?_) (fun hb227 => ?_)
  · refine lv_aload_n Bx.1 Bx.2.1 d_Mo_repetition_31 rfl (lv_at hl 2 rfl) ?_
    refine lv_iconst (v := 2) Bx.1 Bx.2.1 d_Mo_repetition_32 (by decide) ?_
    refine lv_iload_n Bx.1 Bx.2.1 d_Mo_repetition_33 rfl (lv_at hl 1 rfl) ?_
    refine f_callVi (na := 2) (As := [.int (2), .int (nI a)]) (rest := []) Bx hml E hP hD hS (by omega) hM.1 rfl (m_Mo_element l hn hM (Or.inl g4) g7 (by omega)) kw_814 kw_816 sel_Mo_element kw_8 kw_817 (by decide +kernel) ⟨rfl, rfl⟩ ⟨Nat.le_of_ble_eq_true rfl, Nat.le_of_ble_eq_true rfl⟩ rfl hl.1 (Nat.le_of_ble_eq_true rfl) d_Mo_repetition_34 ⟨Nat.le_of_ble_eq_true rfl, Nat.le_of_ble_eq_true rfl⟩ (fun r228 mem229 H locs hq hP hS => ?_)
    have hD : va_D (Az sz) (fw n ad mem229) := fw_D hD
    rcases hq with ⟨hre237, J230, hW231, hwr232⟩ | ⟨hEl233, hre238, hW236⟩
    · subst hre237
      have kk239 : J230 1 = nI L := (show J230 1 = J 1 from hwr232.2 1 (by decide) (by decide)).trans g1
      have kk240 : J230 24 = nI G := (show J230 24 = J 24 from hwr232.2 24 (by decide) (by decide)).trans g2
      have kk241 : J230 16 = nI a := (show J230 16 = J 16 from hwr232.2 16 (by decide) (by decide)).trans g3
      have kk242 : J230 14 = nI u := (show J230 14 = J 14 from hwr232.2 14 (by decide) (by decide)).trans g5
      have kk243 : J230 4 = nI R := (show J230 4 = J 4 from hwr232.2 4 (by decide) (by decide)).trans g6
      have kk244 : J230 7 = nI Ec := (show J230 7 = J 7 from hwr232.2 7 (by decide) (by decide)).trans g7
      have kk245 : J230 18 = nI (f + 1) := (show J230 18 = J 18 from hwr232.2 18 (by decide) (by decide)).trans g8
      have kk246 : J230 28 = 0 := (show J230 28 = J 28 from hwr232.2 28 (by decide) (by decide)).trans hp
      refine lv_istore_n (lv' := [(3, .int (0)), (2, .int (nI (f))), (1, .int (nI a)), (0, .ref (ad 224))]) Bx.1 Bx.2.1 d_Mo_repetition_37 rfl hl (by decide) rfl (fun ls hl => ?_)
      refine lv_aload_n Bx.1 Bx.2.1 d_Mo_repetition_38 rfl (lv_at hl 3 rfl) ?_
      refine f_get Bx hP (by omega) hW231.1 rfl inMo 17 (by decide) kw_673 rfl rfl d_Mo_repetition_39 ?_
      refine lv_if_le Bx.1 Bx.2.1 d_Mo_repetition_42 rfl (fun hb247 => ?_) (fun hb247 => ?_)
      · exact absurd hb247 hwr232.1.nle
      · exact W.vret hx hb hr (fun t ht hW => ⟨⟨mem229, rfl, ⟨J230, A, nm, hW231, Or.inl ⟨kk239, kk240, hT, hwr232.1, _, by omega, kk241⟩⟩, by show va_P _ _ _ t.heap; rw [ht]; exact hP⟩, hS.F ht⟩) hS.2.2 d_Mo_repetition_45
    · subst hre238
      obtain ⟨J234, eJ234⟩ : ∃ z, z = va_up J 7 (nI (Ec + 1)) := ⟨_, rfl⟩
      obtain ⟨A235, eA235⟩ : ∃ z, z = elA A (Ec) 2 := ⟨_, rfl⟩
      rw [← eJ234, ← eA235] at hW236
      have kk248 : J234 1 = nI L := (show J234 1 = J 1 from by rw [eJ234]; rfl).trans g1
      have kk249 : J234 24 = nI G := (show J234 24 = J 24 from by rw [eJ234]; rfl).trans g2
      have kk250 : J234 16 = nI a := (show J234 16 = J 16 from by rw [eJ234]; rfl).trans g3
      have kk251 : J234 17 = 0 := (show J234 17 = J 17 from by rw [eJ234]; rfl).trans g4
      have kk252 : J234 14 = nI u := (show J234 14 = J 14 from by rw [eJ234]; rfl).trans g5
      have kk253 : J234 4 = nI R := (show J234 4 = J 4 from by rw [eJ234]; rfl).trans g6
      have kk254 : J234 18 = nI (f + 1) := (show J234 18 = J 18 from by rw [eJ234]; rfl).trans g8
      have kk255 : J234 28 = 0 := (show J234 28 = J 28 from by rw [eJ234]; rfl).trans hp
      have kk256 : J234 7 = nI (Ec + 1) := by rw [eJ234, va_up_self]
      have tT257 : A235 225 = T := by rw [eA235]; exact hT
      refine lv_istore_n (lv' := [(3, .int (nI Ec)), (2, .int (nI (f))), (1, .int (nI a)), (0, .ref (ad 224))]) Bx.1 Bx.2.1 d_Mo_repetition_37 rfl hl (by decide) rfl (fun ls hl => ?_)
      refine lv_aload_n Bx.1 Bx.2.1 d_Mo_repetition_38 rfl (lv_at hl 3 rfl) ?_
      refine f_get Bx hP (by omega) hW236.1 rfl inMo 17 (by decide) kw_673 rfl rfl d_Mo_repetition_39 ?_
      rw [kk251]
      refine lv_if_le Bx.1 Bx.2.1 d_Mo_repetition_42 rfl (fun hb258 => ?_) (fun hb258 => ?_)
      · refine lv_aload_n Bx.1 Bx.2.1 d_Mo_repetition_46 rfl (lv_at hl 3 rfl) ?_
        refine lv_aload_n Bx.1 Bx.2.1 d_Mo_repetition_47 rfl (lv_at hl 3 rfl) ?_
        refine f_get Bx hP (by omega) hW236.1 rfl inMo 22 (by decide) kw_678 rfl rfl d_Mo_repetition_48 ?_
        refine lv_iload_n Bx.1 Bx.2.1 d_Mo_repetition_51 rfl (lv_at hl 1 rfl) ?_
        refine f_iald Bx hP (by omega) (show mem229 238 = .inl (cy 1, 8, .inl (A235 238)) from hW236.2.2.1 238 (by decide) (by decide) (by decide)) (vp_in_nI (n := f) (by omega) (by decide)) d_Mo_repetition_52 ?_
        rw [nI_clamp (n := f) (by omega)]
        rw [show A235 238 (f) = nI (fs f) by simp [eA235, elA, va_up]; exact hfs.1]
        refine lv_iload_n Bx.1 Bx.2.1 d_Mo_repetition_53 rfl (lv_at hl 0 rfl) ?_
        have hkd261 : A235 228 (Ec) = 2 := by simp [eA235, elA, va_up, upd]
        obtain ⟨hnx259, hcl260⟩ := hI.ext (A' := A235) ⟨fun j h1 h2 h3 k hk => by
            have hj : j = 228 ∨ j = 229 ∨ j = 230 ∨ j = 232 ∨ j = 233 := by omega
            rcases hj with rfl | rfl | rfl | rfl | rfl <;> simp [eA235, elA, va_up, upd, Nat.ne_of_lt hk], by simp [eA235, elA, va_up], fun j h1 h2 => by
            have hj : j = 235 ∨ j = 236 ∨ j = 237 ∨ j = 238 ∨ j = 239 := by omega
            rcases hj with rfl | rfl | rfl | rfl | rfl <;> simp [eA235, elA, va_up], by simp [eA235, elA, va_up, upd], by simp [eA235, elA, va_up, upd]⟩ (Nat.le_refl u) (fun z => absurd (hkd261.symm.trans z) (by decide)) (fun z => absurd (hkd261.symm.trans z) (by decide)) (fun k z => z.elim)
        have hrr262 : A235 239 f = -1 ∨ ∃ r, A235 239 f = nI r ∧ fs f < r ∧ r < Ec := by rw [show A235 239 = A 239 by simp [eA235, elA, va_up]]; exact hrr0
        refine f_callVv (na := 2) (As := [.int (nI (fs f)), .int (nI Ec)]) (rest := []) Bx hml E hP hD hS (by omega) hW236.1 rfl (m_Mo_append l hn hW236 (show Ec + 1 ≤ 100 by omega) (show fs f < Ec by omega) (Nat.lt_succ_self Ec) hnx259.1 hcl260) kw_822 kw_824 sel_Mo_append kw_8 kw_825 (by decide +kernel) ⟨rfl, rfl⟩ ⟨Nat.le_of_ble_eq_true rfl, Nat.le_of_ble_eq_true rfl⟩ rfl hl.1 (Nat.le_of_ble_eq_true rfl) d_Mo_repetition_54 ⟨Nat.le_of_ble_eq_true rfl, Nat.le_of_ble_eq_true rfl⟩ (fun mem264 H locs hq hP hS => ?_)
        have hD : va_D (Az sz) (fw n ad mem264) := fw_D hD
        obtain ⟨A265, hW266, hap267⟩ := hq
        have tT268 : A265 225 = T := by
          obtain ⟨_, _, _, k3, _⟩ := hap267.at
          rw [k3 225 (by decide) (by decide)]; exact tT257
        refine lv_aload_n Bx.1 Bx.2.1 d_Mo_repetition_57 rfl (lv_at hl 3 rfl) ?_
        refine f_get Bx hP (by omega) hW266.1 rfl inMo 23 (by decide) kw_679 rfl rfl d_Mo_repetition_58 ?_
        refine lv_iload_n Bx.1 Bx.2.1 d_Mo_repetition_61 rfl (lv_at hl 1 rfl) ?_
        refine lv_iload_n Bx.1 Bx.2.1 d_Mo_repetition_62 rfl (lv_at hl 0 rfl) ?_
        refine f_iast (x := nI Ec) (i := nI (f)) Bx hP hD hS (by omega) (show mem264 239 = .inl (cy 1, 8, .inl (A265 239)) from hW266.2.2.1 239 (by decide) (by decide) (by decide)) (vp_in_nI (n := f) (by omega) (by decide)) d_Mo_repetition_63 (fun H locs hP hS => ?_)
        rw [nI_clamp (n := f) (by omega)] at hP
        obtain ⟨A269, eA269⟩ : ∃ z, z = va_up A265 239 (upd (A265 239) (f) (nI Ec)) := ⟨_, rfl⟩
        obtain ⟨mem270, e_mem270⟩ : ∃ z, z = va_up mem264 239 (.inl (cy 1, 8, .inl (upd (A265 239) (f) (nI Ec)))) := ⟨_, rfl⟩
        have hP : va_P D vcl (fw n ad mem270) H := by rw [e_mem270]; exact hP
        have hD : va_D (Az sz) (fw n ad mem270) := fw_D hD
        have hW271 : MW cy ad J234 A269 nm m0 mem270 := by rw [e_mem270, eA269]; exact hW266.upA (j := 239) (by decide) (by decide) (by decide) (Or.inl (by decide))
        have tT272 : A269 225 = T := by rw [eA269]; exact tT268
        obtain ⟨hin5, h95⟩ := hnx259.place (by omega) hap267 (Nat.lt_succ_self Ec) (by omega) (by omega) (v := nI Ec) (Or.inr ⟨Ec, rfl, by omega, by omega⟩) (X' := fun _ => False) (fun k _ z => Or.inr (Or.inr (by rw [(z.resolve_left id).1]))) (fun r hr z => absurd (show nI r = -1 by rw [← z, show A235 239 = A 239 by simp [eA235, elA, va_up]]; exact h39) (nI_m (by omega))) eA269
        have hk5 : A269 228 Ec = 2 := by
          obtain ⟨_, _, _, k3, _⟩ := hap267.at
          rw [eA269]
          show A265 228 Ec = 2
          rw [k3 228 (by decide) (by decide)]; exact hkd261
        refine lv_aload_n Bx.1 Bx.2.1 d_Mo_repetition_64 rfl (lv_at hl 3 rfl) ?_
        refine f_callVi (na := 0) (As := []) (rest := []) Bx hml E hP hD hS (by omega) hW271.1 rfl (m_Mo_here l hn hW271 kk248 hL kk250 (by omega)) kw_778 kw_780 sel_Mo_here kw_8 kw_781 (by decide +kernel) ⟨rfl, rfl⟩ ⟨Nat.le_of_ble_eq_true rfl, Nat.le_of_ble_eq_true rfl⟩ rfl hl.1 (Nat.le_of_ble_eq_true rfl) d_Mo_repetition_65 ⟨Nat.le_of_ble_eq_true rfl, Nat.le_of_ble_eq_true rfl⟩ (fun r273 mem274 H locs hq hP hS => ?_)
        have hD : va_D (Az sz) (fw n ad mem274) := fw_D hD
        obtain ⟨hre, hq⟩ := hq
        rw [hq] at hP hD
        subst hre
        rw [show hereF L (A269 225) (a) = hereF L T (a) by rw [tT272]]
        refine f_callSi (na := 1) (As := [.int (hereF L T (a))]) (rest := []) Bx hml E.2.1 (m_Mo_digit l (hereF L T (a))) kw_793 kw_794 kw_8 kw_795 (by decide +kernel) ⟨rfl, rfl⟩ ⟨Nat.le_of_ble_eq_true rfl, Nat.le_of_ble_eq_true rfl⟩ rfl hl.1 (Nat.le_of_ble_eq_true rfl) d_Mo_repetition_68 ⟨Nat.le_of_ble_eq_true rfl, Nat.le_of_ble_eq_true rfl⟩ (fun r276 hs275 => ?_)
        subst hs275
        refine lv_istore (lv' := [(4, .int ((if hereF L T (a) < 48 ∨ 57 < hereF L T (a) then 0 else 1))), (3, .int (nI Ec)), (2, .int (nI (f))), (1, .int (nI a)), (0, .ref (ad 224))]) Bx.1 Bx.2.1 d_Mo_repetition_71 hl (by decide) rfl (fun ls hl => ?_)
        refine lv_aload_n Bx.1 Bx.2.1 d_Mo_repetition_73 rfl (lv_at hl 4 rfl) ?_
        refine f_get Bx hP (by omega) hW271.1 rfl inMo 9 (by decide) kw_665 rfl rfl d_Mo_repetition_74 ?_
        refine lv_iload_n Bx.1 Bx.2.1 d_Mo_repetition_77 rfl (lv_at hl 1 rfl) ?_
        refine lv_iload Bx.1 Bx.2.1 d_Mo_repetition_78 (lv_at hl 0 rfl) ?_
        refine lv_if_eq Bx.1 Bx.2.1 d_Mo_repetition_80 rfl (fun hb277 => ?_) (fun hb277 => ?_)
        · rw [hb277] at hl
          refine lv_iconst (v := 0) Bx.1 Bx.2.1 d_Mo_repetition_93 (by decide) ?_
          refine f_iast (x := 0) (i := nI (Ec)) Bx hP hD hS (by omega) (show mem270 229 = .inl (cy 1, 100, .inl (A269 229)) from hW271.2.2.1 229 (by decide) (by decide) (by decide)) (vp_in_nI (n := Ec) (by omega) (by decide)) d_Mo_repetition_94 (fun H locs hP hS => ?_)
          rw [nI_clamp (n := Ec) (by omega)] at hP
          obtain ⟨A278, eA278⟩ : ∃ z, z = va_up A269 229 (upd (A269 229) (Ec) (0)) := ⟨_, rfl⟩
          obtain ⟨mem279, e_mem279⟩ : ∃ z, z = va_up mem270 229 (.inl (cy 1, 100, .inl (upd (A269 229) (Ec) (0)))) := ⟨_, rfl⟩
          have hP : va_P D vcl (fw n ad mem279) H := by rw [e_mem279]; exact hP
          have hD : va_D (Az sz) (fw n ad mem279) := fw_D hD
          have hW280 : MW cy ad J234 A278 nm m0 mem279 := by rw [e_mem279, eA278]; exact hW271.upA (j := 229) (by decide) (by decide) (by decide) (Or.inl (by decide))
          have tT281 : A278 225 = T := by rw [eA278]; exact tT272
          refine lv_aload_n Bx.1 Bx.2.1 d_Mo_repetition_95 rfl (lv_at hl 4 rfl) ?_
          refine lv_dup Bx.1 Bx.2.1 d_Mo_repetition_96 rfl ?_
          refine f_get Bx hP (by omega) hW280.1 rfl inMo 16 (by decide) kw_672 rfl rfl d_Mo_repetition_97 ?_
          rw [kk250]
          refine lv_iload Bx.1 Bx.2.1 d_Mo_repetition_100 (lv_at hl 0 rfl) ?_
          refine lv_if_eq Bx.1 Bx.2.1 d_Mo_repetition_102 rfl (fun hb282 => ?_) (fun hb282 => ?_)
          · refine lv_iconst (v := 0) Bx.1 Bx.2.1 d_Mo_repetition_109 (by decide) ?_
            refine lv_iadd Bx.1 Bx.2.1 d_Mo_repetition_110 ?_
            rw [show nI a + 0 = nI (a + 0) from nI_add (a) (0)]
            refine f_put Bx hP hD hS (by omega) hW280.1 rfl inMo tyMo okMo nmMo 16 (by decide) kw_672 rfl rfl rfl rfl (Nat.le_of_ble_eq_true rfl) d_Mo_repetition_111 (fun H locs hP hS => ?_)
            obtain ⟨J283, eJ283⟩ : ∃ z, z = va_up J234 16 (nI (a + 0)) := ⟨_, rfl⟩
            obtain ⟨mem284, e_mem284⟩ : ∃ z, z = va_up mem279 224 (moC ad J283) := ⟨_, rfl⟩
            have hP : va_P D vcl (fw n ad mem284) H := by rw [e_mem284, eJ283]; exact hP
            have hD : va_D (Az sz) (fw n ad mem284) := fw_D hD
            have hW285 : MW cy ad J283 A278 nm m0 mem284 := by rw [e_mem284]; exact hW280.upJ (by rw [eJ283]; exact va_up_ne _ _ (by decide))
            have kk286 : J283 1 = nI L := by rw [eJ283]; exact kk248
            have kk287 : J283 24 = nI G := by rw [eJ283]; exact kk249
            have kk288 : J283 17 = 0 := by rw [eJ283]; exact kk251
            have kk289 : J283 14 = nI u := by rw [eJ283]; exact kk252
            have kk290 : J283 4 = nI R := by rw [eJ283]; exact kk253
            have kk291 : J283 18 = nI (f + 1) := by rw [eJ283]; exact kk254
            have kk292 : J283 28 = 0 := by rw [eJ283]; exact kk255
            have kk293 : J283 7 = nI (Ec + 1) := by rw [eJ283]; exact kk256
            have kk294 : J283 16 = nI (a + 0) := by rw [eJ283, va_up_self]
            refine lv_aload_n Bx.1 Bx.2.1 d_Mo_repetition_114 rfl (lv_at hl 4 rfl) ?_
            refine f_get Bx hP (by omega) hW285.1 rfl inMo 10 (by decide) kw_666 rfl rfl d_Mo_repetition_115 ?_
            refine lv_iload_n Bx.1 Bx.2.1 d_Mo_repetition_118 rfl (lv_at hl 1 rfl) ?_
            refine lv_aload_n Bx.1 Bx.2.1 d_Mo_repetition_119 rfl (lv_at hl 4 rfl) ?_
            refine f_get Bx hP (by omega) hW285.1 rfl inMo 9 (by decide) kw_665 rfl rfl d_Mo_repetition_120 ?_
            refine lv_iload_n Bx.1 Bx.2.1 d_Mo_repetition_123 rfl (lv_at hl 1 rfl) ?_
            refine f_iald Bx hP (by omega) (show mem284 229 = .inl (cy 1, 100, .inl (A278 229)) from hW285.2.2.1 229 (by decide) (by decide) (by decide)) (vp_in_nI (n := Ec) (by omega) (by decide)) d_Mo_repetition_124 ?_
            rw [nI_clamp (n := Ec) (by omega)]
            refine f_iast (x := A278 229 (Ec)) (i := nI (Ec)) Bx hP hD hS (by omega) (show mem284 230 = .inl (cy 1, 100, .inl (A278 230)) from hW285.2.2.1 230 (by decide) (by decide) (by decide)) (vp_in_nI (n := Ec) (by omega) (by decide)) d_Mo_repetition_125 (fun H locs hP hS => ?_)
            rw [nI_clamp (n := Ec) (by omega)] at hP
            obtain ⟨A295, eA295⟩ : ∃ z, z = va_up A278 230 (upd (A278 230) (Ec) (A278 229 (Ec))) := ⟨_, rfl⟩
            obtain ⟨mem296, e_mem296⟩ : ∃ z, z = va_up mem284 230 (.inl (cy 1, 100, .inl (upd (A278 230) (Ec) (A278 229 (Ec))))) := ⟨_, rfl⟩
            have hP : va_P D vcl (fw n ad mem296) H := by rw [e_mem296]; exact hP
            have hD : va_D (Az sz) (fw n ad mem296) := fw_D hD
            have hW297 : MW cy ad J283 A295 nm m0 mem296 := by rw [e_mem296, eA295]; exact hW285.upA (j := 230) (by decide) (by decide) (by decide) (Or.inl (by decide))
            have tT298 : A295 225 = T := by rw [eA295]; exact tT281
            refine lv_aload_n Bx.1 Bx.2.1 d_Mo_repetition_126 rfl (lv_at hl 4 rfl) ?_
            refine f_callVi (na := 0) (As := []) (rest := []) Bx hml E hP hD hS (by omega) hW297.1 rfl (m_Mo_here l hn hW297 kk286 hL kk294 (by omega)) kw_778 kw_780 sel_Mo_here kw_8 kw_781 (by decide +kernel) ⟨rfl, rfl⟩ ⟨Nat.le_of_ble_eq_true rfl, Nat.le_of_ble_eq_true rfl⟩ rfl hl.1 (Nat.le_of_ble_eq_true rfl) d_Mo_repetition_127 ⟨Nat.le_of_ble_eq_true rfl, Nat.le_of_ble_eq_true rfl⟩ (fun r299 mem300 H locs hq hP hS => ?_)
            have hD : va_D (Az sz) (fw n ad mem300) := fw_D hD
            obtain ⟨hre, hq⟩ := hq
            rw [hq] at hP hD
            subst hre
            rw [show hereF L (A295 225) (a + 0) = hereF L T (a + 0) by rw [tT298]]
            refine lv_bipush (v := 42) Bx.1 Bx.2.1 d_Mo_repetition_130 (by decide) ?_
            refine lv_icmp_ne Bx.1 Bx.2.1 d_Mo_repetition_132 rfl (fun hb301 => ?_) (fun hb301 => ?_)
            · have hno := hin5.note (A' := A295) (e := Ec) (u' := u) (Nat.le_refl _) (fun j q8 q9 q0 q1 q4 => by simp [eA278, eA295, va_up, q9, q0]) (fun i hi => by simp [eA278, eA295, va_up, upd, hi]) (Or.inl (by simp [eA278, eA295, va_up])) (by simp [eA278, eA295, va_up, hk5]) (fun z => absurd z (by simp [eA278, eA295, va_up, hk5]))
              exact share9 mem296 (J283) (A295) (a + 0) _ _ _ (⟨⟨kk286, kk287, kk294, kk288, kk289, kk290, kk293, kk291⟩, kk292⟩) (hW297) (tT298) (hno) (⟨by omega, by omega, by omega⟩) hP hD hS (lv_sub hl [4, 3, 2, 1] rfl)
            · have hlt302 := hereF_lt (by rw [hb301]; decide)
              refine lv_aload_n Bx.1 Bx.2.1 d_Mo_repetition_135 rfl (lv_at hl 4 rfl) ?_
              refine lv_dup Bx.1 Bx.2.1 d_Mo_repetition_136 rfl ?_
              refine f_get Bx hP (by omega) hW297.1 rfl inMo 16 (by decide) kw_672 rfl rfl d_Mo_repetition_137 ?_
              rw [kk294]
              refine lv_iconst (v := 1) Bx.1 Bx.2.1 d_Mo_repetition_140 (by decide) ?_
              refine lv_iadd Bx.1 Bx.2.1 d_Mo_repetition_141 ?_
              rw [show nI (a + 0) + 1 = nI (a + 0 + 1) from nI_add (a + 0) (1)]
              refine f_put Bx hP hD hS (by omega) hW297.1 rfl inMo tyMo okMo nmMo 16 (by decide) kw_672 rfl rfl rfl rfl (Nat.le_of_ble_eq_true rfl) d_Mo_repetition_142 (fun H locs hP hS => ?_)
              obtain ⟨J303, eJ303⟩ : ∃ z, z = va_up J283 16 (nI (a + 0 + 1)) := ⟨_, rfl⟩
              obtain ⟨mem304, e_mem304⟩ : ∃ z, z = va_up mem296 224 (moC ad J303) := ⟨_, rfl⟩
              have hP : va_P D vcl (fw n ad mem304) H := by rw [e_mem304, eJ303]; exact hP
              have hD : va_D (Az sz) (fw n ad mem304) := fw_D hD
              have hW305 : MW cy ad J303 A295 nm m0 mem304 := by rw [e_mem304]; exact hW297.upJ (by rw [eJ303]; exact va_up_ne _ _ (by decide))
              have kk306 : J303 1 = nI L := by rw [eJ303]; exact kk286
              have kk307 : J303 24 = nI G := by rw [eJ303]; exact kk287
              have kk308 : J303 17 = 0 := by rw [eJ303]; exact kk288
              have kk309 : J303 14 = nI u := by rw [eJ303]; exact kk289
              have kk310 : J303 4 = nI R := by rw [eJ303]; exact kk290
              have kk311 : J303 18 = nI (f + 1) := by rw [eJ303]; exact kk291
              have kk312 : J303 28 = 0 := by rw [eJ303]; exact kk292
              have kk313 : J303 7 = nI (Ec + 1) := by rw [eJ303]; exact kk293
              have kk314 : J303 16 = nI (a + 0 + 1) := by rw [eJ303, va_up_self]
              refine lv_aload_n Bx.1 Bx.2.1 d_Mo_repetition_145 rfl (lv_at hl 4 rfl) ?_
              refine f_get Bx hP (by omega) hW305.1 rfl inMo 10 (by decide) kw_666 rfl rfl d_Mo_repetition_146 ?_
              refine lv_iload_n Bx.1 Bx.2.1 d_Mo_repetition_149 rfl (lv_at hl 1 rfl) ?_
              refine lv_aload_n Bx.1 Bx.2.1 d_Mo_repetition_150 rfl (lv_at hl 4 rfl) ?_
              refine f_callVi (na := 0) (As := []) (rest := [.int (nI Ec), .ref (ad 230)]) Bx hml E hP hD hS (by omega) hW305.1 rfl (m_Mo_here l hn hW305 kk306 hL kk314 (by omega)) kw_778 kw_780 sel_Mo_here kw_8 kw_781 (by decide +kernel) ⟨rfl, rfl⟩ ⟨Nat.le_of_ble_eq_true rfl, Nat.le_of_ble_eq_true rfl⟩ rfl hl.1 (Nat.le_of_ble_eq_true rfl) d_Mo_repetition_151 ⟨Nat.le_of_ble_eq_true rfl, Nat.le_of_ble_eq_true rfl⟩ (fun r315 mem316 H locs hq hP hS => ?_)
              have hD : va_D (Az sz) (fw n ad mem316) := fw_D hD
              obtain ⟨hre, hq⟩ := hq
              rw [hq] at hP hD
              subst hre
              rw [show hereF L (A295 225) (a + 0 + 1) = hereF L T (a + 0 + 1) by rw [tT298]]
              refine f_callSi (na := 1) (As := [.int (hereF L T (a + 0 + 1))]) (rest := [.int (nI Ec), .ref (ad 230)]) Bx hml E.2.1 (m_Mo_digit l (hereF L T (a + 0 + 1))) kw_793 kw_794 kw_8 kw_795 (by decide +kernel) ⟨rfl, rfl⟩ ⟨Nat.le_of_ble_eq_true rfl, Nat.le_of_ble_eq_true rfl⟩ rfl hl.1 (Nat.le_of_ble_eq_true rfl) d_Mo_repetition_154 ⟨Nat.le_of_ble_eq_true rfl, Nat.le_of_ble_eq_true rfl⟩ (fun r318 hs317 => ?_)
              subst hs317
              refine lv_if_eq Bx.1 Bx.2.1 d_Mo_repetition_157 rfl (fun hb319 => ?_) (fun hb319 => ?_)
              · refine lv_iconst (v := -1) Bx.1 Bx.2.1 d_Mo_repetition_170 (by decide) ?_
                refine f_iast (x := (-1)) (i := nI (Ec)) Bx hP hD hS (by omega) (show mem304 230 = .inl (cy 1, 100, .inl (A295 230)) from hW305.2.2.1 230 (by decide) (by decide) (by decide)) (vp_in_nI (n := Ec) (by omega) (by decide)) d_Mo_repetition_171 (fun H locs hP hS => ?_)
                rw [nI_clamp (n := Ec) (by omega)] at hP
                obtain ⟨A320, eA320⟩ : ∃ z, z = va_up A295 230 (upd (A295 230) (Ec) ((-1))) := ⟨_, rfl⟩
                obtain ⟨mem321, e_mem321⟩ : ∃ z, z = va_up mem304 230 (.inl (cy 1, 100, .inl (upd (A295 230) (Ec) ((-1))))) := ⟨_, rfl⟩
                have hP : va_P D vcl (fw n ad mem321) H := by rw [e_mem321]; exact hP
                have hD : va_D (Az sz) (fw n ad mem321) := fw_D hD
                have hW322 : MW cy ad J303 A320 nm m0 mem321 := by rw [e_mem321, eA320]; exact hW305.upA (j := 230) (by decide) (by decide) (by decide) (Or.inl (by decide))
                have tT323 : A320 225 = T := by rw [eA320]; exact tT298
                refine lv_aload_n Bx.1 Bx.2.1 d_Mo_repetition_172 rfl (lv_at hl 4 rfl) ?_
                refine lv_dup Bx.1 Bx.2.1 d_Mo_repetition_173 rfl ?_
                refine f_get Bx hP (by omega) hW322.1 rfl inMo 16 (by decide) kw_672 rfl rfl d_Mo_repetition_174 ?_
                rw [kk314]
                refine lv_aload_n Bx.1 Bx.2.1 d_Mo_repetition_177 rfl (lv_at hl 4 rfl) ?_
                refine f_get Bx hP (by omega) hW322.1 rfl inMo 10 (by decide) kw_666 rfl rfl d_Mo_repetition_178 ?_
                refine lv_iload_n Bx.1 Bx.2.1 d_Mo_repetition_181 rfl (lv_at hl 1 rfl) ?_
                refine f_iald Bx hP (by omega) (show mem321 230 = .inl (cy 1, 100, .inl (A320 230)) from hW322.2.2.1 230 (by decide) (by decide) (by decide)) (vp_in_nI (n := Ec) (by omega) (by decide)) d_Mo_repetition_182 ?_
                rw [nI_clamp (n := Ec) (by omega)]
                rw [show A320 230 (Ec) = -1 by simp [eA278, eA295, eA320, va_up, upd]]
                refine lv_if_lt Bx.1 Bx.2.1 d_Mo_repetition_183 rfl (fun hb324 => ?_) (fun hb324 => ?_)
                · refine lv_iconst (v := 0) Bx.1 Bx.2.1 d_Mo_repetition_190 (by decide) ?_
                  refine lv_iadd Bx.1 Bx.2.1 d_Mo_repetition_191 ?_
                  rw [show nI (a + 0 + 1) + 0 = nI (a + 0 + 1 + 0) from nI_add (a + 0 + 1) (0)]
                  refine f_put Bx hP hD hS (by omega) hW322.1 rfl inMo tyMo okMo nmMo 16 (by decide) kw_672 rfl rfl rfl rfl (Nat.le_of_ble_eq_true rfl) d_Mo_repetition_192 (fun H locs hP hS => ?_)
                  obtain ⟨J325, eJ325⟩ : ∃ z, z = va_up J303 16 (nI (a + 0 + 1 + 0)) := ⟨_, rfl⟩
                  obtain ⟨mem326, e_mem326⟩ : ∃ z, z = va_up mem321 224 (moC ad J325) := ⟨_, rfl⟩
                  have hP : va_P D vcl (fw n ad mem326) H := by rw [e_mem326, eJ325]; exact hP
                  have hD : va_D (Az sz) (fw n ad mem326) := fw_D hD
                  have hW327 : MW cy ad J325 A320 nm m0 mem326 := by rw [e_mem326]; exact hW322.upJ (by rw [eJ325]; exact va_up_ne _ _ (by decide))
                  have kk328 : J325 1 = nI L := by rw [eJ325]; exact kk306
                  have kk329 : J325 24 = nI G := by rw [eJ325]; exact kk307
                  have kk330 : J325 17 = 0 := by rw [eJ325]; exact kk308
                  have kk331 : J325 14 = nI u := by rw [eJ325]; exact kk309
                  have kk332 : J325 4 = nI R := by rw [eJ325]; exact kk310
                  have kk333 : J325 18 = nI (f + 1) := by rw [eJ325]; exact kk311
                  have kk334 : J325 28 = 0 := by rw [eJ325]; exact kk312
                  have kk335 : J325 7 = nI (Ec + 1) := by rw [eJ325]; exact kk313
                  have kk336 : J325 16 = nI (a + 0 + 1 + 0) := by rw [eJ325, va_up_self]
                  have hno := hin5.note (A' := A320) (e := Ec) (u' := u) (Nat.le_refl _) (fun j q8 q9 q0 q1 q4 => by simp [eA278, eA295, eA320, va_up, q9, q0]) (fun i hi => by simp [eA278, eA295, eA320, va_up, upd, hi]) (Or.inl (by simp [eA278, eA295, eA320, va_up])) (by simp [eA278, eA295, eA320, va_up, hk5]) (fun z => absurd z (by simp [eA278, eA295, eA320, va_up, hk5]))
                  exact share9 mem326 (J325) (A320) (a + 0 + 1 + 0) _ _ _ (⟨⟨kk328, kk329, kk336, kk330, kk331, kk332, kk335, kk333⟩, kk334⟩) (hW327) (tT323) (hno) (⟨by omega, by omega, by omega⟩) hP hD hS (lv_sub hl [4, 3, 2, 1] rfl)
                · exact absurd hb324 (by decide)
              · have hlt337 := hereF_lt (dg_ne hb319)
                refine lv_aload_n Bx.1 Bx.2.1 d_Mo_repetition_160 rfl (lv_at hl 4 rfl) ?_
                refine f_callVi (na := 0) (As := []) (rest := [.int (nI Ec), .ref (ad 230)]) Bx hml E hP hD hS (by omega) hW305.1 rfl (m_Mo_here l hn hW305 kk306 hL kk314 (by omega)) kw_778 kw_780 sel_Mo_here kw_8 kw_781 (by decide +kernel) ⟨rfl, rfl⟩ ⟨Nat.le_of_ble_eq_true rfl, Nat.le_of_ble_eq_true rfl⟩ rfl hl.1 (Nat.le_of_ble_eq_true rfl) d_Mo_repetition_161 ⟨Nat.le_of_ble_eq_true rfl, Nat.le_of_ble_eq_true rfl⟩ (fun r338 mem339 H locs hq hP hS => ?_)
                have hD : va_D (Az sz) (fw n ad mem339) := fw_D hD
                obtain ⟨hre, hq⟩ := hq
                rw [hq] at hP hD
                subst hre
                rw [show hereF L (A295 225) (a + 0 + 1) = hereF L T (a + 0 + 1) by rw [tT298]]
                refine lv_bipush (v := 48) Bx.1 Bx.2.1 d_Mo_repetition_164 (by decide) ?_
                refine lv_isub Bx.1 Bx.2.1 d_Mo_repetition_166 ?_
                refine lv_goto Bx.1 Bx.2.1 d_Mo_repetition_167 rfl ?_
                refine f_iast (x := hereF L T (a + 0 + 1) - 48) (i := nI (Ec)) Bx hP hD hS (by omega) (show mem304 230 = .inl (cy 1, 100, .inl (A295 230)) from hW305.2.2.1 230 (by decide) (by decide) (by decide)) (vp_in_nI (n := Ec) (by omega) (by decide)) d_Mo_repetition_171 (fun H locs hP hS => ?_)
                rw [nI_clamp (n := Ec) (by omega)] at hP
                obtain ⟨A340, eA340⟩ : ∃ z, z = va_up A295 230 (upd (A295 230) (Ec) (hereF L T (a + 0 + 1) - 48)) := ⟨_, rfl⟩
                obtain ⟨mem341, e_mem341⟩ : ∃ z, z = va_up mem304 230 (.inl (cy 1, 100, .inl (upd (A295 230) (Ec) (hereF L T (a + 0 + 1) - 48)))) := ⟨_, rfl⟩
                have hP : va_P D vcl (fw n ad mem341) H := by rw [e_mem341]; exact hP
                have hD : va_D (Az sz) (fw n ad mem341) := fw_D hD
                have hW342 : MW cy ad J303 A340 nm m0 mem341 := by rw [e_mem341, eA340]; exact hW305.upA (j := 230) (by decide) (by decide) (by decide) (Or.inl (by decide))
                have tT343 : A340 225 = T := by rw [eA340]; exact tT298
                refine lv_aload_n Bx.1 Bx.2.1 d_Mo_repetition_172 rfl (lv_at hl 4 rfl) ?_
                refine lv_dup Bx.1 Bx.2.1 d_Mo_repetition_173 rfl ?_
                refine f_get Bx hP (by omega) hW342.1 rfl inMo 16 (by decide) kw_672 rfl rfl d_Mo_repetition_174 ?_
                rw [kk314]
                refine lv_aload_n Bx.1 Bx.2.1 d_Mo_repetition_177 rfl (lv_at hl 4 rfl) ?_
                refine f_get Bx hP (by omega) hW342.1 rfl inMo 10 (by decide) kw_666 rfl rfl d_Mo_repetition_178 ?_
                refine lv_iload_n Bx.1 Bx.2.1 d_Mo_repetition_181 rfl (lv_at hl 1 rfl) ?_
                refine f_iald Bx hP (by omega) (show mem341 230 = .inl (cy 1, 100, .inl (A340 230)) from hW342.2.2.1 230 (by decide) (by decide) (by decide)) (vp_in_nI (n := Ec) (by omega) (by decide)) d_Mo_repetition_182 ?_
                rw [nI_clamp (n := Ec) (by omega)]
                refine lv_if_lt Bx.1 Bx.2.1 d_Mo_repetition_183 rfl (fun hb344 => ?_) (fun hb344 => ?_)
                · refine lv_iconst (v := 0) Bx.1 Bx.2.1 d_Mo_repetition_190 (by decide) ?_
                  refine lv_iadd Bx.1 Bx.2.1 d_Mo_repetition_191 ?_
                  rw [show nI (a + 0 + 1) + 0 = nI (a + 0 + 1 + 0) from nI_add (a + 0 + 1) (0)]
                  refine f_put Bx hP hD hS (by omega) hW342.1 rfl inMo tyMo okMo nmMo 16 (by decide) kw_672 rfl rfl rfl rfl (Nat.le_of_ble_eq_true rfl) d_Mo_repetition_192 (fun H locs hP hS => ?_)
                  obtain ⟨J345, eJ345⟩ : ∃ z, z = va_up J303 16 (nI (a + 0 + 1 + 0)) := ⟨_, rfl⟩
                  obtain ⟨mem346, e_mem346⟩ : ∃ z, z = va_up mem341 224 (moC ad J345) := ⟨_, rfl⟩
                  have hP : va_P D vcl (fw n ad mem346) H := by rw [e_mem346, eJ345]; exact hP
                  have hD : va_D (Az sz) (fw n ad mem346) := fw_D hD
                  have hW347 : MW cy ad J345 A340 nm m0 mem346 := by rw [e_mem346]; exact hW342.upJ (by rw [eJ345]; exact va_up_ne _ _ (by decide))
                  have kk348 : J345 1 = nI L := by rw [eJ345]; exact kk306
                  have kk349 : J345 24 = nI G := by rw [eJ345]; exact kk307
                  have kk350 : J345 17 = 0 := by rw [eJ345]; exact kk308
                  have kk351 : J345 14 = nI u := by rw [eJ345]; exact kk309
                  have kk352 : J345 4 = nI R := by rw [eJ345]; exact kk310
                  have kk353 : J345 18 = nI (f + 1) := by rw [eJ345]; exact kk311
                  have kk354 : J345 28 = 0 := by rw [eJ345]; exact kk312
                  have kk355 : J345 7 = nI (Ec + 1) := by rw [eJ345]; exact kk313
                  have kk356 : J345 16 = nI (a + 0 + 1 + 0) := by rw [eJ345, va_up_self]
                  have hno := hin5.note (A' := A340) (e := Ec) (u' := u) (Nat.le_refl _) (fun j q8 q9 q0 q1 q4 => by simp [eA278, eA295, eA340, va_up, q9, q0]) (fun i hi => by simp [eA278, eA295, eA340, va_up, upd, hi]) (Or.inl (by simp [eA278, eA295, eA340, va_up])) (by simp [eA278, eA295, eA340, va_up, hk5]) (fun z => absurd z (by simp [eA278, eA295, eA340, va_up, hk5]))
                  exact share9 mem346 (J345) (A340) (a + 0 + 1 + 0) _ _ _ (⟨⟨kk348, kk349, kk356, kk350, kk351, kk352, kk355, kk353⟩, kk354⟩) (hW347) (tT343) (hno) (⟨by omega, by omega, by omega⟩) hP hD hS (lv_sub hl [4, 3, 2, 1] rfl)
                · refine lv_iconst (v := 1) Bx.1 Bx.2.1 d_Mo_repetition_186 (by decide) ?_
                  refine lv_goto Bx.1 Bx.2.1 d_Mo_repetition_187 rfl ?_
                  refine lv_iadd Bx.1 Bx.2.1 d_Mo_repetition_191 ?_
                  rw [show nI (a + 0 + 1) + 1 = nI (a + 0 + 1 + 1) from nI_add (a + 0 + 1) (1)]
                  refine f_put Bx hP hD hS (by omega) hW342.1 rfl inMo tyMo okMo nmMo 16 (by decide) kw_672 rfl rfl rfl rfl (Nat.le_of_ble_eq_true rfl) d_Mo_repetition_192 (fun H locs hP hS => ?_)
                  obtain ⟨J357, eJ357⟩ : ∃ z, z = va_up J303 16 (nI (a + 0 + 1 + 1)) := ⟨_, rfl⟩
                  obtain ⟨mem358, e_mem358⟩ : ∃ z, z = va_up mem341 224 (moC ad J357) := ⟨_, rfl⟩
                  have hP : va_P D vcl (fw n ad mem358) H := by rw [e_mem358, eJ357]; exact hP
                  have hD : va_D (Az sz) (fw n ad mem358) := fw_D hD
                  have hW359 : MW cy ad J357 A340 nm m0 mem358 := by rw [e_mem358]; exact hW342.upJ (by rw [eJ357]; exact va_up_ne _ _ (by decide))
                  have kk360 : J357 1 = nI L := by rw [eJ357]; exact kk306
                  have kk361 : J357 24 = nI G := by rw [eJ357]; exact kk307
                  have kk362 : J357 17 = 0 := by rw [eJ357]; exact kk308
                  have kk363 : J357 14 = nI u := by rw [eJ357]; exact kk309
                  have kk364 : J357 4 = nI R := by rw [eJ357]; exact kk310
                  have kk365 : J357 18 = nI (f + 1) := by rw [eJ357]; exact kk311
                  have kk366 : J357 28 = 0 := by rw [eJ357]; exact kk312
                  have kk367 : J357 7 = nI (Ec + 1) := by rw [eJ357]; exact kk313
                  have kk368 : J357 16 = nI (a + 0 + 1 + 1) := by rw [eJ357, va_up_self]
                  have hno := hin5.note (A' := A340) (e := Ec) (u' := u) (Nat.le_refl _) (fun j q8 q9 q0 q1 q4 => by simp [eA278, eA295, eA340, va_up, q9, q0]) (fun i hi => by simp [eA278, eA295, eA340, va_up, upd, hi]) (Or.inl (by simp [eA278, eA295, eA340, va_up])) (by simp [eA278, eA295, eA340, va_up, hk5]) (fun z => absurd z (by simp [eA278, eA295, eA340, va_up, hk5]))
                  exact share9 mem358 (J357) (A340) (a + 0 + 1 + 1) _ _ _ (⟨⟨kk360, kk361, kk368, kk362, kk363, kk364, kk367, kk365⟩, kk366⟩) (hW359) (tT343) (hno) (⟨by omega, by omega, by omega⟩) hP hD hS (lv_sub hl [4, 3, 2, 1] rfl)
          · exact absurd hb282 (by decide)
        · have hlt369 := hereF_lt (dg_ne hb277)
          rw [dg_one hb277] at hl
          refine lv_aload_n Bx.1 Bx.2.1 d_Mo_repetition_83 rfl (lv_at hl 4 rfl) ?_
          refine f_callVi (na := 0) (As := []) (rest := [.int (nI Ec), .ref (ad 229)]) Bx hml E hP hD hS (by omega) hW271.1 rfl (m_Mo_here l hn hW271 kk248 hL kk250 (by omega)) kw_778 kw_780 sel_Mo_here kw_8 kw_781 (by decide +kernel) ⟨rfl, rfl⟩ ⟨Nat.le_of_ble_eq_true rfl, Nat.le_of_ble_eq_true rfl⟩ rfl hl.1 (Nat.le_of_ble_eq_true rfl) d_Mo_repetition_84 ⟨Nat.le_of_ble_eq_true rfl, Nat.le_of_ble_eq_true rfl⟩ (fun r370 mem371 H locs hq hP hS => ?_)
          have hD : va_D (Az sz) (fw n ad mem371) := fw_D hD
          obtain ⟨hre, hq⟩ := hq
          rw [hq] at hP hD
          subst hre
          rw [show hereF L (A269 225) (a) = hereF L T (a) by rw [tT272]]
          refine lv_bipush (v := 48) Bx.1 Bx.2.1 d_Mo_repetition_87 (by decide) ?_
          refine lv_isub Bx.1 Bx.2.1 d_Mo_repetition_89 ?_
          refine lv_goto Bx.1 Bx.2.1 d_Mo_repetition_90 rfl ?_
          refine f_iast (x := hereF L T (a) - 48) (i := nI (Ec)) Bx hP hD hS (by omega) (show mem270 229 = .inl (cy 1, 100, .inl (A269 229)) from hW271.2.2.1 229 (by decide) (by decide) (by decide)) (vp_in_nI (n := Ec) (by omega) (by decide)) d_Mo_repetition_94 (fun H locs hP hS => ?_)
          rw [nI_clamp (n := Ec) (by omega)] at hP
          obtain ⟨A372, eA372⟩ : ∃ z, z = va_up A269 229 (upd (A269 229) (Ec) (hereF L T (a) - 48)) := ⟨_, rfl⟩
          obtain ⟨mem373, e_mem373⟩ : ∃ z, z = va_up mem270 229 (.inl (cy 1, 100, .inl (upd (A269 229) (Ec) (hereF L T (a) - 48)))) := ⟨_, rfl⟩
          have hP : va_P D vcl (fw n ad mem373) H := by rw [e_mem373]; exact hP
          have hD : va_D (Az sz) (fw n ad mem373) := fw_D hD
          have hW374 : MW cy ad J234 A372 nm m0 mem373 := by rw [e_mem373, eA372]; exact hW271.upA (j := 229) (by decide) (by decide) (by decide) (Or.inl (by decide))
          have tT375 : A372 225 = T := by rw [eA372]; exact tT272
          refine lv_aload_n Bx.1 Bx.2.1 d_Mo_repetition_95 rfl (lv_at hl 4 rfl) ?_
          refine lv_dup Bx.1 Bx.2.1 d_Mo_repetition_96 rfl ?_
          refine f_get Bx hP (by omega) hW374.1 rfl inMo 16 (by decide) kw_672 rfl rfl d_Mo_repetition_97 ?_
          rw [kk250]
          refine lv_iload Bx.1 Bx.2.1 d_Mo_repetition_100 (lv_at hl 0 rfl) ?_
          refine lv_if_eq Bx.1 Bx.2.1 d_Mo_repetition_102 rfl (fun hb376 => ?_) (fun hb376 => ?_)
          · exact absurd hb376 (by decide)
          · refine lv_iconst (v := 1) Bx.1 Bx.2.1 d_Mo_repetition_105 (by decide) ?_
            refine lv_goto Bx.1 Bx.2.1 d_Mo_repetition_106 rfl ?_
            refine lv_iadd Bx.1 Bx.2.1 d_Mo_repetition_110 ?_
            rw [show nI a + 1 = nI (a + 1) from nI_add (a) (1)]
            refine f_put Bx hP hD hS (by omega) hW374.1 rfl inMo tyMo okMo nmMo 16 (by decide) kw_672 rfl rfl rfl rfl (Nat.le_of_ble_eq_true rfl) d_Mo_repetition_111 (fun H locs hP hS => ?_)
            obtain ⟨J377, eJ377⟩ : ∃ z, z = va_up J234 16 (nI (a + 1)) := ⟨_, rfl⟩
            obtain ⟨mem378, e_mem378⟩ : ∃ z, z = va_up mem373 224 (moC ad J377) := ⟨_, rfl⟩
            have hP : va_P D vcl (fw n ad mem378) H := by rw [e_mem378, eJ377]; exact hP
            have hD : va_D (Az sz) (fw n ad mem378) := fw_D hD
            have hW379 : MW cy ad J377 A372 nm m0 mem378 := by rw [e_mem378]; exact hW374.upJ (by rw [eJ377]; exact va_up_ne _ _ (by decide))
            have kk380 : J377 1 = nI L := by rw [eJ377]; exact kk248
            have kk381 : J377 24 = nI G := by rw [eJ377]; exact kk249
            have kk382 : J377 17 = 0 := by rw [eJ377]; exact kk251
            have kk383 : J377 14 = nI u := by rw [eJ377]; exact kk252
            have kk384 : J377 4 = nI R := by rw [eJ377]; exact kk253
            have kk385 : J377 18 = nI (f + 1) := by rw [eJ377]; exact kk254
            have kk386 : J377 28 = 0 := by rw [eJ377]; exact kk255
            have kk387 : J377 7 = nI (Ec + 1) := by rw [eJ377]; exact kk256
            have kk388 : J377 16 = nI (a + 1) := by rw [eJ377, va_up_self]
            refine lv_aload_n Bx.1 Bx.2.1 d_Mo_repetition_114 rfl (lv_at hl 4 rfl) ?_
            refine f_get Bx hP (by omega) hW379.1 rfl inMo 10 (by decide) kw_666 rfl rfl d_Mo_repetition_115 ?_
            refine lv_iload_n Bx.1 Bx.2.1 d_Mo_repetition_118 rfl (lv_at hl 1 rfl) ?_
            refine lv_aload_n Bx.1 Bx.2.1 d_Mo_repetition_119 rfl (lv_at hl 4 rfl) ?_
            refine f_get Bx hP (by omega) hW379.1 rfl inMo 9 (by decide) kw_665 rfl rfl d_Mo_repetition_120 ?_
            refine lv_iload_n Bx.1 Bx.2.1 d_Mo_repetition_123 rfl (lv_at hl 1 rfl) ?_
            refine f_iald Bx hP (by omega) (show mem378 229 = .inl (cy 1, 100, .inl (A372 229)) from hW379.2.2.1 229 (by decide) (by decide) (by decide)) (vp_in_nI (n := Ec) (by omega) (by decide)) d_Mo_repetition_124 ?_
            rw [nI_clamp (n := Ec) (by omega)]
            refine f_iast (x := A372 229 (Ec)) (i := nI (Ec)) Bx hP hD hS (by omega) (show mem378 230 = .inl (cy 1, 100, .inl (A372 230)) from hW379.2.2.1 230 (by decide) (by decide) (by decide)) (vp_in_nI (n := Ec) (by omega) (by decide)) d_Mo_repetition_125 (fun H locs hP hS => ?_)
            rw [nI_clamp (n := Ec) (by omega)] at hP
            obtain ⟨A389, eA389⟩ : ∃ z, z = va_up A372 230 (upd (A372 230) (Ec) (A372 229 (Ec))) := ⟨_, rfl⟩
            obtain ⟨mem390, e_mem390⟩ : ∃ z, z = va_up mem378 230 (.inl (cy 1, 100, .inl (upd (A372 230) (Ec) (A372 229 (Ec))))) := ⟨_, rfl⟩
            have hP : va_P D vcl (fw n ad mem390) H := by rw [e_mem390]; exact hP
            have hD : va_D (Az sz) (fw n ad mem390) := fw_D hD
            have hW391 : MW cy ad J377 A389 nm m0 mem390 := by rw [e_mem390, eA389]; exact hW379.upA (j := 230) (by decide) (by decide) (by decide) (Or.inl (by decide))
            have tT392 : A389 225 = T := by rw [eA389]; exact tT375
            refine lv_aload_n Bx.1 Bx.2.1 d_Mo_repetition_126 rfl (lv_at hl 4 rfl) ?_
            refine f_callVi (na := 0) (As := []) (rest := []) Bx hml E hP hD hS (by omega) hW391.1 rfl (m_Mo_here l hn hW391 kk380 hL kk388 (by omega)) kw_778 kw_780 sel_Mo_here kw_8 kw_781 (by decide +kernel) ⟨rfl, rfl⟩ ⟨Nat.le_of_ble_eq_true rfl, Nat.le_of_ble_eq_true rfl⟩ rfl hl.1 (Nat.le_of_ble_eq_true rfl) d_Mo_repetition_127 ⟨Nat.le_of_ble_eq_true rfl, Nat.le_of_ble_eq_true rfl⟩ (fun r393 mem394 H locs hq hP hS => ?_)
            have hD : va_D (Az sz) (fw n ad mem394) := fw_D hD
            obtain ⟨hre, hq⟩ := hq
            rw [hq] at hP hD
            subst hre
            rw [show hereF L (A389 225) (a + 1) = hereF L T (a + 1) by rw [tT392]]
            refine lv_bipush (v := 42) Bx.1 Bx.2.1 d_Mo_repetition_130 (by decide) ?_
            refine lv_icmp_ne Bx.1 Bx.2.1 d_Mo_repetition_132 rfl (fun hb395 => ?_) (fun hb395 => ?_)
            · have hno := hin5.note (A' := A389) (e := Ec) (u' := u) (Nat.le_refl _) (fun j q8 q9 q0 q1 q4 => by simp [eA372, eA389, va_up, q9, q0]) (fun i hi => by simp [eA372, eA389, va_up, upd, hi]) (Or.inl (by simp [eA372, eA389, va_up])) (by simp [eA372, eA389, va_up, hk5]) (fun z => absurd z (by simp [eA372, eA389, va_up, hk5]))
              exact share9 mem390 (J377) (A389) (a + 1) _ _ _ (⟨⟨kk380, kk381, kk388, kk382, kk383, kk384, kk387, kk385⟩, kk386⟩) (hW391) (tT392) (hno) (⟨by omega, by omega, by omega⟩) hP hD hS (lv_sub hl [4, 3, 2, 1] rfl)
            · have hlt396 := hereF_lt (by rw [hb395]; decide)
              refine lv_aload_n Bx.1 Bx.2.1 d_Mo_repetition_135 rfl (lv_at hl 4 rfl) ?_
              refine lv_dup Bx.1 Bx.2.1 d_Mo_repetition_136 rfl ?_
              refine f_get Bx hP (by omega) hW391.1 rfl inMo 16 (by decide) kw_672 rfl rfl d_Mo_repetition_137 ?_
              rw [kk388]
              refine lv_iconst (v := 1) Bx.1 Bx.2.1 d_Mo_repetition_140 (by decide) ?_
              refine lv_iadd Bx.1 Bx.2.1 d_Mo_repetition_141 ?_
              rw [show nI (a + 1) + 1 = nI (a + 1 + 1) from nI_add (a + 1) (1)]
              refine f_put Bx hP hD hS (by omega) hW391.1 rfl inMo tyMo okMo nmMo 16 (by decide) kw_672 rfl rfl rfl rfl (Nat.le_of_ble_eq_true rfl) d_Mo_repetition_142 (fun H locs hP hS => ?_)
              obtain ⟨J397, eJ397⟩ : ∃ z, z = va_up J377 16 (nI (a + 1 + 1)) := ⟨_, rfl⟩
              obtain ⟨mem398, e_mem398⟩ : ∃ z, z = va_up mem390 224 (moC ad J397) := ⟨_, rfl⟩
              have hP : va_P D vcl (fw n ad mem398) H := by rw [e_mem398, eJ397]; exact hP
              have hD : va_D (Az sz) (fw n ad mem398) := fw_D hD
              have hW399 : MW cy ad J397 A389 nm m0 mem398 := by rw [e_mem398]; exact hW391.upJ (by rw [eJ397]; exact va_up_ne _ _ (by decide))
              have kk400 : J397 1 = nI L := by rw [eJ397]; exact kk380
              have kk401 : J397 24 = nI G := by rw [eJ397]; exact kk381
              have kk402 : J397 17 = 0 := by rw [eJ397]; exact kk382
              have kk403 : J397 14 = nI u := by rw [eJ397]; exact kk383
              have kk404 : J397 4 = nI R := by rw [eJ397]; exact kk384
              have kk405 : J397 18 = nI (f + 1) := by rw [eJ397]; exact kk385
              have kk406 : J397 28 = 0 := by rw [eJ397]; exact kk386
              have kk407 : J397 7 = nI (Ec + 1) := by rw [eJ397]; exact kk387
              have kk408 : J397 16 = nI (a + 1 + 1) := by rw [eJ397, va_up_self]
              refine lv_aload_n Bx.1 Bx.2.1 d_Mo_repetition_145 rfl (lv_at hl 4 rfl) ?_
              refine f_get Bx hP (by omega) hW399.1 rfl inMo 10 (by decide) kw_666 rfl rfl d_Mo_repetition_146 ?_
              refine lv_iload_n Bx.1 Bx.2.1 d_Mo_repetition_149 rfl (lv_at hl 1 rfl) ?_
              refine lv_aload_n Bx.1 Bx.2.1 d_Mo_repetition_150 rfl (lv_at hl 4 rfl) ?_
              refine f_callVi (na := 0) (As := []) (rest := [.int (nI Ec), .ref (ad 230)]) Bx hml E hP hD hS (by omega) hW399.1 rfl (m_Mo_here l hn hW399 kk400 hL kk408 (by omega)) kw_778 kw_780 sel_Mo_here kw_8 kw_781 (by decide +kernel) ⟨rfl, rfl⟩ ⟨Nat.le_of_ble_eq_true rfl, Nat.le_of_ble_eq_true rfl⟩ rfl hl.1 (Nat.le_of_ble_eq_true rfl) d_Mo_repetition_151 ⟨Nat.le_of_ble_eq_true rfl, Nat.le_of_ble_eq_true rfl⟩ (fun r409 mem410 H locs hq hP hS => ?_)
              have hD : va_D (Az sz) (fw n ad mem410) := fw_D hD
              obtain ⟨hre, hq⟩ := hq
              rw [hq] at hP hD
              subst hre
              rw [show hereF L (A389 225) (a + 1 + 1) = hereF L T (a + 1 + 1) by rw [tT392]]
              refine f_callSi (na := 1) (As := [.int (hereF L T (a + 1 + 1))]) (rest := [.int (nI Ec), .ref (ad 230)]) Bx hml E.2.1 (m_Mo_digit l (hereF L T (a + 1 + 1))) kw_793 kw_794 kw_8 kw_795 (by decide +kernel) ⟨rfl, rfl⟩ ⟨Nat.le_of_ble_eq_true rfl, Nat.le_of_ble_eq_true rfl⟩ rfl hl.1 (Nat.le_of_ble_eq_true rfl) d_Mo_repetition_154 ⟨Nat.le_of_ble_eq_true rfl, Nat.le_of_ble_eq_true rfl⟩ (fun r412 hs411 => ?_)
              subst hs411
              refine lv_if_eq Bx.1 Bx.2.1 d_Mo_repetition_157 rfl (fun hb413 => ?_) (fun hb413 => ?_)
              · refine lv_iconst (v := -1) Bx.1 Bx.2.1 d_Mo_repetition_170 (by decide) ?_
                refine f_iast (x := (-1)) (i := nI (Ec)) Bx hP hD hS (by omega) (show mem398 230 = .inl (cy 1, 100, .inl (A389 230)) from hW399.2.2.1 230 (by decide) (by decide) (by decide)) (vp_in_nI (n := Ec) (by omega) (by decide)) d_Mo_repetition_171 (fun H locs hP hS => ?_)
                rw [nI_clamp (n := Ec) (by omega)] at hP
                obtain ⟨A414, eA414⟩ : ∃ z, z = va_up A389 230 (upd (A389 230) (Ec) ((-1))) := ⟨_, rfl⟩
                obtain ⟨mem415, e_mem415⟩ : ∃ z, z = va_up mem398 230 (.inl (cy 1, 100, .inl (upd (A389 230) (Ec) ((-1))))) := ⟨_, rfl⟩
                have hP : va_P D vcl (fw n ad mem415) H := by rw [e_mem415]; exact hP
                have hD : va_D (Az sz) (fw n ad mem415) := fw_D hD
                have hW416 : MW cy ad J397 A414 nm m0 mem415 := by rw [e_mem415, eA414]; exact hW399.upA (j := 230) (by decide) (by decide) (by decide) (Or.inl (by decide))
                have tT417 : A414 225 = T := by rw [eA414]; exact tT392
                refine lv_aload_n Bx.1 Bx.2.1 d_Mo_repetition_172 rfl (lv_at hl 4 rfl) ?_
                refine lv_dup Bx.1 Bx.2.1 d_Mo_repetition_173 rfl ?_
                refine f_get Bx hP (by omega) hW416.1 rfl inMo 16 (by decide) kw_672 rfl rfl d_Mo_repetition_174 ?_
                rw [kk408]
                refine lv_aload_n Bx.1 Bx.2.1 d_Mo_repetition_177 rfl (lv_at hl 4 rfl) ?_
                refine f_get Bx hP (by omega) hW416.1 rfl inMo 10 (by decide) kw_666 rfl rfl d_Mo_repetition_178 ?_
                refine lv_iload_n Bx.1 Bx.2.1 d_Mo_repetition_181 rfl (lv_at hl 1 rfl) ?_
                refine f_iald Bx hP (by omega) (show mem415 230 = .inl (cy 1, 100, .inl (A414 230)) from hW416.2.2.1 230 (by decide) (by decide) (by decide)) (vp_in_nI (n := Ec) (by omega) (by decide)) d_Mo_repetition_182 ?_
                rw [nI_clamp (n := Ec) (by omega)]
                rw [show A414 230 (Ec) = -1 by simp [eA372, eA389, eA414, va_up, upd]]
                refine lv_if_lt Bx.1 Bx.2.1 d_Mo_repetition_183 rfl (fun hb418 => ?_) (fun hb418 => ?_)
                · refine lv_iconst (v := 0) Bx.1 Bx.2.1 d_Mo_repetition_190 (by decide) ?_
                  refine lv_iadd Bx.1 Bx.2.1 d_Mo_repetition_191 ?_
                  rw [show nI (a + 1 + 1) + 0 = nI (a + 1 + 1 + 0) from nI_add (a + 1 + 1) (0)]
                  refine f_put Bx hP hD hS (by omega) hW416.1 rfl inMo tyMo okMo nmMo 16 (by decide) kw_672 rfl rfl rfl rfl (Nat.le_of_ble_eq_true rfl) d_Mo_repetition_192 (fun H locs hP hS => ?_)
                  obtain ⟨J419, eJ419⟩ : ∃ z, z = va_up J397 16 (nI (a + 1 + 1 + 0)) := ⟨_, rfl⟩
                  obtain ⟨mem420, e_mem420⟩ : ∃ z, z = va_up mem415 224 (moC ad J419) := ⟨_, rfl⟩
                  have hP : va_P D vcl (fw n ad mem420) H := by rw [e_mem420, eJ419]; exact hP
                  have hD : va_D (Az sz) (fw n ad mem420) := fw_D hD
                  have hW421 : MW cy ad J419 A414 nm m0 mem420 := by rw [e_mem420]; exact hW416.upJ (by rw [eJ419]; exact va_up_ne _ _ (by decide))
                  have kk422 : J419 1 = nI L := by rw [eJ419]; exact kk400
                  have kk423 : J419 24 = nI G := by rw [eJ419]; exact kk401
                  have kk424 : J419 17 = 0 := by rw [eJ419]; exact kk402
                  have kk425 : J419 14 = nI u := by rw [eJ419]; exact kk403
                  have kk426 : J419 4 = nI R := by rw [eJ419]; exact kk404
                  have kk427 : J419 18 = nI (f + 1) := by rw [eJ419]; exact kk405
                  have kk428 : J419 28 = 0 := by rw [eJ419]; exact kk406
                  have kk429 : J419 7 = nI (Ec + 1) := by rw [eJ419]; exact kk407
                  have kk430 : J419 16 = nI (a + 1 + 1 + 0) := by rw [eJ419, va_up_self]
                  have hno := hin5.note (A' := A414) (e := Ec) (u' := u) (Nat.le_refl _) (fun j q8 q9 q0 q1 q4 => by simp [eA372, eA389, eA414, va_up, q9, q0]) (fun i hi => by simp [eA372, eA389, eA414, va_up, upd, hi]) (Or.inl (by simp [eA372, eA389, eA414, va_up])) (by simp [eA372, eA389, eA414, va_up, hk5]) (fun z => absurd z (by simp [eA372, eA389, eA414, va_up, hk5]))
                  exact share9 mem420 (J419) (A414) (a + 1 + 1 + 0) _ _ _ (⟨⟨kk422, kk423, kk430, kk424, kk425, kk426, kk429, kk427⟩, kk428⟩) (hW421) (tT417) (hno) (⟨by omega, by omega, by omega⟩) hP hD hS (lv_sub hl [4, 3, 2, 1] rfl)
                · exact absurd hb418 (by decide)
              · have hlt431 := hereF_lt (dg_ne hb413)
                refine lv_aload_n Bx.1 Bx.2.1 d_Mo_repetition_160 rfl (lv_at hl 4 rfl) ?_
                refine f_callVi (na := 0) (As := []) (rest := [.int (nI Ec), .ref (ad 230)]) Bx hml E hP hD hS (by omega) hW399.1 rfl (m_Mo_here l hn hW399 kk400 hL kk408 (by omega)) kw_778 kw_780 sel_Mo_here kw_8 kw_781 (by decide +kernel) ⟨rfl, rfl⟩ ⟨Nat.le_of_ble_eq_true rfl, Nat.le_of_ble_eq_true rfl⟩ rfl hl.1 (Nat.le_of_ble_eq_true rfl) d_Mo_repetition_161 ⟨Nat.le_of_ble_eq_true rfl, Nat.le_of_ble_eq_true rfl⟩ (fun r432 mem433 H locs hq hP hS => ?_)
                have hD : va_D (Az sz) (fw n ad mem433) := fw_D hD
                obtain ⟨hre, hq⟩ := hq
                rw [hq] at hP hD
                subst hre
                rw [show hereF L (A389 225) (a + 1 + 1) = hereF L T (a + 1 + 1) by rw [tT392]]
                refine lv_bipush (v := 48) Bx.1 Bx.2.1 d_Mo_repetition_164 (by decide) ?_
                refine lv_isub Bx.1 Bx.2.1 d_Mo_repetition_166 ?_
                refine lv_goto Bx.1 Bx.2.1 d_Mo_repetition_167 rfl ?_
                refine f_iast (x := hereF L T (a + 1 + 1) - 48) (i := nI (Ec)) Bx hP hD hS (by omega) (show mem398 230 = .inl (cy 1, 100, .inl (A389 230)) from hW399.2.2.1 230 (by decide) (by decide) (by decide)) (vp_in_nI (n := Ec) (by omega) (by decide)) d_Mo_repetition_171 (fun H locs hP hS => ?_)
                rw [nI_clamp (n := Ec) (by omega)] at hP
                obtain ⟨A434, eA434⟩ : ∃ z, z = va_up A389 230 (upd (A389 230) (Ec) (hereF L T (a + 1 + 1) - 48)) := ⟨_, rfl⟩
                obtain ⟨mem435, e_mem435⟩ : ∃ z, z = va_up mem398 230 (.inl (cy 1, 100, .inl (upd (A389 230) (Ec) (hereF L T (a + 1 + 1) - 48)))) := ⟨_, rfl⟩
                have hP : va_P D vcl (fw n ad mem435) H := by rw [e_mem435]; exact hP
                have hD : va_D (Az sz) (fw n ad mem435) := fw_D hD
                have hW436 : MW cy ad J397 A434 nm m0 mem435 := by rw [e_mem435, eA434]; exact hW399.upA (j := 230) (by decide) (by decide) (by decide) (Or.inl (by decide))
                have tT437 : A434 225 = T := by rw [eA434]; exact tT392
                refine lv_aload_n Bx.1 Bx.2.1 d_Mo_repetition_172 rfl (lv_at hl 4 rfl) ?_
                refine lv_dup Bx.1 Bx.2.1 d_Mo_repetition_173 rfl ?_
                refine f_get Bx hP (by omega) hW436.1 rfl inMo 16 (by decide) kw_672 rfl rfl d_Mo_repetition_174 ?_
                rw [kk408]
                refine lv_aload_n Bx.1 Bx.2.1 d_Mo_repetition_177 rfl (lv_at hl 4 rfl) ?_
                refine f_get Bx hP (by omega) hW436.1 rfl inMo 10 (by decide) kw_666 rfl rfl d_Mo_repetition_178 ?_
                refine lv_iload_n Bx.1 Bx.2.1 d_Mo_repetition_181 rfl (lv_at hl 1 rfl) ?_
                refine f_iald Bx hP (by omega) (show mem435 230 = .inl (cy 1, 100, .inl (A434 230)) from hW436.2.2.1 230 (by decide) (by decide) (by decide)) (vp_in_nI (n := Ec) (by omega) (by decide)) d_Mo_repetition_182 ?_
                rw [nI_clamp (n := Ec) (by omega)]
                refine lv_if_lt Bx.1 Bx.2.1 d_Mo_repetition_183 rfl (fun hb438 => ?_) (fun hb438 => ?_)
                · refine lv_iconst (v := 0) Bx.1 Bx.2.1 d_Mo_repetition_190 (by decide) ?_
                  refine lv_iadd Bx.1 Bx.2.1 d_Mo_repetition_191 ?_
                  rw [show nI (a + 1 + 1) + 0 = nI (a + 1 + 1 + 0) from nI_add (a + 1 + 1) (0)]
                  refine f_put Bx hP hD hS (by omega) hW436.1 rfl inMo tyMo okMo nmMo 16 (by decide) kw_672 rfl rfl rfl rfl (Nat.le_of_ble_eq_true rfl) d_Mo_repetition_192 (fun H locs hP hS => ?_)
                  obtain ⟨J439, eJ439⟩ : ∃ z, z = va_up J397 16 (nI (a + 1 + 1 + 0)) := ⟨_, rfl⟩
                  obtain ⟨mem440, e_mem440⟩ : ∃ z, z = va_up mem435 224 (moC ad J439) := ⟨_, rfl⟩
                  have hP : va_P D vcl (fw n ad mem440) H := by rw [e_mem440, eJ439]; exact hP
                  have hD : va_D (Az sz) (fw n ad mem440) := fw_D hD
                  have hW441 : MW cy ad J439 A434 nm m0 mem440 := by rw [e_mem440]; exact hW436.upJ (by rw [eJ439]; exact va_up_ne _ _ (by decide))
                  have kk442 : J439 1 = nI L := by rw [eJ439]; exact kk400
                  have kk443 : J439 24 = nI G := by rw [eJ439]; exact kk401
                  have kk444 : J439 17 = 0 := by rw [eJ439]; exact kk402
                  have kk445 : J439 14 = nI u := by rw [eJ439]; exact kk403
                  have kk446 : J439 4 = nI R := by rw [eJ439]; exact kk404
                  have kk447 : J439 18 = nI (f + 1) := by rw [eJ439]; exact kk405
                  have kk448 : J439 28 = 0 := by rw [eJ439]; exact kk406
                  have kk449 : J439 7 = nI (Ec + 1) := by rw [eJ439]; exact kk407
                  have kk450 : J439 16 = nI (a + 1 + 1 + 0) := by rw [eJ439, va_up_self]
                  have hno := hin5.note (A' := A434) (e := Ec) (u' := u) (Nat.le_refl _) (fun j q8 q9 q0 q1 q4 => by simp [eA372, eA389, eA434, va_up, q9, q0]) (fun i hi => by simp [eA372, eA389, eA434, va_up, upd, hi]) (Or.inl (by simp [eA372, eA389, eA434, va_up])) (by simp [eA372, eA389, eA434, va_up, hk5]) (fun z => absurd z (by simp [eA372, eA389, eA434, va_up, hk5]))
                  exact share9 mem440 (J439) (A434) (a + 1 + 1 + 0) _ _ _ (⟨⟨kk442, kk443, kk450, kk444, kk445, kk446, kk449, kk447⟩, kk448⟩) (hW441) (tT437) (hno) (⟨by omega, by omega, by omega⟩) hP hD hS (lv_sub hl [4, 3, 2, 1] rfl)
                · refine lv_iconst (v := 1) Bx.1 Bx.2.1 d_Mo_repetition_186 (by decide) ?_
                  refine lv_goto Bx.1 Bx.2.1 d_Mo_repetition_187 rfl ?_
                  refine lv_iadd Bx.1 Bx.2.1 d_Mo_repetition_191 ?_
                  rw [show nI (a + 1 + 1) + 1 = nI (a + 1 + 1 + 1) from nI_add (a + 1 + 1) (1)]
                  refine f_put Bx hP hD hS (by omega) hW436.1 rfl inMo tyMo okMo nmMo 16 (by decide) kw_672 rfl rfl rfl rfl (Nat.le_of_ble_eq_true rfl) d_Mo_repetition_192 (fun H locs hP hS => ?_)
                  obtain ⟨J451, eJ451⟩ : ∃ z, z = va_up J397 16 (nI (a + 1 + 1 + 1)) := ⟨_, rfl⟩
                  obtain ⟨mem452, e_mem452⟩ : ∃ z, z = va_up mem435 224 (moC ad J451) := ⟨_, rfl⟩
                  have hP : va_P D vcl (fw n ad mem452) H := by rw [e_mem452, eJ451]; exact hP
                  have hD : va_D (Az sz) (fw n ad mem452) := fw_D hD
                  have hW453 : MW cy ad J451 A434 nm m0 mem452 := by rw [e_mem452]; exact hW436.upJ (by rw [eJ451]; exact va_up_ne _ _ (by decide))
                  have kk454 : J451 1 = nI L := by rw [eJ451]; exact kk400
                  have kk455 : J451 24 = nI G := by rw [eJ451]; exact kk401
                  have kk456 : J451 17 = 0 := by rw [eJ451]; exact kk402
                  have kk457 : J451 14 = nI u := by rw [eJ451]; exact kk403
                  have kk458 : J451 4 = nI R := by rw [eJ451]; exact kk404
                  have kk459 : J451 18 = nI (f + 1) := by rw [eJ451]; exact kk405
                  have kk460 : J451 28 = 0 := by rw [eJ451]; exact kk406
                  have kk461 : J451 7 = nI (Ec + 1) := by rw [eJ451]; exact kk407
                  have kk462 : J451 16 = nI (a + 1 + 1 + 1) := by rw [eJ451, va_up_self]
                  have hno := hin5.note (A' := A434) (e := Ec) (u' := u) (Nat.le_refl _) (fun j q8 q9 q0 q1 q4 => by simp [eA372, eA389, eA434, va_up, q9, q0]) (fun i hi => by simp [eA372, eA389, eA434, va_up, upd, hi]) (Or.inl (by simp [eA372, eA389, eA434, va_up])) (by simp [eA372, eA389, eA434, va_up, hk5]) (fun z => absurd z (by simp [eA372, eA389, eA434, va_up, hk5]))
                  exact share9 mem452 (J451) (A434) (a + 1 + 1 + 1) _ _ _ (⟨⟨kk454, kk455, kk462, kk456, kk457, kk458, kk461, kk459⟩, kk460⟩) (hW453) (tT437) (hno) (⟨by omega, by omega, by omega⟩) hP hD hS (lv_sub hl [4, 3, 2, 1] rfl)
      · exact absurd hb258 (by decide)
  · refine lv_aload_n Bx.1 Bx.2.1 d_Mo_repetition_22 rfl (lv_at hl 2 rfl) ?_
    refine f_callVi (na := 0) (As := []) (rest := []) Bx hml E hP hD hS (by omega) hM.1 rfl (m_Mo_here l hn hM g1 hL g3 (by omega)) kw_778 kw_780 sel_Mo_here kw_8 kw_781 (by decide +kernel) ⟨rfl, rfl⟩ ⟨Nat.le_of_ble_eq_true rfl, Nat.le_of_ble_eq_true rfl⟩ rfl hl.1 (Nat.le_of_ble_eq_true rfl) d_Mo_repetition_23 ⟨Nat.le_of_ble_eq_true rfl, Nat.le_of_ble_eq_true rfl⟩ (fun r463 mem464 H locs hq hP hS => ?_)
    have hD : va_D (Az sz) (fw n ad mem464) := fw_D hD
    obtain ⟨hre, hq⟩ := hq
    rw [hq] at hP hD
    subst hre
    rw [show hereF L (A 225) (a) = hereF L T (a) by rw [hT]]
    refine lv_bipush (v := 42) Bx.1 Bx.2.1 d_Mo_repetition_26 (by decide) ?_
    refine lv_icmp_ne Bx.1 Bx.2.1 d_Mo_repetition_28 rfl (fun hb465 => ?_) (fun hb465 => ?_)
    · refine lv_aload_n Bx.1 Bx.2.1 d_Mo_repetition_263 rfl (lv_at hl 2 rfl) ?_
      refine f_get Bx hP (by omega) hM.1 rfl inMo 17 (by decide) kw_673 rfl rfl d_Mo_repetition_264 ?_
      rw [g4]
      refine lv_if_ne Bx.1 Bx.2.1 d_Mo_repetition_267 rfl (fun hb466 => ?_) (fun hb466 => ?_)
      · exact absurd hb466 (by decide)
      · refine lv_aload_n Bx.1 Bx.2.1 d_Mo_repetition_270 rfl (lv_at hl 2 rfl) ?_
        refine f_callVv (na := 0) (As := []) (rest := []) Bx hml E hP hD hS (by omega) hM.1 rfl (m_Mo_single l hn hM ⟨g1, g2, g3, g4, g5, g6, g7, g8⟩ ⟨hL, by omega, by omega, by omega, by omega⟩ (by omega) hT hp hI) kw_830 kw_832 sel_Mo_single kw_8 kw_833 (by decide +kernel) ⟨rfl, rfl⟩ ⟨Nat.le_of_ble_eq_true rfl, Nat.le_of_ble_eq_true rfl⟩ rfl hl.1 (Nat.le_of_ble_eq_true rfl) d_Mo_repetition_271 ⟨Nat.le_of_ble_eq_true rfl, Nat.le_of_ble_eq_true rfl⟩ (fun mem468 H locs hq hP hS => ?_)
        have hD : va_D (Az sz) (fw n ad mem468) := fw_D hD
        obtain ⟨J469, A470, nn471, hW472, hres473⟩ := hq
        exact W.vret hx hb hr (fun t ht hW => ⟨⟨mem468, rfl, ⟨J469, A470, nn471, hW472, hres473.mono (by omega)⟩, by show va_P _ _ _ t.heap; rw [ht]; exact hP⟩, hS.F ht⟩) hS.2.2 d_Mo_repetition_274
    · have hlt474 := hereF_lt (by rw [hb465]; decide)
      refine lv_aload_n Bx.1 Bx.2.1 d_Mo_repetition_31 rfl (lv_at hl 2 rfl) ?_
      refine lv_iconst (v := 2) Bx.1 Bx.2.1 d_Mo_repetition_32 (by decide) ?_
      refine lv_iload_n Bx.1 Bx.2.1 d_Mo_repetition_33 rfl (lv_at hl 1 rfl) ?_
      refine f_callVi (na := 2) (As := [.int (2), .int (nI a)]) (rest := []) Bx hml E hP hD hS (by omega) hM.1 rfl (m_Mo_element l hn hM (Or.inl g4) g7 (by omega)) kw_814 kw_816 sel_Mo_element kw_8 kw_817 (by decide +kernel) ⟨rfl, rfl⟩ ⟨Nat.le_of_ble_eq_true rfl, Nat.le_of_ble_eq_true rfl⟩ rfl hl.1 (Nat.le_of_ble_eq_true rfl) d_Mo_repetition_34 ⟨Nat.le_of_ble_eq_true rfl, Nat.le_of_ble_eq_true rfl⟩ (fun r475 mem476 H locs hq hP hS => ?_)
      have hD : va_D (Az sz) (fw n ad mem476) := fw_D hD
      rcases hq with ⟨hre484, J477, hW478, hwr479⟩ | ⟨hEl480, hre485, hW483⟩
      · subst hre484
        have kk486 : J477 1 = nI L := (show J477 1 = J 1 from hwr479.2 1 (by decide) (by decide)).trans g1
        have kk487 : J477 24 = nI G := (show J477 24 = J 24 from hwr479.2 24 (by decide) (by decide)).trans g2
        have kk488 : J477 16 = nI a := (show J477 16 = J 16 from hwr479.2 16 (by decide) (by decide)).trans g3
        have kk489 : J477 14 = nI u := (show J477 14 = J 14 from hwr479.2 14 (by decide) (by decide)).trans g5
        have kk490 : J477 4 = nI R := (show J477 4 = J 4 from hwr479.2 4 (by decide) (by decide)).trans g6
        have kk491 : J477 7 = nI Ec := (show J477 7 = J 7 from hwr479.2 7 (by decide) (by decide)).trans g7
        have kk492 : J477 18 = nI (f + 1) := (show J477 18 = J 18 from hwr479.2 18 (by decide) (by decide)).trans g8
        have kk493 : J477 28 = 0 := (show J477 28 = J 28 from hwr479.2 28 (by decide) (by decide)).trans hp
        refine lv_istore_n (lv' := [(3, .int (0)), (2, .int (nI (f))), (1, .int (nI a)), (0, .ref (ad 224))]) Bx.1 Bx.2.1 d_Mo_repetition_37 rfl hl (by decide) rfl (fun ls hl => ?_)
        refine lv_aload_n Bx.1 Bx.2.1 d_Mo_repetition_38 rfl (lv_at hl 3 rfl) ?_
        refine f_get Bx hP (by omega) hW478.1 rfl inMo 17 (by decide) kw_673 rfl rfl d_Mo_repetition_39 ?_
        refine lv_if_le Bx.1 Bx.2.1 d_Mo_repetition_42 rfl (fun hb494 => ?_) (fun hb494 => ?_)
        · exact absurd hb494 hwr479.1.nle
        · exact W.vret hx hb hr (fun t ht hW => ⟨⟨mem476, rfl, ⟨J477, A, nm, hW478, Or.inl ⟨kk486, kk487, hT, hwr479.1, _, by omega, kk488⟩⟩, by show va_P _ _ _ t.heap; rw [ht]; exact hP⟩, hS.F ht⟩) hS.2.2 d_Mo_repetition_45
      · subst hre485
        obtain ⟨J481, eJ481⟩ : ∃ z, z = va_up J 7 (nI (Ec + 1)) := ⟨_, rfl⟩
        obtain ⟨A482, eA482⟩ : ∃ z, z = elA A (Ec) 2 := ⟨_, rfl⟩
        rw [← eJ481, ← eA482] at hW483
        have kk495 : J481 1 = nI L := (show J481 1 = J 1 from by rw [eJ481]; rfl).trans g1
        have kk496 : J481 24 = nI G := (show J481 24 = J 24 from by rw [eJ481]; rfl).trans g2
        have kk497 : J481 16 = nI a := (show J481 16 = J 16 from by rw [eJ481]; rfl).trans g3
        have kk498 : J481 17 = 0 := (show J481 17 = J 17 from by rw [eJ481]; rfl).trans g4
        have kk499 : J481 14 = nI u := (show J481 14 = J 14 from by rw [eJ481]; rfl).trans g5
        have kk500 : J481 4 = nI R := (show J481 4 = J 4 from by rw [eJ481]; rfl).trans g6
        have kk501 : J481 18 = nI (f + 1) := (show J481 18 = J 18 from by rw [eJ481]; rfl).trans g8
        have kk502 : J481 28 = 0 := (show J481 28 = J 28 from by rw [eJ481]; rfl).trans hp
        have kk503 : J481 7 = nI (Ec + 1) := by rw [eJ481, va_up_self]
        have tT504 : A482 225 = T := by rw [eA482]; exact hT
        refine lv_istore_n (lv' := [(3, .int (nI Ec)), (2, .int (nI (f))), (1, .int (nI a)), (0, .ref (ad 224))]) Bx.1 Bx.2.1 d_Mo_repetition_37 rfl hl (by decide) rfl (fun ls hl => ?_)
        refine lv_aload_n Bx.1 Bx.2.1 d_Mo_repetition_38 rfl (lv_at hl 3 rfl) ?_
        refine f_get Bx hP (by omega) hW483.1 rfl inMo 17 (by decide) kw_673 rfl rfl d_Mo_repetition_39 ?_
        rw [kk498]
        refine lv_if_le Bx.1 Bx.2.1 d_Mo_repetition_42 rfl (fun hb505 => ?_) (fun hb505 => ?_)
        · refine lv_aload_n Bx.1 Bx.2.1 d_Mo_repetition_46 rfl (lv_at hl 3 rfl) ?_
          refine lv_aload_n Bx.1 Bx.2.1 d_Mo_repetition_47 rfl (lv_at hl 3 rfl) ?_
          refine f_get Bx hP (by omega) hW483.1 rfl inMo 22 (by decide) kw_678 rfl rfl d_Mo_repetition_48 ?_
          refine lv_iload_n Bx.1 Bx.2.1 d_Mo_repetition_51 rfl (lv_at hl 1 rfl) ?_
          refine f_iald Bx hP (by omega) (show mem476 238 = .inl (cy 1, 8, .inl (A482 238)) from hW483.2.2.1 238 (by decide) (by decide) (by decide)) (vp_in_nI (n := f) (by omega) (by decide)) d_Mo_repetition_52 ?_
          rw [nI_clamp (n := f) (by omega)]
          rw [show A482 238 (f) = nI (fs f) by simp [eA482, elA, va_up]; exact hfs.1]
          refine lv_iload_n Bx.1 Bx.2.1 d_Mo_repetition_53 rfl (lv_at hl 0 rfl) ?_
          have hkd508 : A482 228 (Ec) = 2 := by simp [eA482, elA, va_up, upd]
          obtain ⟨hnx506, hcl507⟩ := hI.ext (A' := A482) ⟨fun j h1 h2 h3 k hk => by
              have hj : j = 228 ∨ j = 229 ∨ j = 230 ∨ j = 232 ∨ j = 233 := by omega
              rcases hj with rfl | rfl | rfl | rfl | rfl <;> simp [eA482, elA, va_up, upd, Nat.ne_of_lt hk], by simp [eA482, elA, va_up], fun j h1 h2 => by
              have hj : j = 235 ∨ j = 236 ∨ j = 237 ∨ j = 238 ∨ j = 239 := by omega
              rcases hj with rfl | rfl | rfl | rfl | rfl <;> simp [eA482, elA, va_up], by simp [eA482, elA, va_up, upd], by simp [eA482, elA, va_up, upd]⟩ (Nat.le_refl u) (fun z => absurd (hkd508.symm.trans z) (by decide)) (fun z => absurd (hkd508.symm.trans z) (by decide)) (fun k z => z.elim)
          have hrr509 : A482 239 f = -1 ∨ ∃ r, A482 239 f = nI r ∧ fs f < r ∧ r < Ec := by rw [show A482 239 = A 239 by simp [eA482, elA, va_up]]; exact hrr0
          refine f_callVv (na := 2) (As := [.int (nI (fs f)), .int (nI Ec)]) (rest := []) Bx hml E hP hD hS (by omega) hW483.1 rfl (m_Mo_append l hn hW483 (show Ec + 1 ≤ 100 by omega) (show fs f < Ec by omega) (Nat.lt_succ_self Ec) hnx506.1 hcl507) kw_822 kw_824 sel_Mo_append kw_8 kw_825 (by decide +kernel) ⟨rfl, rfl⟩ ⟨Nat.le_of_ble_eq_true rfl, Nat.le_of_ble_eq_true rfl⟩ rfl hl.1 (Nat.le_of_ble_eq_true rfl) d_Mo_repetition_54 ⟨Nat.le_of_ble_eq_true rfl, Nat.le_of_ble_eq_true rfl⟩ (fun mem511 H locs hq hP hS => ?_)
          have hD : va_D (Az sz) (fw n ad mem511) := fw_D hD
          obtain ⟨A512, hW513, hap514⟩ := hq
          have tT515 : A512 225 = T := by
            obtain ⟨_, _, _, k3, _⟩ := hap514.at
            rw [k3 225 (by decide) (by decide)]; exact tT504
          refine lv_aload_n Bx.1 Bx.2.1 d_Mo_repetition_57 rfl (lv_at hl 3 rfl) ?_
          refine f_get Bx hP (by omega) hW513.1 rfl inMo 23 (by decide) kw_679 rfl rfl d_Mo_repetition_58 ?_
          refine lv_iload_n Bx.1 Bx.2.1 d_Mo_repetition_61 rfl (lv_at hl 1 rfl) ?_
          refine lv_iload_n Bx.1 Bx.2.1 d_Mo_repetition_62 rfl (lv_at hl 0 rfl) ?_
          refine f_iast (x := nI Ec) (i := nI (f)) Bx hP hD hS (by omega) (show mem511 239 = .inl (cy 1, 8, .inl (A512 239)) from hW513.2.2.1 239 (by decide) (by decide) (by decide)) (vp_in_nI (n := f) (by omega) (by decide)) d_Mo_repetition_63 (fun H locs hP hS => ?_)
          rw [nI_clamp (n := f) (by omega)] at hP
          obtain ⟨A516, eA516⟩ : ∃ z, z = va_up A512 239 (upd (A512 239) (f) (nI Ec)) := ⟨_, rfl⟩
          obtain ⟨mem517, e_mem517⟩ : ∃ z, z = va_up mem511 239 (.inl (cy 1, 8, .inl (upd (A512 239) (f) (nI Ec)))) := ⟨_, rfl⟩
          have hP : va_P D vcl (fw n ad mem517) H := by rw [e_mem517]; exact hP
          have hD : va_D (Az sz) (fw n ad mem517) := fw_D hD
          have hW518 : MW cy ad J481 A516 nm m0 mem517 := by rw [e_mem517, eA516]; exact hW513.upA (j := 239) (by decide) (by decide) (by decide) (Or.inl (by decide))
          have tT519 : A516 225 = T := by rw [eA516]; exact tT515
          obtain ⟨hin5, h95⟩ := hnx506.place (by omega) hap514 (Nat.lt_succ_self Ec) (by omega) (by omega) (v := nI Ec) (Or.inr ⟨Ec, rfl, by omega, by omega⟩) (X' := fun _ => False) (fun k _ z => Or.inr (Or.inr (by rw [(z.resolve_left id).1]))) (fun r hr z => absurd (show nI r = -1 by rw [← z, show A482 239 = A 239 by simp [eA482, elA, va_up]]; exact h39) (nI_m (by omega))) eA516
          have hk5 : A516 228 Ec = 2 := by
            obtain ⟨_, _, _, k3, _⟩ := hap514.at
            rw [eA516]
            show A512 228 Ec = 2
            rw [k3 228 (by decide) (by decide)]; exact hkd508
          refine lv_aload_n Bx.1 Bx.2.1 d_Mo_repetition_64 rfl (lv_at hl 3 rfl) ?_
          refine f_callVi (na := 0) (As := []) (rest := []) Bx hml E hP hD hS (by omega) hW518.1 rfl (m_Mo_here l hn hW518 kk495 hL kk497 (by omega)) kw_778 kw_780 sel_Mo_here kw_8 kw_781 (by decide +kernel) ⟨rfl, rfl⟩ ⟨Nat.le_of_ble_eq_true rfl, Nat.le_of_ble_eq_true rfl⟩ rfl hl.1 (Nat.le_of_ble_eq_true rfl) d_Mo_repetition_65 ⟨Nat.le_of_ble_eq_true rfl, Nat.le_of_ble_eq_true rfl⟩ (fun r520 mem521 H locs hq hP hS => ?_)
          have hD : va_D (Az sz) (fw n ad mem521) := fw_D hD
          obtain ⟨hre, hq⟩ := hq
          rw [hq] at hP hD
          subst hre
          rw [show hereF L (A516 225) (a) = hereF L T (a) by rw [tT519]]
          refine f_callSi (na := 1) (As := [.int (hereF L T (a))]) (rest := []) Bx hml E.2.1 (m_Mo_digit l (hereF L T (a))) kw_793 kw_794 kw_8 kw_795 (by decide +kernel) ⟨rfl, rfl⟩ ⟨Nat.le_of_ble_eq_true rfl, Nat.le_of_ble_eq_true rfl⟩ rfl hl.1 (Nat.le_of_ble_eq_true rfl) d_Mo_repetition_68 ⟨Nat.le_of_ble_eq_true rfl, Nat.le_of_ble_eq_true rfl⟩ (fun r523 hs522 => ?_)
          subst hs522
          refine lv_istore (lv' := [(4, .int ((if hereF L T (a) < 48 ∨ 57 < hereF L T (a) then 0 else 1))), (3, .int (nI Ec)), (2, .int (nI (f))), (1, .int (nI a)), (0, .ref (ad 224))]) Bx.1 Bx.2.1 d_Mo_repetition_71 hl (by decide) rfl (fun ls hl => ?_)
          refine lv_aload_n Bx.1 Bx.2.1 d_Mo_repetition_73 rfl (lv_at hl 4 rfl) ?_
          refine f_get Bx hP (by omega) hW518.1 rfl inMo 9 (by decide) kw_665 rfl rfl d_Mo_repetition_74 ?_
          refine lv_iload_n Bx.1 Bx.2.1 d_Mo_repetition_77 rfl (lv_at hl 1 rfl) ?_
          refine lv_iload Bx.1 Bx.2.1 d_Mo_repetition_78 (lv_at hl 0 rfl) ?_
          refine lv_if_eq Bx.1 Bx.2.1 d_Mo_repetition_80 rfl (fun hb524 => ?_) (fun hb524 => ?_)
          · rw [hb524] at hl
            refine lv_iconst (v := 0) Bx.1 Bx.2.1 d_Mo_repetition_93 (by decide) ?_
            refine f_iast (x := 0) (i := nI (Ec)) Bx hP hD hS (by omega) (show mem517 229 = .inl (cy 1, 100, .inl (A516 229)) from hW518.2.2.1 229 (by decide) (by decide) (by decide)) (vp_in_nI (n := Ec) (by omega) (by decide)) d_Mo_repetition_94 (fun H locs hP hS => ?_)
            rw [nI_clamp (n := Ec) (by omega)] at hP
            obtain ⟨A525, eA525⟩ : ∃ z, z = va_up A516 229 (upd (A516 229) (Ec) (0)) := ⟨_, rfl⟩
            obtain ⟨mem526, e_mem526⟩ : ∃ z, z = va_up mem517 229 (.inl (cy 1, 100, .inl (upd (A516 229) (Ec) (0)))) := ⟨_, rfl⟩
            have hP : va_P D vcl (fw n ad mem526) H := by rw [e_mem526]; exact hP
            have hD : va_D (Az sz) (fw n ad mem526) := fw_D hD
            have hW527 : MW cy ad J481 A525 nm m0 mem526 := by rw [e_mem526, eA525]; exact hW518.upA (j := 229) (by decide) (by decide) (by decide) (Or.inl (by decide))
            have tT528 : A525 225 = T := by rw [eA525]; exact tT519
            refine lv_aload_n Bx.1 Bx.2.1 d_Mo_repetition_95 rfl (lv_at hl 4 rfl) ?_
            refine lv_dup Bx.1 Bx.2.1 d_Mo_repetition_96 rfl ?_
            refine f_get Bx hP (by omega) hW527.1 rfl inMo 16 (by decide) kw_672 rfl rfl d_Mo_repetition_97 ?_
            rw [kk497]
            refine lv_iload Bx.1 Bx.2.1 d_Mo_repetition_100 (lv_at hl 0 rfl) ?_
            refine lv_if_eq Bx.1 Bx.2.1 d_Mo_repetition_102 rfl (fun hb529 => ?_) (fun hb529 => ?_)
            · refine lv_iconst (v := 0) Bx.1 Bx.2.1 d_Mo_repetition_109 (by decide) ?_
              refine lv_iadd Bx.1 Bx.2.1 d_Mo_repetition_110 ?_
              rw [show nI a + 0 = nI (a + 0) from nI_add (a) (0)]
              refine f_put Bx hP hD hS (by omega) hW527.1 rfl inMo tyMo okMo nmMo 16 (by decide) kw_672 rfl rfl rfl rfl (Nat.le_of_ble_eq_true rfl) d_Mo_repetition_111 (fun H locs hP hS => ?_)
              obtain ⟨J530, eJ530⟩ : ∃ z, z = va_up J481 16 (nI (a + 0)) := ⟨_, rfl⟩
              obtain ⟨mem531, e_mem531⟩ : ∃ z, z = va_up mem526 224 (moC ad J530) := ⟨_, rfl⟩
              have hP : va_P D vcl (fw n ad mem531) H := by rw [e_mem531, eJ530]; exact hP
              have hD : va_D (Az sz) (fw n ad mem531) := fw_D hD
              have hW532 : MW cy ad J530 A525 nm m0 mem531 := by rw [e_mem531]; exact hW527.upJ (by rw [eJ530]; exact va_up_ne _ _ (by decide))
              have kk533 : J530 1 = nI L := by rw [eJ530]; exact kk495
              have kk534 : J530 24 = nI G := by rw [eJ530]; exact kk496
              have kk535 : J530 17 = 0 := by rw [eJ530]; exact kk498
              have kk536 : J530 14 = nI u := by rw [eJ530]; exact kk499
              have kk537 : J530 4 = nI R := by rw [eJ530]; exact kk500
              have kk538 : J530 18 = nI (f + 1) := by rw [eJ530]; exact kk501
              have kk539 : J530 28 = 0 := by rw [eJ530]; exact kk502
              have kk540 : J530 7 = nI (Ec + 1) := by rw [eJ530]; exact kk503
              have kk541 : J530 16 = nI (a + 0) := by rw [eJ530, va_up_self]
              refine lv_aload_n Bx.1 Bx.2.1 d_Mo_repetition_114 rfl (lv_at hl 4 rfl) ?_
              refine f_get Bx hP (by omega) hW532.1 rfl inMo 10 (by decide) kw_666 rfl rfl d_Mo_repetition_115 ?_
              refine lv_iload_n Bx.1 Bx.2.1 d_Mo_repetition_118 rfl (lv_at hl 1 rfl) ?_
              refine lv_aload_n Bx.1 Bx.2.1 d_Mo_repetition_119 rfl (lv_at hl 4 rfl) ?_
              refine f_get Bx hP (by omega) hW532.1 rfl inMo 9 (by decide) kw_665 rfl rfl d_Mo_repetition_120 ?_
              refine lv_iload_n Bx.1 Bx.2.1 d_Mo_repetition_123 rfl (lv_at hl 1 rfl) ?_
              refine f_iald Bx hP (by omega) (show mem531 229 = .inl (cy 1, 100, .inl (A525 229)) from hW532.2.2.1 229 (by decide) (by decide) (by decide)) (vp_in_nI (n := Ec) (by omega) (by decide)) d_Mo_repetition_124 ?_
              rw [nI_clamp (n := Ec) (by omega)]
              refine f_iast (x := A525 229 (Ec)) (i := nI (Ec)) Bx hP hD hS (by omega) (show mem531 230 = .inl (cy 1, 100, .inl (A525 230)) from hW532.2.2.1 230 (by decide) (by decide) (by decide)) (vp_in_nI (n := Ec) (by omega) (by decide)) d_Mo_repetition_125 (fun H locs hP hS => ?_)
              rw [nI_clamp (n := Ec) (by omega)] at hP
              obtain ⟨A542, eA542⟩ : ∃ z, z = va_up A525 230 (upd (A525 230) (Ec) (A525 229 (Ec))) := ⟨_, rfl⟩
              obtain ⟨mem543, e_mem543⟩ : ∃ z, z = va_up mem531 230 (.inl (cy 1, 100, .inl (upd (A525 230) (Ec) (A525 229 (Ec))))) := ⟨_, rfl⟩
              have hP : va_P D vcl (fw n ad mem543) H := by rw [e_mem543]; exact hP
              have hD : va_D (Az sz) (fw n ad mem543) := fw_D hD
              have hW544 : MW cy ad J530 A542 nm m0 mem543 := by rw [e_mem543, eA542]; exact hW532.upA (j := 230) (by decide) (by decide) (by decide) (Or.inl (by decide))
              have tT545 : A542 225 = T := by rw [eA542]; exact tT528
              refine lv_aload_n Bx.1 Bx.2.1 d_Mo_repetition_126 rfl (lv_at hl 4 rfl) ?_
              refine f_callVi (na := 0) (As := []) (rest := []) Bx hml E hP hD hS (by omega) hW544.1 rfl (m_Mo_here l hn hW544 kk533 hL kk541 (by omega)) kw_778 kw_780 sel_Mo_here kw_8 kw_781 (by decide +kernel) ⟨rfl, rfl⟩ ⟨Nat.le_of_ble_eq_true rfl, Nat.le_of_ble_eq_true rfl⟩ rfl hl.1 (Nat.le_of_ble_eq_true rfl) d_Mo_repetition_127 ⟨Nat.le_of_ble_eq_true rfl, Nat.le_of_ble_eq_true rfl⟩ (fun r546 mem547 H locs hq hP hS => ?_)
              have hD : va_D (Az sz) (fw n ad mem547) := fw_D hD
              obtain ⟨hre, hq⟩ := hq
              rw [hq] at hP hD
              subst hre
              rw [show hereF L (A542 225) (a + 0) = hereF L T (a + 0) by rw [tT545]]
              refine lv_bipush (v := 42) Bx.1 Bx.2.1 d_Mo_repetition_130 (by decide) ?_
              refine lv_icmp_ne Bx.1 Bx.2.1 d_Mo_repetition_132 rfl (fun hb548 => ?_) (fun hb548 => ?_)
              · have hno := hin5.note (A' := A542) (e := Ec) (u' := u) (Nat.le_refl _) (fun j q8 q9 q0 q1 q4 => by simp [eA525, eA542, va_up, q9, q0]) (fun i hi => by simp [eA525, eA542, va_up, upd, hi]) (Or.inl (by simp [eA525, eA542, va_up])) (by simp [eA525, eA542, va_up, hk5]) (fun z => absurd z (by simp [eA525, eA542, va_up, hk5]))
                exact share9 mem543 (J530) (A542) (a + 0) _ _ _ (⟨⟨kk533, kk534, kk541, kk535, kk536, kk537, kk540, kk538⟩, kk539⟩) (hW544) (tT545) (hno) (⟨by omega, by omega, by omega⟩) hP hD hS (lv_sub hl [4, 3, 2, 1] rfl)
              · have hlt549 := hereF_lt (by rw [hb548]; decide)
                refine lv_aload_n Bx.1 Bx.2.1 d_Mo_repetition_135 rfl (lv_at hl 4 rfl) ?_
                refine lv_dup Bx.1 Bx.2.1 d_Mo_repetition_136 rfl ?_
                refine f_get Bx hP (by omega) hW544.1 rfl inMo 16 (by decide) kw_672 rfl rfl d_Mo_repetition_137 ?_
                rw [kk541]
                refine lv_iconst (v := 1) Bx.1 Bx.2.1 d_Mo_repetition_140 (by decide) ?_
                refine lv_iadd Bx.1 Bx.2.1 d_Mo_repetition_141 ?_
                rw [show nI (a + 0) + 1 = nI (a + 0 + 1) from nI_add (a + 0) (1)]
                refine f_put Bx hP hD hS (by omega) hW544.1 rfl inMo tyMo okMo nmMo 16 (by decide) kw_672 rfl rfl rfl rfl (Nat.le_of_ble_eq_true rfl) d_Mo_repetition_142 (fun H locs hP hS => ?_)
                obtain ⟨J550, eJ550⟩ : ∃ z, z = va_up J530 16 (nI (a + 0 + 1)) := ⟨_, rfl⟩
                obtain ⟨mem551, e_mem551⟩ : ∃ z, z = va_up mem543 224 (moC ad J550) := ⟨_, rfl⟩
                have hP : va_P D vcl (fw n ad mem551) H := by rw [e_mem551, eJ550]; exact hP
                have hD : va_D (Az sz) (fw n ad mem551) := fw_D hD
                have hW552 : MW cy ad J550 A542 nm m0 mem551 := by rw [e_mem551]; exact hW544.upJ (by rw [eJ550]; exact va_up_ne _ _ (by decide))
                have kk553 : J550 1 = nI L := by rw [eJ550]; exact kk533
                have kk554 : J550 24 = nI G := by rw [eJ550]; exact kk534
                have kk555 : J550 17 = 0 := by rw [eJ550]; exact kk535
                have kk556 : J550 14 = nI u := by rw [eJ550]; exact kk536
                have kk557 : J550 4 = nI R := by rw [eJ550]; exact kk537
                have kk558 : J550 18 = nI (f + 1) := by rw [eJ550]; exact kk538
                have kk559 : J550 28 = 0 := by rw [eJ550]; exact kk539
                have kk560 : J550 7 = nI (Ec + 1) := by rw [eJ550]; exact kk540
                have kk561 : J550 16 = nI (a + 0 + 1) := by rw [eJ550, va_up_self]
                refine lv_aload_n Bx.1 Bx.2.1 d_Mo_repetition_145 rfl (lv_at hl 4 rfl) ?_
                refine f_get Bx hP (by omega) hW552.1 rfl inMo 10 (by decide) kw_666 rfl rfl d_Mo_repetition_146 ?_
                refine lv_iload_n Bx.1 Bx.2.1 d_Mo_repetition_149 rfl (lv_at hl 1 rfl) ?_
                refine lv_aload_n Bx.1 Bx.2.1 d_Mo_repetition_150 rfl (lv_at hl 4 rfl) ?_
                refine f_callVi (na := 0) (As := []) (rest := [.int (nI Ec), .ref (ad 230)]) Bx hml E hP hD hS (by omega) hW552.1 rfl (m_Mo_here l hn hW552 kk553 hL kk561 (by omega)) kw_778 kw_780 sel_Mo_here kw_8 kw_781 (by decide +kernel) ⟨rfl, rfl⟩ ⟨Nat.le_of_ble_eq_true rfl, Nat.le_of_ble_eq_true rfl⟩ rfl hl.1 (Nat.le_of_ble_eq_true rfl) d_Mo_repetition_151 ⟨Nat.le_of_ble_eq_true rfl, Nat.le_of_ble_eq_true rfl⟩ (fun r562 mem563 H locs hq hP hS => ?_)
                have hD : va_D (Az sz) (fw n ad mem563) := fw_D hD
                obtain ⟨hre, hq⟩ := hq
                rw [hq] at hP hD
                subst hre
                rw [show hereF L (A542 225) (a + 0 + 1) = hereF L T (a + 0 + 1) by rw [tT545]]
                refine f_callSi (na := 1) (As := [.int (hereF L T (a + 0 + 1))]) (rest := [.int (nI Ec), .ref (ad 230)]) Bx hml E.2.1 (m_Mo_digit l (hereF L T (a + 0 + 1))) kw_793 kw_794 kw_8 kw_795 (by decide +kernel) ⟨rfl, rfl⟩ ⟨Nat.le_of_ble_eq_true rfl, Nat.le_of_ble_eq_true rfl⟩ rfl hl.1 (Nat.le_of_ble_eq_true rfl) d_Mo_repetition_154 ⟨Nat.le_of_ble_eq_true rfl, Nat.le_of_ble_eq_true rfl⟩ (fun r565 hs564 => ?_)
                subst hs564
                refine lv_if_eq Bx.1 Bx.2.1 d_Mo_repetition_157 rfl (fun hb566 => ?_) (fun hb566 => ?_)
                · refine lv_iconst (v := -1) Bx.1 Bx.2.1 d_Mo_repetition_170 (by decide) ?_
                  refine f_iast (x := (-1)) (i := nI (Ec)) Bx hP hD hS (by omega) (show mem551 230 = .inl (cy 1, 100, .inl (A542 230)) from hW552.2.2.1 230 (by decide) (by decide) (by decide)) (vp_in_nI (n := Ec) (by omega) (by decide)) d_Mo_repetition_171 (fun H locs hP hS => ?_)
                  rw [nI_clamp (n := Ec) (by omega)] at hP
                  obtain ⟨A567, eA567⟩ : ∃ z, z = va_up A542 230 (upd (A542 230) (Ec) ((-1))) := ⟨_, rfl⟩
                  obtain ⟨mem568, e_mem568⟩ : ∃ z, z = va_up mem551 230 (.inl (cy 1, 100, .inl (upd (A542 230) (Ec) ((-1))))) := ⟨_, rfl⟩
                  have hP : va_P D vcl (fw n ad mem568) H := by rw [e_mem568]; exact hP
                  have hD : va_D (Az sz) (fw n ad mem568) := fw_D hD
                  have hW569 : MW cy ad J550 A567 nm m0 mem568 := by rw [e_mem568, eA567]; exact hW552.upA (j := 230) (by decide) (by decide) (by decide) (Or.inl (by decide))
                  have tT570 : A567 225 = T := by rw [eA567]; exact tT545
                  refine lv_aload_n Bx.1 Bx.2.1 d_Mo_repetition_172 rfl (lv_at hl 4 rfl) ?_
                  refine lv_dup Bx.1 Bx.2.1 d_Mo_repetition_173 rfl ?_
                  refine f_get Bx hP (by omega) hW569.1 rfl inMo 16 (by decide) kw_672 rfl rfl d_Mo_repetition_174 ?_
                  rw [kk561]
                  refine lv_aload_n Bx.1 Bx.2.1 d_Mo_repetition_177 rfl (lv_at hl 4 rfl) ?_
                  refine f_get Bx hP (by omega) hW569.1 rfl inMo 10 (by decide) kw_666 rfl rfl d_Mo_repetition_178 ?_
                  refine lv_iload_n Bx.1 Bx.2.1 d_Mo_repetition_181 rfl (lv_at hl 1 rfl) ?_
                  refine f_iald Bx hP (by omega) (show mem568 230 = .inl (cy 1, 100, .inl (A567 230)) from hW569.2.2.1 230 (by decide) (by decide) (by decide)) (vp_in_nI (n := Ec) (by omega) (by decide)) d_Mo_repetition_182 ?_
                  rw [nI_clamp (n := Ec) (by omega)]
                  rw [show A567 230 (Ec) = -1 by simp [eA525, eA542, eA567, va_up, upd]]
                  refine lv_if_lt Bx.1 Bx.2.1 d_Mo_repetition_183 rfl (fun hb571 => ?_) (fun hb571 => ?_)
                  · refine lv_iconst (v := 0) Bx.1 Bx.2.1 d_Mo_repetition_190 (by decide) ?_
                    refine lv_iadd Bx.1 Bx.2.1 d_Mo_repetition_191 ?_
                    rw [show nI (a + 0 + 1) + 0 = nI (a + 0 + 1 + 0) from nI_add (a + 0 + 1) (0)]
                    refine f_put Bx hP hD hS (by omega) hW569.1 rfl inMo tyMo okMo nmMo 16 (by decide) kw_672 rfl rfl rfl rfl (Nat.le_of_ble_eq_true rfl) d_Mo_repetition_192 (fun H locs hP hS => ?_)
                    obtain ⟨J572, eJ572⟩ : ∃ z, z = va_up J550 16 (nI (a + 0 + 1 + 0)) := ⟨_, rfl⟩
                    obtain ⟨mem573, e_mem573⟩ : ∃ z, z = va_up mem568 224 (moC ad J572) := ⟨_, rfl⟩
                    have hP : va_P D vcl (fw n ad mem573) H := by rw [e_mem573, eJ572]; exact hP
                    have hD : va_D (Az sz) (fw n ad mem573) := fw_D hD
                    have hW574 : MW cy ad J572 A567 nm m0 mem573 := by rw [e_mem573]; exact hW569.upJ (by rw [eJ572]; exact va_up_ne _ _ (by decide))
                    have kk575 : J572 1 = nI L := by rw [eJ572]; exact kk553
                    have kk576 : J572 24 = nI G := by rw [eJ572]; exact kk554
                    have kk577 : J572 17 = 0 := by rw [eJ572]; exact kk555
                    have kk578 : J572 14 = nI u := by rw [eJ572]; exact kk556
                    have kk579 : J572 4 = nI R := by rw [eJ572]; exact kk557
                    have kk580 : J572 18 = nI (f + 1) := by rw [eJ572]; exact kk558
                    have kk581 : J572 28 = 0 := by rw [eJ572]; exact kk559
                    have kk582 : J572 7 = nI (Ec + 1) := by rw [eJ572]; exact kk560
                    have kk583 : J572 16 = nI (a + 0 + 1 + 0) := by rw [eJ572, va_up_self]
                    have hno := hin5.note (A' := A567) (e := Ec) (u' := u) (Nat.le_refl _) (fun j q8 q9 q0 q1 q4 => by simp [eA525, eA542, eA567, va_up, q9, q0]) (fun i hi => by simp [eA525, eA542, eA567, va_up, upd, hi]) (Or.inl (by simp [eA525, eA542, eA567, va_up])) (by simp [eA525, eA542, eA567, va_up, hk5]) (fun z => absurd z (by simp [eA525, eA542, eA567, va_up, hk5]))
                    exact share9 mem573 (J572) (A567) (a + 0 + 1 + 0) _ _ _ (⟨⟨kk575, kk576, kk583, kk577, kk578, kk579, kk582, kk580⟩, kk581⟩) (hW574) (tT570) (hno) (⟨by omega, by omega, by omega⟩) hP hD hS (lv_sub hl [4, 3, 2, 1] rfl)
                  · exact absurd hb571 (by decide)
                · have hlt584 := hereF_lt (dg_ne hb566)
                  refine lv_aload_n Bx.1 Bx.2.1 d_Mo_repetition_160 rfl (lv_at hl 4 rfl) ?_
                  refine f_callVi (na := 0) (As := []) (rest := [.int (nI Ec), .ref (ad 230)]) Bx hml E hP hD hS (by omega) hW552.1 rfl (m_Mo_here l hn hW552 kk553 hL kk561 (by omega)) kw_778 kw_780 sel_Mo_here kw_8 kw_781 (by decide +kernel) ⟨rfl, rfl⟩ ⟨Nat.le_of_ble_eq_true rfl, Nat.le_of_ble_eq_true rfl⟩ rfl hl.1 (Nat.le_of_ble_eq_true rfl) d_Mo_repetition_161 ⟨Nat.le_of_ble_eq_true rfl, Nat.le_of_ble_eq_true rfl⟩ (fun r585 mem586 H locs hq hP hS => ?_)
                  have hD : va_D (Az sz) (fw n ad mem586) := fw_D hD
                  obtain ⟨hre, hq⟩ := hq
                  rw [hq] at hP hD
                  subst hre
                  rw [show hereF L (A542 225) (a + 0 + 1) = hereF L T (a + 0 + 1) by rw [tT545]]
                  refine lv_bipush (v := 48) Bx.1 Bx.2.1 d_Mo_repetition_164 (by decide) ?_
                  refine lv_isub Bx.1 Bx.2.1 d_Mo_repetition_166 ?_
                  refine lv_goto Bx.1 Bx.2.1 d_Mo_repetition_167 rfl ?_
                  refine f_iast (x := hereF L T (a + 0 + 1) - 48) (i := nI (Ec)) Bx hP hD hS (by omega) (show mem551 230 = .inl (cy 1, 100, .inl (A542 230)) from hW552.2.2.1 230 (by decide) (by decide) (by decide)) (vp_in_nI (n := Ec) (by omega) (by decide)) d_Mo_repetition_171 (fun H locs hP hS => ?_)
                  rw [nI_clamp (n := Ec) (by omega)] at hP
                  obtain ⟨A587, eA587⟩ : ∃ z, z = va_up A542 230 (upd (A542 230) (Ec) (hereF L T (a + 0 + 1) - 48)) := ⟨_, rfl⟩
                  obtain ⟨mem588, e_mem588⟩ : ∃ z, z = va_up mem551 230 (.inl (cy 1, 100, .inl (upd (A542 230) (Ec) (hereF L T (a + 0 + 1) - 48)))) := ⟨_, rfl⟩
                  have hP : va_P D vcl (fw n ad mem588) H := by rw [e_mem588]; exact hP
                  have hD : va_D (Az sz) (fw n ad mem588) := fw_D hD
                  have hW589 : MW cy ad J550 A587 nm m0 mem588 := by rw [e_mem588, eA587]; exact hW552.upA (j := 230) (by decide) (by decide) (by decide) (Or.inl (by decide))
                  have tT590 : A587 225 = T := by rw [eA587]; exact tT545
                  refine lv_aload_n Bx.1 Bx.2.1 d_Mo_repetition_172 rfl (lv_at hl 4 rfl) ?_
                  refine lv_dup Bx.1 Bx.2.1 d_Mo_repetition_173 rfl ?_
                  refine f_get Bx hP (by omega) hW589.1 rfl inMo 16 (by decide) kw_672 rfl rfl d_Mo_repetition_174 ?_
                  rw [kk561]
                  refine lv_aload_n Bx.1 Bx.2.1 d_Mo_repetition_177 rfl (lv_at hl 4 rfl) ?_
                  refine f_get Bx hP (by omega) hW589.1 rfl inMo 10 (by decide) kw_666 rfl rfl d_Mo_repetition_178 ?_
                  refine lv_iload_n Bx.1 Bx.2.1 d_Mo_repetition_181 rfl (lv_at hl 1 rfl) ?_
                  refine f_iald Bx hP (by omega) (show mem588 230 = .inl (cy 1, 100, .inl (A587 230)) from hW589.2.2.1 230 (by decide) (by decide) (by decide)) (vp_in_nI (n := Ec) (by omega) (by decide)) d_Mo_repetition_182 ?_
                  rw [nI_clamp (n := Ec) (by omega)]
                  refine lv_if_lt Bx.1 Bx.2.1 d_Mo_repetition_183 rfl (fun hb591 => ?_) (fun hb591 => ?_)
                  · refine lv_iconst (v := 0) Bx.1 Bx.2.1 d_Mo_repetition_190 (by decide) ?_
                    refine lv_iadd Bx.1 Bx.2.1 d_Mo_repetition_191 ?_
                    rw [show nI (a + 0 + 1) + 0 = nI (a + 0 + 1 + 0) from nI_add (a + 0 + 1) (0)]
                    refine f_put Bx hP hD hS (by omega) hW589.1 rfl inMo tyMo okMo nmMo 16 (by decide) kw_672 rfl rfl rfl rfl (Nat.le_of_ble_eq_true rfl) d_Mo_repetition_192 (fun H locs hP hS => ?_)
                    obtain ⟨J592, eJ592⟩ : ∃ z, z = va_up J550 16 (nI (a + 0 + 1 + 0)) := ⟨_, rfl⟩
                    obtain ⟨mem593, e_mem593⟩ : ∃ z, z = va_up mem588 224 (moC ad J592) := ⟨_, rfl⟩
                    have hP : va_P D vcl (fw n ad mem593) H := by rw [e_mem593, eJ592]; exact hP
                    have hD : va_D (Az sz) (fw n ad mem593) := fw_D hD
                    have hW594 : MW cy ad J592 A587 nm m0 mem593 := by rw [e_mem593]; exact hW589.upJ (by rw [eJ592]; exact va_up_ne _ _ (by decide))
                    have kk595 : J592 1 = nI L := by rw [eJ592]; exact kk553
                    have kk596 : J592 24 = nI G := by rw [eJ592]; exact kk554
                    have kk597 : J592 17 = 0 := by rw [eJ592]; exact kk555
                    have kk598 : J592 14 = nI u := by rw [eJ592]; exact kk556
                    have kk599 : J592 4 = nI R := by rw [eJ592]; exact kk557
                    have kk600 : J592 18 = nI (f + 1) := by rw [eJ592]; exact kk558
                    have kk601 : J592 28 = 0 := by rw [eJ592]; exact kk559
                    have kk602 : J592 7 = nI (Ec + 1) := by rw [eJ592]; exact kk560
                    have kk603 : J592 16 = nI (a + 0 + 1 + 0) := by rw [eJ592, va_up_self]
                    have hno := hin5.note (A' := A587) (e := Ec) (u' := u) (Nat.le_refl _) (fun j q8 q9 q0 q1 q4 => by simp [eA525, eA542, eA587, va_up, q9, q0]) (fun i hi => by simp [eA525, eA542, eA587, va_up, upd, hi]) (Or.inl (by simp [eA525, eA542, eA587, va_up])) (by simp [eA525, eA542, eA587, va_up, hk5]) (fun z => absurd z (by simp [eA525, eA542, eA587, va_up, hk5]))
                    exact share9 mem593 (J592) (A587) (a + 0 + 1 + 0) _ _ _ (⟨⟨kk595, kk596, kk603, kk597, kk598, kk599, kk602, kk600⟩, kk601⟩) (hW594) (tT590) (hno) (⟨by omega, by omega, by omega⟩) hP hD hS (lv_sub hl [4, 3, 2, 1] rfl)
                  · refine lv_iconst (v := 1) Bx.1 Bx.2.1 d_Mo_repetition_186 (by decide) ?_
                    refine lv_goto Bx.1 Bx.2.1 d_Mo_repetition_187 rfl ?_
                    refine lv_iadd Bx.1 Bx.2.1 d_Mo_repetition_191 ?_
                    rw [show nI (a + 0 + 1) + 1 = nI (a + 0 + 1 + 1) from nI_add (a + 0 + 1) (1)]
                    refine f_put Bx hP hD hS (by omega) hW589.1 rfl inMo tyMo okMo nmMo 16 (by decide) kw_672 rfl rfl rfl rfl (Nat.le_of_ble_eq_true rfl) d_Mo_repetition_192 (fun H locs hP hS => ?_)
                    obtain ⟨J604, eJ604⟩ : ∃ z, z = va_up J550 16 (nI (a + 0 + 1 + 1)) := ⟨_, rfl⟩
                    obtain ⟨mem605, e_mem605⟩ : ∃ z, z = va_up mem588 224 (moC ad J604) := ⟨_, rfl⟩
                    have hP : va_P D vcl (fw n ad mem605) H := by rw [e_mem605, eJ604]; exact hP
                    have hD : va_D (Az sz) (fw n ad mem605) := fw_D hD
                    have hW606 : MW cy ad J604 A587 nm m0 mem605 := by rw [e_mem605]; exact hW589.upJ (by rw [eJ604]; exact va_up_ne _ _ (by decide))
                    have kk607 : J604 1 = nI L := by rw [eJ604]; exact kk553
                    have kk608 : J604 24 = nI G := by rw [eJ604]; exact kk554
                    have kk609 : J604 17 = 0 := by rw [eJ604]; exact kk555
                    have kk610 : J604 14 = nI u := by rw [eJ604]; exact kk556
                    have kk611 : J604 4 = nI R := by rw [eJ604]; exact kk557
                    have kk612 : J604 18 = nI (f + 1) := by rw [eJ604]; exact kk558
                    have kk613 : J604 28 = 0 := by rw [eJ604]; exact kk559
                    have kk614 : J604 7 = nI (Ec + 1) := by rw [eJ604]; exact kk560
                    have kk615 : J604 16 = nI (a + 0 + 1 + 1) := by rw [eJ604, va_up_self]
                    have hno := hin5.note (A' := A587) (e := Ec) (u' := u) (Nat.le_refl _) (fun j q8 q9 q0 q1 q4 => by simp [eA525, eA542, eA587, va_up, q9, q0]) (fun i hi => by simp [eA525, eA542, eA587, va_up, upd, hi]) (Or.inl (by simp [eA525, eA542, eA587, va_up])) (by simp [eA525, eA542, eA587, va_up, hk5]) (fun z => absurd z (by simp [eA525, eA542, eA587, va_up, hk5]))
                    exact share9 mem605 (J604) (A587) (a + 0 + 1 + 1) _ _ _ (⟨⟨kk607, kk608, kk615, kk609, kk610, kk611, kk614, kk612⟩, kk613⟩) (hW606) (tT590) (hno) (⟨by omega, by omega, by omega⟩) hP hD hS (lv_sub hl [4, 3, 2, 1] rfl)
            · exact absurd hb529 (by decide)
          · have hlt616 := hereF_lt (dg_ne hb524)
            rw [dg_one hb524] at hl
            refine lv_aload_n Bx.1 Bx.2.1 d_Mo_repetition_83 rfl (lv_at hl 4 rfl) ?_
            refine f_callVi (na := 0) (As := []) (rest := [.int (nI Ec), .ref (ad 229)]) Bx hml E hP hD hS (by omega) hW518.1 rfl (m_Mo_here l hn hW518 kk495 hL kk497 (by omega)) kw_778 kw_780 sel_Mo_here kw_8 kw_781 (by decide +kernel) ⟨rfl, rfl⟩ ⟨Nat.le_of_ble_eq_true rfl, Nat.le_of_ble_eq_true rfl⟩ rfl hl.1 (Nat.le_of_ble_eq_true rfl) d_Mo_repetition_84 ⟨Nat.le_of_ble_eq_true rfl, Nat.le_of_ble_eq_true rfl⟩ (fun r617 mem618 H locs hq hP hS => ?_)
            have hD : va_D (Az sz) (fw n ad mem618) := fw_D hD
            obtain ⟨hre, hq⟩ := hq
            rw [hq] at hP hD
            subst hre
            rw [show hereF L (A516 225) (a) = hereF L T (a) by rw [tT519]]
            refine lv_bipush (v := 48) Bx.1 Bx.2.1 d_Mo_repetition_87 (by decide) ?_
            refine lv_isub Bx.1 Bx.2.1 d_Mo_repetition_89 ?_
            refine lv_goto Bx.1 Bx.2.1 d_Mo_repetition_90 rfl ?_
            refine f_iast (x := hereF L T (a) - 48) (i := nI (Ec)) Bx hP hD hS (by omega) (show mem517 229 = .inl (cy 1, 100, .inl (A516 229)) from hW518.2.2.1 229 (by decide) (by decide) (by decide)) (vp_in_nI (n := Ec) (by omega) (by decide)) d_Mo_repetition_94 (fun H locs hP hS => ?_)
            rw [nI_clamp (n := Ec) (by omega)] at hP
            obtain ⟨A619, eA619⟩ : ∃ z, z = va_up A516 229 (upd (A516 229) (Ec) (hereF L T (a) - 48)) := ⟨_, rfl⟩
            obtain ⟨mem620, e_mem620⟩ : ∃ z, z = va_up mem517 229 (.inl (cy 1, 100, .inl (upd (A516 229) (Ec) (hereF L T (a) - 48)))) := ⟨_, rfl⟩
            have hP : va_P D vcl (fw n ad mem620) H := by rw [e_mem620]; exact hP
            have hD : va_D (Az sz) (fw n ad mem620) := fw_D hD
            have hW621 : MW cy ad J481 A619 nm m0 mem620 := by rw [e_mem620, eA619]; exact hW518.upA (j := 229) (by decide) (by decide) (by decide) (Or.inl (by decide))
            have tT622 : A619 225 = T := by rw [eA619]; exact tT519
            refine lv_aload_n Bx.1 Bx.2.1 d_Mo_repetition_95 rfl (lv_at hl 4 rfl) ?_
            refine lv_dup Bx.1 Bx.2.1 d_Mo_repetition_96 rfl ?_
            refine f_get Bx hP (by omega) hW621.1 rfl inMo 16 (by decide) kw_672 rfl rfl d_Mo_repetition_97 ?_
            rw [kk497]
            refine lv_iload Bx.1 Bx.2.1 d_Mo_repetition_100 (lv_at hl 0 rfl) ?_
            refine lv_if_eq Bx.1 Bx.2.1 d_Mo_repetition_102 rfl (fun hb623 => ?_) (fun hb623 => ?_)
            · exact absurd hb623 (by decide)
            · refine lv_iconst (v := 1) Bx.1 Bx.2.1 d_Mo_repetition_105 (by decide) ?_
              refine lv_goto Bx.1 Bx.2.1 d_Mo_repetition_106 rfl ?_
              refine lv_iadd Bx.1 Bx.2.1 d_Mo_repetition_110 ?_
              rw [show nI a + 1 = nI (a + 1) from nI_add (a) (1)]
              refine f_put Bx hP hD hS (by omega) hW621.1 rfl inMo tyMo okMo nmMo 16 (by decide) kw_672 rfl rfl rfl rfl (Nat.le_of_ble_eq_true rfl) d_Mo_repetition_111 (fun H locs hP hS => ?_)
              obtain ⟨J624, eJ624⟩ : ∃ z, z = va_up J481 16 (nI (a + 1)) := ⟨_, rfl⟩
              obtain ⟨mem625, e_mem625⟩ : ∃ z, z = va_up mem620 224 (moC ad J624) := ⟨_, rfl⟩
              have hP : va_P D vcl (fw n ad mem625) H := by rw [e_mem625, eJ624]; exact hP
              have hD : va_D (Az sz) (fw n ad mem625) := fw_D hD
              have hW626 : MW cy ad J624 A619 nm m0 mem625 := by rw [e_mem625]; exact hW621.upJ (by rw [eJ624]; exact va_up_ne _ _ (by decide))
              have kk627 : J624 1 = nI L := by rw [eJ624]; exact kk495
              have kk628 : J624 24 = nI G := by rw [eJ624]; exact kk496
              have kk629 : J624 17 = 0 := by rw [eJ624]; exact kk498
              have kk630 : J624 14 = nI u := by rw [eJ624]; exact kk499
              have kk631 : J624 4 = nI R := by rw [eJ624]; exact kk500
              have kk632 : J624 18 = nI (f + 1) := by rw [eJ624]; exact kk501
              have kk633 : J624 28 = 0 := by rw [eJ624]; exact kk502
              have kk634 : J624 7 = nI (Ec + 1) := by rw [eJ624]; exact kk503
              have kk635 : J624 16 = nI (a + 1) := by rw [eJ624, va_up_self]
              refine lv_aload_n Bx.1 Bx.2.1 d_Mo_repetition_114 rfl (lv_at hl 4 rfl) ?_
              refine f_get Bx hP (by omega) hW626.1 rfl inMo 10 (by decide) kw_666 rfl rfl d_Mo_repetition_115 ?_
              refine lv_iload_n Bx.1 Bx.2.1 d_Mo_repetition_118 rfl (lv_at hl 1 rfl) ?_
              refine lv_aload_n Bx.1 Bx.2.1 d_Mo_repetition_119 rfl (lv_at hl 4 rfl) ?_
              refine f_get Bx hP (by omega) hW626.1 rfl inMo 9 (by decide) kw_665 rfl rfl d_Mo_repetition_120 ?_
              refine lv_iload_n Bx.1 Bx.2.1 d_Mo_repetition_123 rfl (lv_at hl 1 rfl) ?_
              refine f_iald Bx hP (by omega) (show mem625 229 = .inl (cy 1, 100, .inl (A619 229)) from hW626.2.2.1 229 (by decide) (by decide) (by decide)) (vp_in_nI (n := Ec) (by omega) (by decide)) d_Mo_repetition_124 ?_
              rw [nI_clamp (n := Ec) (by omega)]
              refine f_iast (x := A619 229 (Ec)) (i := nI (Ec)) Bx hP hD hS (by omega) (show mem625 230 = .inl (cy 1, 100, .inl (A619 230)) from hW626.2.2.1 230 (by decide) (by decide) (by decide)) (vp_in_nI (n := Ec) (by omega) (by decide)) d_Mo_repetition_125 (fun H locs hP hS => ?_)
              rw [nI_clamp (n := Ec) (by omega)] at hP
              obtain ⟨A636, eA636⟩ : ∃ z, z = va_up A619 230 (upd (A619 230) (Ec) (A619 229 (Ec))) := ⟨_, rfl⟩
              obtain ⟨mem637, e_mem637⟩ : ∃ z, z = va_up mem625 230 (.inl (cy 1, 100, .inl (upd (A619 230) (Ec) (A619 229 (Ec))))) := ⟨_, rfl⟩
              have hP : va_P D vcl (fw n ad mem637) H := by rw [e_mem637]; exact hP
              have hD : va_D (Az sz) (fw n ad mem637) := fw_D hD
              have hW638 : MW cy ad J624 A636 nm m0 mem637 := by rw [e_mem637, eA636]; exact hW626.upA (j := 230) (by decide) (by decide) (by decide) (Or.inl (by decide))
              have tT639 : A636 225 = T := by rw [eA636]; exact tT622
              refine lv_aload_n Bx.1 Bx.2.1 d_Mo_repetition_126 rfl (lv_at hl 4 rfl) ?_
              refine f_callVi (na := 0) (As := []) (rest := []) Bx hml E hP hD hS (by omega) hW638.1 rfl (m_Mo_here l hn hW638 kk627 hL kk635 (by omega)) kw_778 kw_780 sel_Mo_here kw_8 kw_781 (by decide +kernel) ⟨rfl, rfl⟩ ⟨Nat.le_of_ble_eq_true rfl, Nat.le_of_ble_eq_true rfl⟩ rfl hl.1 (Nat.le_of_ble_eq_true rfl) d_Mo_repetition_127 ⟨Nat.le_of_ble_eq_true rfl, Nat.le_of_ble_eq_true rfl⟩ (fun r640 mem641 H locs hq hP hS => ?_)
              have hD : va_D (Az sz) (fw n ad mem641) := fw_D hD
              obtain ⟨hre, hq⟩ := hq
              rw [hq] at hP hD
              subst hre
              rw [show hereF L (A636 225) (a + 1) = hereF L T (a + 1) by rw [tT639]]
              refine lv_bipush (v := 42) Bx.1 Bx.2.1 d_Mo_repetition_130 (by decide) ?_
              refine lv_icmp_ne Bx.1 Bx.2.1 d_Mo_repetition_132 rfl (fun hb642 => ?_) (fun hb642 => ?_)
              · have hno := hin5.note (A' := A636) (e := Ec) (u' := u) (Nat.le_refl _) (fun j q8 q9 q0 q1 q4 => by simp [eA619, eA636, va_up, q9, q0]) (fun i hi => by simp [eA619, eA636, va_up, upd, hi]) (Or.inl (by simp [eA619, eA636, va_up])) (by simp [eA619, eA636, va_up, hk5]) (fun z => absurd z (by simp [eA619, eA636, va_up, hk5]))
                exact share9 mem637 (J624) (A636) (a + 1) _ _ _ (⟨⟨kk627, kk628, kk635, kk629, kk630, kk631, kk634, kk632⟩, kk633⟩) (hW638) (tT639) (hno) (⟨by omega, by omega, by omega⟩) hP hD hS (lv_sub hl [4, 3, 2, 1] rfl)
              · have hlt643 := hereF_lt (by rw [hb642]; decide)
                refine lv_aload_n Bx.1 Bx.2.1 d_Mo_repetition_135 rfl (lv_at hl 4 rfl) ?_
                refine lv_dup Bx.1 Bx.2.1 d_Mo_repetition_136 rfl ?_
                refine f_get Bx hP (by omega) hW638.1 rfl inMo 16 (by decide) kw_672 rfl rfl d_Mo_repetition_137 ?_
                rw [kk635]
                refine lv_iconst (v := 1) Bx.1 Bx.2.1 d_Mo_repetition_140 (by decide) ?_
                refine lv_iadd Bx.1 Bx.2.1 d_Mo_repetition_141 ?_
                rw [show nI (a + 1) + 1 = nI (a + 1 + 1) from nI_add (a + 1) (1)]
                refine f_put Bx hP hD hS (by omega) hW638.1 rfl inMo tyMo okMo nmMo 16 (by decide) kw_672 rfl rfl rfl rfl (Nat.le_of_ble_eq_true rfl) d_Mo_repetition_142 (fun H locs hP hS => ?_)
                obtain ⟨J644, eJ644⟩ : ∃ z, z = va_up J624 16 (nI (a + 1 + 1)) := ⟨_, rfl⟩
                obtain ⟨mem645, e_mem645⟩ : ∃ z, z = va_up mem637 224 (moC ad J644) := ⟨_, rfl⟩
                have hP : va_P D vcl (fw n ad mem645) H := by rw [e_mem645, eJ644]; exact hP
                have hD : va_D (Az sz) (fw n ad mem645) := fw_D hD
                have hW646 : MW cy ad J644 A636 nm m0 mem645 := by rw [e_mem645]; exact hW638.upJ (by rw [eJ644]; exact va_up_ne _ _ (by decide))
                have kk647 : J644 1 = nI L := by rw [eJ644]; exact kk627
                have kk648 : J644 24 = nI G := by rw [eJ644]; exact kk628
                have kk649 : J644 17 = 0 := by rw [eJ644]; exact kk629
                have kk650 : J644 14 = nI u := by rw [eJ644]; exact kk630
                have kk651 : J644 4 = nI R := by rw [eJ644]; exact kk631
                have kk652 : J644 18 = nI (f + 1) := by rw [eJ644]; exact kk632
                have kk653 : J644 28 = 0 := by rw [eJ644]; exact kk633
                have kk654 : J644 7 = nI (Ec + 1) := by rw [eJ644]; exact kk634
                have kk655 : J644 16 = nI (a + 1 + 1) := by rw [eJ644, va_up_self]
                refine lv_aload_n Bx.1 Bx.2.1 d_Mo_repetition_145 rfl (lv_at hl 4 rfl) ?_
                refine f_get Bx hP (by omega) hW646.1 rfl inMo 10 (by decide) kw_666 rfl rfl d_Mo_repetition_146 ?_
                refine lv_iload_n Bx.1 Bx.2.1 d_Mo_repetition_149 rfl (lv_at hl 1 rfl) ?_
                refine lv_aload_n Bx.1 Bx.2.1 d_Mo_repetition_150 rfl (lv_at hl 4 rfl) ?_
                refine f_callVi (na := 0) (As := []) (rest := [.int (nI Ec), .ref (ad 230)]) Bx hml E hP hD hS (by omega) hW646.1 rfl (m_Mo_here l hn hW646 kk647 hL kk655 (by omega)) kw_778 kw_780 sel_Mo_here kw_8 kw_781 (by decide +kernel) ⟨rfl, rfl⟩ ⟨Nat.le_of_ble_eq_true rfl, Nat.le_of_ble_eq_true rfl⟩ rfl hl.1 (Nat.le_of_ble_eq_true rfl) d_Mo_repetition_151 ⟨Nat.le_of_ble_eq_true rfl, Nat.le_of_ble_eq_true rfl⟩ (fun r656 mem657 H locs hq hP hS => ?_)
                have hD : va_D (Az sz) (fw n ad mem657) := fw_D hD
                obtain ⟨hre, hq⟩ := hq
                rw [hq] at hP hD
                subst hre
                rw [show hereF L (A636 225) (a + 1 + 1) = hereF L T (a + 1 + 1) by rw [tT639]]
                refine f_callSi (na := 1) (As := [.int (hereF L T (a + 1 + 1))]) (rest := [.int (nI Ec), .ref (ad 230)]) Bx hml E.2.1 (m_Mo_digit l (hereF L T (a + 1 + 1))) kw_793 kw_794 kw_8 kw_795 (by decide +kernel) ⟨rfl, rfl⟩ ⟨Nat.le_of_ble_eq_true rfl, Nat.le_of_ble_eq_true rfl⟩ rfl hl.1 (Nat.le_of_ble_eq_true rfl) d_Mo_repetition_154 ⟨Nat.le_of_ble_eq_true rfl, Nat.le_of_ble_eq_true rfl⟩ (fun r659 hs658 => ?_)
                subst hs658
                refine lv_if_eq Bx.1 Bx.2.1 d_Mo_repetition_157 rfl (fun hb660 => ?_) (fun hb660 => ?_)
                · refine lv_iconst (v := -1) Bx.1 Bx.2.1 d_Mo_repetition_170 (by decide) ?_
                  refine f_iast (x := (-1)) (i := nI (Ec)) Bx hP hD hS (by omega) (show mem645 230 = .inl (cy 1, 100, .inl (A636 230)) from hW646.2.2.1 230 (by decide) (by decide) (by decide)) (vp_in_nI (n := Ec) (by omega) (by decide)) d_Mo_repetition_171 (fun H locs hP hS => ?_)
                  rw [nI_clamp (n := Ec) (by omega)] at hP
                  obtain ⟨A661, eA661⟩ : ∃ z, z = va_up A636 230 (upd (A636 230) (Ec) ((-1))) := ⟨_, rfl⟩
                  obtain ⟨mem662, e_mem662⟩ : ∃ z, z = va_up mem645 230 (.inl (cy 1, 100, .inl (upd (A636 230) (Ec) ((-1))))) := ⟨_, rfl⟩
                  have hP : va_P D vcl (fw n ad mem662) H := by rw [e_mem662]; exact hP
                  have hD : va_D (Az sz) (fw n ad mem662) := fw_D hD
                  have hW663 : MW cy ad J644 A661 nm m0 mem662 := by rw [e_mem662, eA661]; exact hW646.upA (j := 230) (by decide) (by decide) (by decide) (Or.inl (by decide))
                  have tT664 : A661 225 = T := by rw [eA661]; exact tT639
                  refine lv_aload_n Bx.1 Bx.2.1 d_Mo_repetition_172 rfl (lv_at hl 4 rfl) ?_
                  refine lv_dup Bx.1 Bx.2.1 d_Mo_repetition_173 rfl ?_
                  refine f_get Bx hP (by omega) hW663.1 rfl inMo 16 (by decide) kw_672 rfl rfl d_Mo_repetition_174 ?_
                  rw [kk655]
                  refine lv_aload_n Bx.1 Bx.2.1 d_Mo_repetition_177 rfl (lv_at hl 4 rfl) ?_
                  refine f_get Bx hP (by omega) hW663.1 rfl inMo 10 (by decide) kw_666 rfl rfl d_Mo_repetition_178 ?_
                  refine lv_iload_n Bx.1 Bx.2.1 d_Mo_repetition_181 rfl (lv_at hl 1 rfl) ?_
                  refine f_iald Bx hP (by omega) (show mem662 230 = .inl (cy 1, 100, .inl (A661 230)) from hW663.2.2.1 230 (by decide) (by decide) (by decide)) (vp_in_nI (n := Ec) (by omega) (by decide)) d_Mo_repetition_182 ?_
                  rw [nI_clamp (n := Ec) (by omega)]
                  rw [show A661 230 (Ec) = -1 by simp [eA619, eA636, eA661, va_up, upd]]
                  refine lv_if_lt Bx.1 Bx.2.1 d_Mo_repetition_183 rfl (fun hb665 => ?_) (fun hb665 => ?_)
                  · refine lv_iconst (v := 0) Bx.1 Bx.2.1 d_Mo_repetition_190 (by decide) ?_
                    refine lv_iadd Bx.1 Bx.2.1 d_Mo_repetition_191 ?_
                    rw [show nI (a + 1 + 1) + 0 = nI (a + 1 + 1 + 0) from nI_add (a + 1 + 1) (0)]
                    refine f_put Bx hP hD hS (by omega) hW663.1 rfl inMo tyMo okMo nmMo 16 (by decide) kw_672 rfl rfl rfl rfl (Nat.le_of_ble_eq_true rfl) d_Mo_repetition_192 (fun H locs hP hS => ?_)
                    obtain ⟨J666, eJ666⟩ : ∃ z, z = va_up J644 16 (nI (a + 1 + 1 + 0)) := ⟨_, rfl⟩
                    obtain ⟨mem667, e_mem667⟩ : ∃ z, z = va_up mem662 224 (moC ad J666) := ⟨_, rfl⟩
                    have hP : va_P D vcl (fw n ad mem667) H := by rw [e_mem667, eJ666]; exact hP
                    have hD : va_D (Az sz) (fw n ad mem667) := fw_D hD
                    have hW668 : MW cy ad J666 A661 nm m0 mem667 := by rw [e_mem667]; exact hW663.upJ (by rw [eJ666]; exact va_up_ne _ _ (by decide))
                    have kk669 : J666 1 = nI L := by rw [eJ666]; exact kk647
                    have kk670 : J666 24 = nI G := by rw [eJ666]; exact kk648
                    have kk671 : J666 17 = 0 := by rw [eJ666]; exact kk649
                    have kk672 : J666 14 = nI u := by rw [eJ666]; exact kk650
                    have kk673 : J666 4 = nI R := by rw [eJ666]; exact kk651
                    have kk674 : J666 18 = nI (f + 1) := by rw [eJ666]; exact kk652
                    have kk675 : J666 28 = 0 := by rw [eJ666]; exact kk653
                    have kk676 : J666 7 = nI (Ec + 1) := by rw [eJ666]; exact kk654
                    have kk677 : J666 16 = nI (a + 1 + 1 + 0) := by rw [eJ666, va_up_self]
                    have hno := hin5.note (A' := A661) (e := Ec) (u' := u) (Nat.le_refl _) (fun j q8 q9 q0 q1 q4 => by simp [eA619, eA636, eA661, va_up, q9, q0]) (fun i hi => by simp [eA619, eA636, eA661, va_up, upd, hi]) (Or.inl (by simp [eA619, eA636, eA661, va_up])) (by simp [eA619, eA636, eA661, va_up, hk5]) (fun z => absurd z (by simp [eA619, eA636, eA661, va_up, hk5]))
                    exact share9 mem667 (J666) (A661) (a + 1 + 1 + 0) _ _ _ (⟨⟨kk669, kk670, kk677, kk671, kk672, kk673, kk676, kk674⟩, kk675⟩) (hW668) (tT664) (hno) (⟨by omega, by omega, by omega⟩) hP hD hS (lv_sub hl [4, 3, 2, 1] rfl)
                  · exact absurd hb665 (by decide)
                · have hlt678 := hereF_lt (dg_ne hb660)
                  refine lv_aload_n Bx.1 Bx.2.1 d_Mo_repetition_160 rfl (lv_at hl 4 rfl) ?_
                  refine f_callVi (na := 0) (As := []) (rest := [.int (nI Ec), .ref (ad 230)]) Bx hml E hP hD hS (by omega) hW646.1 rfl (m_Mo_here l hn hW646 kk647 hL kk655 (by omega)) kw_778 kw_780 sel_Mo_here kw_8 kw_781 (by decide +kernel) ⟨rfl, rfl⟩ ⟨Nat.le_of_ble_eq_true rfl, Nat.le_of_ble_eq_true rfl⟩ rfl hl.1 (Nat.le_of_ble_eq_true rfl) d_Mo_repetition_161 ⟨Nat.le_of_ble_eq_true rfl, Nat.le_of_ble_eq_true rfl⟩ (fun r679 mem680 H locs hq hP hS => ?_)
                  have hD : va_D (Az sz) (fw n ad mem680) := fw_D hD
                  obtain ⟨hre, hq⟩ := hq
                  rw [hq] at hP hD
                  subst hre
                  rw [show hereF L (A636 225) (a + 1 + 1) = hereF L T (a + 1 + 1) by rw [tT639]]
                  refine lv_bipush (v := 48) Bx.1 Bx.2.1 d_Mo_repetition_164 (by decide) ?_
                  refine lv_isub Bx.1 Bx.2.1 d_Mo_repetition_166 ?_
                  refine lv_goto Bx.1 Bx.2.1 d_Mo_repetition_167 rfl ?_
                  refine f_iast (x := hereF L T (a + 1 + 1) - 48) (i := nI (Ec)) Bx hP hD hS (by omega) (show mem645 230 = .inl (cy 1, 100, .inl (A636 230)) from hW646.2.2.1 230 (by decide) (by decide) (by decide)) (vp_in_nI (n := Ec) (by omega) (by decide)) d_Mo_repetition_171 (fun H locs hP hS => ?_)
                  rw [nI_clamp (n := Ec) (by omega)] at hP
                  obtain ⟨A681, eA681⟩ : ∃ z, z = va_up A636 230 (upd (A636 230) (Ec) (hereF L T (a + 1 + 1) - 48)) := ⟨_, rfl⟩
                  obtain ⟨mem682, e_mem682⟩ : ∃ z, z = va_up mem645 230 (.inl (cy 1, 100, .inl (upd (A636 230) (Ec) (hereF L T (a + 1 + 1) - 48)))) := ⟨_, rfl⟩
                  have hP : va_P D vcl (fw n ad mem682) H := by rw [e_mem682]; exact hP
                  have hD : va_D (Az sz) (fw n ad mem682) := fw_D hD
                  have hW683 : MW cy ad J644 A681 nm m0 mem682 := by rw [e_mem682, eA681]; exact hW646.upA (j := 230) (by decide) (by decide) (by decide) (Or.inl (by decide))
                  have tT684 : A681 225 = T := by rw [eA681]; exact tT639
                  refine lv_aload_n Bx.1 Bx.2.1 d_Mo_repetition_172 rfl (lv_at hl 4 rfl) ?_
                  refine lv_dup Bx.1 Bx.2.1 d_Mo_repetition_173 rfl ?_
                  refine f_get Bx hP (by omega) hW683.1 rfl inMo 16 (by decide) kw_672 rfl rfl d_Mo_repetition_174 ?_
                  rw [kk655]
                  refine lv_aload_n Bx.1 Bx.2.1 d_Mo_repetition_177 rfl (lv_at hl 4 rfl) ?_
                  refine f_get Bx hP (by omega) hW683.1 rfl inMo 10 (by decide) kw_666 rfl rfl d_Mo_repetition_178 ?_
                  refine lv_iload_n Bx.1 Bx.2.1 d_Mo_repetition_181 rfl (lv_at hl 1 rfl) ?_
                  refine f_iald Bx hP (by omega) (show mem682 230 = .inl (cy 1, 100, .inl (A681 230)) from hW683.2.2.1 230 (by decide) (by decide) (by decide)) (vp_in_nI (n := Ec) (by omega) (by decide)) d_Mo_repetition_182 ?_
                  rw [nI_clamp (n := Ec) (by omega)]
                  refine lv_if_lt Bx.1 Bx.2.1 d_Mo_repetition_183 rfl (fun hb685 => ?_) (fun hb685 => ?_)
                  · refine lv_iconst (v := 0) Bx.1 Bx.2.1 d_Mo_repetition_190 (by decide) ?_
                    refine lv_iadd Bx.1 Bx.2.1 d_Mo_repetition_191 ?_
                    rw [show nI (a + 1 + 1) + 0 = nI (a + 1 + 1 + 0) from nI_add (a + 1 + 1) (0)]
                    refine f_put Bx hP hD hS (by omega) hW683.1 rfl inMo tyMo okMo nmMo 16 (by decide) kw_672 rfl rfl rfl rfl (Nat.le_of_ble_eq_true rfl) d_Mo_repetition_192 (fun H locs hP hS => ?_)
                    obtain ⟨J686, eJ686⟩ : ∃ z, z = va_up J644 16 (nI (a + 1 + 1 + 0)) := ⟨_, rfl⟩
                    obtain ⟨mem687, e_mem687⟩ : ∃ z, z = va_up mem682 224 (moC ad J686) := ⟨_, rfl⟩
                    have hP : va_P D vcl (fw n ad mem687) H := by rw [e_mem687, eJ686]; exact hP
                    have hD : va_D (Az sz) (fw n ad mem687) := fw_D hD
                    have hW688 : MW cy ad J686 A681 nm m0 mem687 := by rw [e_mem687]; exact hW683.upJ (by rw [eJ686]; exact va_up_ne _ _ (by decide))
                    have kk689 : J686 1 = nI L := by rw [eJ686]; exact kk647
                    have kk690 : J686 24 = nI G := by rw [eJ686]; exact kk648
                    have kk691 : J686 17 = 0 := by rw [eJ686]; exact kk649
                    have kk692 : J686 14 = nI u := by rw [eJ686]; exact kk650
                    have kk693 : J686 4 = nI R := by rw [eJ686]; exact kk651
                    have kk694 : J686 18 = nI (f + 1) := by rw [eJ686]; exact kk652
                    have kk695 : J686 28 = 0 := by rw [eJ686]; exact kk653
                    have kk696 : J686 7 = nI (Ec + 1) := by rw [eJ686]; exact kk654
                    have kk697 : J686 16 = nI (a + 1 + 1 + 0) := by rw [eJ686, va_up_self]
                    have hno := hin5.note (A' := A681) (e := Ec) (u' := u) (Nat.le_refl _) (fun j q8 q9 q0 q1 q4 => by simp [eA619, eA636, eA681, va_up, q9, q0]) (fun i hi => by simp [eA619, eA636, eA681, va_up, upd, hi]) (Or.inl (by simp [eA619, eA636, eA681, va_up])) (by simp [eA619, eA636, eA681, va_up, hk5]) (fun z => absurd z (by simp [eA619, eA636, eA681, va_up, hk5]))
                    exact share9 mem687 (J686) (A681) (a + 1 + 1 + 0) _ _ _ (⟨⟨kk689, kk690, kk697, kk691, kk692, kk693, kk696, kk694⟩, kk695⟩) (hW688) (tT684) (hno) (⟨by omega, by omega, by omega⟩) hP hD hS (lv_sub hl [4, 3, 2, 1] rfl)
                  · refine lv_iconst (v := 1) Bx.1 Bx.2.1 d_Mo_repetition_186 (by decide) ?_
                    refine lv_goto Bx.1 Bx.2.1 d_Mo_repetition_187 rfl ?_
                    refine lv_iadd Bx.1 Bx.2.1 d_Mo_repetition_191 ?_
                    rw [show nI (a + 1 + 1) + 1 = nI (a + 1 + 1 + 1) from nI_add (a + 1 + 1) (1)]
                    refine f_put Bx hP hD hS (by omega) hW683.1 rfl inMo tyMo okMo nmMo 16 (by decide) kw_672 rfl rfl rfl rfl (Nat.le_of_ble_eq_true rfl) d_Mo_repetition_192 (fun H locs hP hS => ?_)
                    obtain ⟨J698, eJ698⟩ : ∃ z, z = va_up J644 16 (nI (a + 1 + 1 + 1)) := ⟨_, rfl⟩
                    obtain ⟨mem699, e_mem699⟩ : ∃ z, z = va_up mem682 224 (moC ad J698) := ⟨_, rfl⟩
                    have hP : va_P D vcl (fw n ad mem699) H := by rw [e_mem699, eJ698]; exact hP
                    have hD : va_D (Az sz) (fw n ad mem699) := fw_D hD
                    have hW700 : MW cy ad J698 A681 nm m0 mem699 := by rw [e_mem699]; exact hW683.upJ (by rw [eJ698]; exact va_up_ne _ _ (by decide))
                    have kk701 : J698 1 = nI L := by rw [eJ698]; exact kk647
                    have kk702 : J698 24 = nI G := by rw [eJ698]; exact kk648
                    have kk703 : J698 17 = 0 := by rw [eJ698]; exact kk649
                    have kk704 : J698 14 = nI u := by rw [eJ698]; exact kk650
                    have kk705 : J698 4 = nI R := by rw [eJ698]; exact kk651
                    have kk706 : J698 18 = nI (f + 1) := by rw [eJ698]; exact kk652
                    have kk707 : J698 28 = 0 := by rw [eJ698]; exact kk653
                    have kk708 : J698 7 = nI (Ec + 1) := by rw [eJ698]; exact kk654
                    have kk709 : J698 16 = nI (a + 1 + 1 + 1) := by rw [eJ698, va_up_self]
                    have hno := hin5.note (A' := A681) (e := Ec) (u' := u) (Nat.le_refl _) (fun j q8 q9 q0 q1 q4 => by simp [eA619, eA636, eA681, va_up, q9, q0]) (fun i hi => by simp [eA619, eA636, eA681, va_up, upd, hi]) (Or.inl (by simp [eA619, eA636, eA681, va_up])) (by simp [eA619, eA636, eA681, va_up, hk5]) (fun z => absurd z (by simp [eA619, eA636, eA681, va_up, hk5]))
                    exact share9 mem699 (J698) (A681) (a + 1 + 1 + 1) _ _ _ (⟨⟨kk701, kk702, kk709, kk703, kk704, kk705, kk708, kk706⟩, kk707⟩) (hW700) (tT684) (hno) (⟨by omega, by omega, by omega⟩) hP hD hS (lv_sub hl [4, 3, 2, 1] rfl)
        · exact absurd hb505 (by decide)
set_option maxHeartbeats 4000000 in
set_option maxRecDepth 100000 in
theorem m_Mo_sequence (l : Launch) {D : va_G} {cy : Nat → ClassId} {sz n : Nat} {ad : Nat → Nat} {mem : Nat → va_E} {J : Nat → Int32} {A : Nat → Nat → Int32} {nm : Nat → Int64} {m0 : Nat → va_E} {L G a u R f : Nat} {T : Nat → Int32} {fc fs ft : Nat → Nat} {Ec : Nat} (hn : 242 ≤ n) (hM : MW cy ad J A nm m0 mem) (hNm : Num L G a u R Ec f J) (hBd : L ≤ 240 ∧ a ≤ L ∧ u ≤ a ∧ R ≤ 12 ∧ f ≤ 6) (hEb : Ec ≤ 100) (hT : A 225 = T) (hp : J 28 = 0) (hI : Inv R Ec u f False fc fs ft A (fun _ => False)) (h39 : A 239 f = -1) : MV l D cy sz n ad y_Mo_sequence c_Mo_sequence 2 ({ frames := 7, cells := 0, slots := 0, locals := 205 } : Room) mem [.ref (ad 224)] (fun mem' => ∃ J' A' nm', MW cy ad J' A' nm' m0 mem' ∧ Res L G T a J' A') := by
  refine Met.ofW (cc := c_Mo_sequence) (maxL := 2) (ret := none) (by decide) rfl ?_
  intro p e s m args below meth c s₁ B hml hv
  obtain ⟨rfl, E, hP, hD⟩ := hv
  have hx := B.exec
  have hb := B.bytes
  have hr := B.returns
  have hlocks := B.notSynchronized
  have Bx : MB p s m [.ref (ad 224)].toArray c c_Mo_sequence "AbnfChartModel" D cy := ⟨hx, hb, tb_all (atoms_spec B.pre) E.2.1, findClass_of_methodNamed B.named, E.1⟩
  have hS : va_S (Az sz) s.heap s.heap [] := va_S.rf
  have hl := lv_entry ([.ref (ad 224)]) (n := 2) (Nat.le_of_ble_eq_true rfl)
  rw [lg_entry_eq]
  generalize (lg_sl ([.ref (ad 224)]) ++ List.replicate (2 - (lg_sl ([.ref (ad 224)])).length) Slot.unset).toArray = ls at hl ⊢
  have hl : lv_has ls 2 [(0, .ref (ad 224))] := hl
  obtain ⟨hL, haL, huA, hRb, hfb⟩ := hBd
  obtain ⟨g1, g2, g3, g4, g5, g6, g7, g8⟩ := hNm
  have hfg := hI.2.2.2.2 f (Nat.le_refl _)
  have hrr0 := hfg.rep
  have hfc := hfg.1.2.2
  refine lv_aload_n Bx.1 Bx.2.1 d_Mo_sequence_0 rfl (lv_at hl 0 rfl) ?_
  refine f_callVi (na := 0) (As := []) (rest := []) Bx hml E hP hD hS (by omega) hM.1 rfl (m_Mo_here l hn hM g1 hL g3 (by omega)) kw_778 kw_780 sel_Mo_here kw_8 kw_781 (by decide +kernel) ⟨rfl, rfl⟩ ⟨Nat.le_of_ble_eq_true rfl, Nat.le_of_ble_eq_true rfl⟩ rfl hl.1 (Nat.le_of_ble_eq_true rfl) d_Mo_sequence_1 ⟨Nat.le_of_ble_eq_true rfl, Nat.le_of_ble_eq_true rfl⟩ (fun r9 mem10 H locs hq hP hS => ?_)
  have hD : va_D (Az sz) (fw n ad mem10) := fw_D hD
  obtain ⟨hre, hq⟩ := hq
  rw [hq] at hP hD
  subst hre
  rw [show hereF L (A 225) (a) = hereF L T (a) by rw [hT]]
  refine f_callSi (na := 1) (As := [.int (hereF L T (a))]) (rest := []) Bx hml E.2.1 (m_Mo_begins l (hereF L T (a))) kw_811 kw_812 kw_8 kw_813 (by decide +kernel) ⟨rfl, rfl⟩ ⟨Nat.le_of_ble_eq_true rfl, Nat.le_of_ble_eq_true rfl⟩ rfl hl.1 (Nat.le_of_ble_eq_true rfl) d_Mo_sequence_4 ⟨Nat.le_of_ble_eq_true rfl, Nat.le_of_ble_eq_true rfl⟩ (fun r12 hs11 => ?_)
  refine lv_if_ne Bx.1 Bx.2.1 d_Mo_sequence_7 rfl (fun hb13 => ?_) (fun hb13 => ?_)
  · refine lv_aload_n Bx.1 Bx.2.1 d_Mo_sequence_20 rfl (lv_at hl 0 rfl) ?_
    refine f_get Bx hP (by omega) hM.1 rfl inMo 18 (by decide) kw_674 rfl rfl d_Mo_sequence_21 ?_
    rw [g8]
    refine lv_iconst (v := 1) Bx.1 Bx.2.1 d_Mo_sequence_24 (by decide) ?_
    refine lv_isub Bx.1 Bx.2.1 d_Mo_sequence_25 ?_
    rw [show nI (f + 1) - 1 = nI (f) from nI_pred (f)]
    refine lv_istore_n (lv' := [(1, .int (nI (f))), (0, .ref (ad 224))]) Bx.1 Bx.2.1 d_Mo_sequence_26 rfl hl (by decide) rfl (fun ls hl => ?_)
    refine lv_aload_n Bx.1 Bx.2.1 d_Mo_sequence_27 rfl (lv_at hl 1 rfl) ?_
    refine f_get Bx hP (by omega) hM.1 rfl inMo 22 (by decide) kw_678 rfl rfl d_Mo_sequence_28 ?_
    refine lv_iload_n Bx.1 Bx.2.1 d_Mo_sequence_31 rfl (lv_at hl 0 rfl) ?_
    refine lv_aload_n Bx.1 Bx.2.1 d_Mo_sequence_32 rfl (lv_at hl 1 rfl) ?_
    refine lv_iconst (v := 1) Bx.1 Bx.2.1 d_Mo_sequence_33 (by decide) ?_
    refine lv_aload_n Bx.1 Bx.2.1 d_Mo_sequence_34 rfl (lv_at hl 1 rfl) ?_
    refine f_get Bx hP (by omega) hM.1 rfl inMo 16 (by decide) kw_672 rfl rfl d_Mo_sequence_35 ?_
    rw [g3]
    refine f_callVi (na := 2) (As := [.int (1), .int (nI a)]) (rest := [.int (nI (f)), .ref (ad 238)]) Bx hml E hP hD hS (by omega) hM.1 rfl (m_Mo_element l hn hM (Or.inl g4) g7 (by omega)) kw_814 kw_816 sel_Mo_element kw_8 kw_817 (by decide +kernel) ⟨rfl, rfl⟩ ⟨Nat.le_of_ble_eq_true rfl, Nat.le_of_ble_eq_true rfl⟩ rfl hl.1 (Nat.le_of_ble_eq_true rfl) d_Mo_sequence_38 ⟨Nat.le_of_ble_eq_true rfl, Nat.le_of_ble_eq_true rfl⟩ (fun r14 mem15 H locs hq hP hS => ?_)
    have hD : va_D (Az sz) (fw n ad mem15) := fw_D hD
    rcases hq with ⟨hre23, J16, hW17, hwr18⟩ | ⟨hEl19, hre24, hW22⟩
    · subst hre23
      have kk25 : J16 1 = nI L := (show J16 1 = J 1 from hwr18.2 1 (by decide) (by decide)).trans g1
      have kk26 : J16 24 = nI G := (show J16 24 = J 24 from hwr18.2 24 (by decide) (by decide)).trans g2
      have kk27 : J16 16 = nI a := (show J16 16 = J 16 from hwr18.2 16 (by decide) (by decide)).trans g3
      have kk28 : J16 14 = nI u := (show J16 14 = J 14 from hwr18.2 14 (by decide) (by decide)).trans g5
      have kk29 : J16 4 = nI R := (show J16 4 = J 4 from hwr18.2 4 (by decide) (by decide)).trans g6
      have kk30 : J16 7 = nI Ec := (show J16 7 = J 7 from hwr18.2 7 (by decide) (by decide)).trans g7
      have kk31 : J16 18 = nI (f + 1) := (show J16 18 = J 18 from hwr18.2 18 (by decide) (by decide)).trans g8
      have kk32 : J16 28 = 0 := (show J16 28 = J 28 from hwr18.2 28 (by decide) (by decide)).trans hp
      refine f_iast (x := 0) (i := nI (f)) Bx hP hD hS (by omega) (show mem15 238 = .inl (cy 1, 8, .inl (A 238)) from hW17.2.2.1 238 (by decide) (by decide) (by decide)) (vp_in_nI (n := f) (by omega) (by decide)) d_Mo_sequence_41 (fun H locs hP hS => ?_)
      rw [nI_clamp (n := f) (by omega)] at hP
      obtain ⟨A33, eA33⟩ : ∃ z, z = va_up A 238 (upd (A 238) (f) (0)) := ⟨_, rfl⟩
      obtain ⟨mem34, e_mem34⟩ : ∃ z, z = va_up mem15 238 (.inl (cy 1, 8, .inl (upd (A 238) (f) (0)))) := ⟨_, rfl⟩
      have hP : va_P D vcl (fw n ad mem34) H := by rw [e_mem34]; exact hP
      have hD : va_D (Az sz) (fw n ad mem34) := fw_D hD
      have hW35 : MW cy ad J16 A33 nm m0 mem34 := by rw [e_mem34, eA33]; exact hW17.upA (j := 238) (by decide) (by decide) (by decide) (Or.inl (by decide))
      have tT36 : A33 225 = T := by rw [eA33]; exact hT
      refine lv_aload_n Bx.1 Bx.2.1 d_Mo_sequence_42 rfl (lv_at hl 1 rfl) ?_
      refine f_get Bx hP (by omega) hW35.1 rfl inMo 17 (by decide) kw_673 rfl rfl d_Mo_sequence_43 ?_
      refine lv_if_ne Bx.1 Bx.2.1 d_Mo_sequence_46 rfl (fun hb37 => ?_) (fun hb37 => ?_)
      · refine lv_aload_n Bx.1 Bx.2.1 d_Mo_sequence_65 rfl (lv_at hl 1 rfl) ?_
        refine f_get Bx hP (by omega) hW35.1 rfl inMo 17 (by decide) kw_673 rfl rfl d_Mo_sequence_66 ?_
        refine lv_if_ne Bx.1 Bx.2.1 d_Mo_sequence_69 rfl (fun hb38 => ?_) (fun hb38 => ?_)
        · exact W.vret hx hb hr (fun t ht hW => ⟨⟨mem34, rfl, ⟨J16, A33, nm, hW35, Or.inl ⟨kk25, kk26, tT36, hwr18.1, _, by omega, kk27⟩⟩, by show va_P _ _ _ t.heap; rw [ht]; exact hP⟩, hS.F ht⟩) hS.2.2 d_Mo_sequence_76
        · exact absurd hb38 hwr18.1.ne
      · exact absurd hb37 hwr18.1.ne
    · subst hre24
      obtain ⟨J20, eJ20⟩ : ∃ z, z = va_up J 7 (nI (Ec + 1)) := ⟨_, rfl⟩
      obtain ⟨A21, eA21⟩ : ∃ z, z = elA A (Ec) 1 := ⟨_, rfl⟩
      rw [← eJ20, ← eA21] at hW22
      have kk39 : J20 1 = nI L := (show J20 1 = J 1 from by rw [eJ20]; rfl).trans g1
      have kk40 : J20 24 = nI G := (show J20 24 = J 24 from by rw [eJ20]; rfl).trans g2
      have kk41 : J20 16 = nI a := (show J20 16 = J 16 from by rw [eJ20]; rfl).trans g3
      have kk42 : J20 17 = 0 := (show J20 17 = J 17 from by rw [eJ20]; rfl).trans g4
      have kk43 : J20 14 = nI u := (show J20 14 = J 14 from by rw [eJ20]; rfl).trans g5
      have kk44 : J20 4 = nI R := (show J20 4 = J 4 from by rw [eJ20]; rfl).trans g6
      have kk45 : J20 18 = nI (f + 1) := (show J20 18 = J 18 from by rw [eJ20]; rfl).trans g8
      have kk46 : J20 28 = 0 := (show J20 28 = J 28 from by rw [eJ20]; rfl).trans hp
      have kk47 : J20 7 = nI (Ec + 1) := by rw [eJ20, va_up_self]
      have tT48 : A21 225 = T := by rw [eA21]; exact hT
      refine f_iast (x := nI Ec) (i := nI (f)) Bx hP hD hS (by omega) (show mem15 238 = .inl (cy 1, 8, .inl (A21 238)) from hW22.2.2.1 238 (by decide) (by decide) (by decide)) (vp_in_nI (n := f) (by omega) (by decide)) d_Mo_sequence_41 (fun H locs hP hS => ?_)
      rw [nI_clamp (n := f) (by omega)] at hP
      obtain ⟨A49, eA49⟩ : ∃ z, z = va_up A21 238 (upd (A21 238) (f) (nI Ec)) := ⟨_, rfl⟩
      obtain ⟨mem50, e_mem50⟩ : ∃ z, z = va_up mem15 238 (.inl (cy 1, 8, .inl (upd (A21 238) (f) (nI Ec)))) := ⟨_, rfl⟩
      have hP : va_P D vcl (fw n ad mem50) H := by rw [e_mem50]; exact hP
      have hD : va_D (Az sz) (fw n ad mem50) := fw_D hD
      have hW51 : MW cy ad J20 A49 nm m0 mem50 := by rw [e_mem50, eA49]; exact hW22.upA (j := 238) (by decide) (by decide) (by decide) (Or.inl (by decide))
      have tT52 : A49 225 = T := by rw [eA49]; exact tT48
      refine lv_aload_n Bx.1 Bx.2.1 d_Mo_sequence_42 rfl (lv_at hl 1 rfl) ?_
      refine f_get Bx hP (by omega) hW51.1 rfl inMo 17 (by decide) kw_673 rfl rfl d_Mo_sequence_43 ?_
      rw [kk42]
      refine lv_if_ne Bx.1 Bx.2.1 d_Mo_sequence_46 rfl (fun hb53 => ?_) (fun hb53 => ?_)
      · exact absurd hb53 (by decide)
      · refine lv_aload_n Bx.1 Bx.2.1 d_Mo_sequence_49 rfl (lv_at hl 1 rfl) ?_
        refine lv_aload_n Bx.1 Bx.2.1 d_Mo_sequence_50 rfl (lv_at hl 1 rfl) ?_
        refine f_get Bx hP (by omega) hW51.1 rfl inMo 21 (by decide) kw_677 rfl rfl d_Mo_sequence_51 ?_
        refine lv_iload_n Bx.1 Bx.2.1 d_Mo_sequence_54 rfl (lv_at hl 0 rfl) ?_
        refine f_iald Bx hP (by omega) (show mem50 237 = .inl (cy 1, 8, .inl (A49 237)) from hW51.2.2.1 237 (by decide) (by decide) (by decide)) (vp_in_nI (n := f) (by omega) (by decide)) d_Mo_sequence_55 ?_
        rw [nI_clamp (n := f) (by omega)]
        rw [show A49 237 (f) = nI (fc f) by simp [eA21, eA49, elA, va_up]; exact hfg.1.1]
        refine lv_aload_n Bx.1 Bx.2.1 d_Mo_sequence_56 rfl (lv_at hl 1 rfl) ?_
        refine f_get Bx hP (by omega) hW51.1 rfl inMo 22 (by decide) kw_678 rfl rfl d_Mo_sequence_57 ?_
        refine lv_iload_n Bx.1 Bx.2.1 d_Mo_sequence_60 rfl (lv_at hl 0 rfl) ?_
        refine f_iald Bx hP (by omega) (show mem50 238 = .inl (cy 1, 8, .inl (A49 238)) from hW51.2.2.1 238 (by decide) (by decide) (by decide)) (vp_in_nI (n := f) (by omega) (by decide)) d_Mo_sequence_61 ?_
        rw [nI_clamp (n := f) (by omega)]
        have h238 : A49 238 (f) = nI Ec := by simp [eA21, eA49, elA, va_up, upd]
        rw [h238]
        have hkd9 : A21 228 Ec = 1 := by simp [eA21, elA, va_up, upd]
        obtain ⟨hx3, hc3⟩ := hI.ext (A' := A21) ⟨fun j h1 h2 h3 k hk => by
            have hj : j = 228 ∨ j = 229 ∨ j = 230 ∨ j = 232 ∨ j = 233 := by omega
            rcases hj with rfl | rfl | rfl | rfl | rfl <;> simp [eA21, elA, va_up, upd, Nat.ne_of_lt hk], by simp [eA21, elA, va_up], fun j h1 h2 => by
            have hj : j = 235 ∨ j = 236 ∨ j = 237 ∨ j = 238 ∨ j = 239 := by omega
            rcases hj with rfl | rfl | rfl | rfl | rfl <;> simp [eA21, elA, va_up], by simp [eA21, elA, va_up, upd], by simp [eA21, elA, va_up, upd]⟩ (Nat.le_refl u) (fun z => absurd (hkd9.symm.trans z) (by decide)) (fun z => absurd (hkd9.symm.trans z) (by decide)) (fun k z => z.elim)
        have hx4 : Inv R (Ec + 1) u f False fc fs ft A49 (fun _ => False) := by
          rw [eA49]
          exact (hx3.wk (X' := fun _ => False) (fun k z => z.elim id (fun y => absurd (y.2) (by rw [hkd9]; decide)))).set8
        have hc4 : CL Ec A49 := fun i hi => by rw [eA49]; exact hc3 i hi
        have h94 : A49 239 f = -1 := by rw [eA49, eA21]; exact h39
        refine f_callVv (na := 2) (As := [.int (nI (fc f)), .int (nI Ec)]) (rest := []) Bx hml E hP hD hS (by omega) hW51.1 rfl (m_Mo_append l hn hW51 (show Ec + 1 ≤ 100 by omega) (show fc f < Ec by omega) (Nat.lt_succ_self Ec) hx4.1 hc4) kw_822 kw_824 sel_Mo_append kw_8 kw_825 (by decide +kernel) ⟨rfl, rfl⟩ ⟨Nat.le_of_ble_eq_true rfl, Nat.le_of_ble_eq_true rfl⟩ rfl hl.1 (Nat.le_of_ble_eq_true rfl) d_Mo_sequence_62 ⟨Nat.le_of_ble_eq_true rfl, Nat.le_of_ble_eq_true rfl⟩ (fun mem55 H locs hq hP hS => ?_)
        have hD : va_D (Az sz) (fw n ad mem55) := fw_D hD
        obtain ⟨A56, hW57, hap58⟩ := hq
        have tT59 : A56 225 = T := by
          obtain ⟨_, _, _, k3, _⟩ := hap58.at
          rw [k3 225 (by decide) (by decide)]; exact tT52
        obtain ⟨hx5, h95⟩ := hx4.seq (by omega) h238 h94 (by omega) hap58
        refine lv_aload_n Bx.1 Bx.2.1 d_Mo_sequence_65 rfl (lv_at hl 1 rfl) ?_
        refine f_get Bx hP (by omega) hW57.1 rfl inMo 17 (by decide) kw_673 rfl rfl d_Mo_sequence_66 ?_
        rw [kk42]
        refine lv_if_ne Bx.1 Bx.2.1 d_Mo_sequence_69 rfl (fun hb60 => ?_) (fun hb60 => ?_)
        · exact absurd hb60 (by decide)
        · refine lv_aload_n Bx.1 Bx.2.1 d_Mo_sequence_72 rfl (lv_at hl 1 rfl) ?_
          refine f_callVv (na := 0) (As := []) (rest := []) Bx hml E hP hD hS (by omega) hW57.1 rfl (m_Mo_repetition l hn hW57 ⟨kk39, kk40, kk41, kk42, kk43, kk44, kk47, kk45⟩ ⟨hL, by omega, by omega, by omega, by omega⟩ (by omega) tT59 kk46 hx5 h95) kw_826 kw_828 sel_Mo_repetition kw_8 kw_829 (by decide +kernel) ⟨rfl, rfl⟩ ⟨Nat.le_of_ble_eq_true rfl, Nat.le_of_ble_eq_true rfl⟩ rfl hl.1 (Nat.le_of_ble_eq_true rfl) d_Mo_sequence_73 ⟨Nat.le_of_ble_eq_true rfl, Nat.le_of_ble_eq_true rfl⟩ (fun mem62 H locs hq hP hS => ?_)
          have hD : va_D (Az sz) (fw n ad mem62) := fw_D hD
          obtain ⟨J63, A64, nn65, hW66, hres67⟩ := hq
          exact W.vret hx hb hr (fun t ht hW => ⟨⟨mem62, rfl, ⟨J63, A64, nn65, hW66, hres67.mono (by omega)⟩, by show va_P _ _ _ t.heap; rw [ht]; exact hP⟩, hS.F ht⟩) hS.2.2 d_Mo_sequence_76
  · refine lv_aload_n Bx.1 Bx.2.1 d_Mo_sequence_10 rfl (lv_at hl 0 rfl) ?_
    refine lv_iconst (v := 1) Bx.1 Bx.2.1 d_Mo_sequence_11 (by decide) ?_
    refine lv_aload_n Bx.1 Bx.2.1 d_Mo_sequence_12 rfl (lv_at hl 0 rfl) ?_
    refine f_get Bx hP (by omega) hM.1 rfl inMo 16 (by decide) kw_672 rfl rfl d_Mo_sequence_13 ?_
    rw [g3]
    refine f_callVv (na := 2) (As := [.int (1), .int (nI a)]) (rest := []) Bx hml E hP hD hS (by omega) hM.1 rfl (m_Mo_wrong l hn hM (Or.inl g4) (by first | exact Or.inl rfl | exact Or.inr rfl)) kw_799 kw_801 sel_Mo_wrong kw_8 kw_802 (by decide +kernel) ⟨rfl, rfl⟩ ⟨Nat.le_of_ble_eq_true rfl, Nat.le_of_ble_eq_true rfl⟩ rfl hl.1 (Nat.le_of_ble_eq_true rfl) d_Mo_sequence_16 ⟨Nat.le_of_ble_eq_true rfl, Nat.le_of_ble_eq_true rfl⟩ (fun mem69 H locs hq hP hS => ?_)
    have hD : va_D (Az sz) (fw n ad mem69) := fw_D hD
    obtain ⟨J70, hW71, hwr72⟩ := hq
    have kk73 : J70 1 = nI L := (show J70 1 = J 1 from hwr72.2 1 (by decide) (by decide)).trans g1
    have kk74 : J70 24 = nI G := (show J70 24 = J 24 from hwr72.2 24 (by decide) (by decide)).trans g2
    have kk75 : J70 16 = nI a := (show J70 16 = J 16 from hwr72.2 16 (by decide) (by decide)).trans g3
    have kk76 : J70 14 = nI u := (show J70 14 = J 14 from hwr72.2 14 (by decide) (by decide)).trans g5
    have kk77 : J70 4 = nI R := (show J70 4 = J 4 from hwr72.2 4 (by decide) (by decide)).trans g6
    have kk78 : J70 7 = nI Ec := (show J70 7 = J 7 from hwr72.2 7 (by decide) (by decide)).trans g7
    have kk79 : J70 18 = nI (f + 1) := (show J70 18 = J 18 from hwr72.2 18 (by decide) (by decide)).trans g8
    have kk80 : J70 28 = 0 := (show J70 28 = J 28 from hwr72.2 28 (by decide) (by decide)).trans hp
    exact W.vret hx hb hr (fun t ht hW => ⟨⟨mem69, rfl, ⟨J70, A, nm, hW71, Or.inl ⟨kk73, kk74, hT, hwr72.1, _, by omega, kk75⟩⟩, by show va_P _ _ _ t.heap; rw [ht]; exact hP⟩, hS.F ht⟩) hS.2.2 d_Mo_sequence_19
