theorem go_sl {T : Nat → Int32} {L a u R E f : Nat} {A : Ro} {nm : Nat → Int64} (h : hereF L T (gapF T L a) = 47) : goS T L a u R E f A nm = (seqS T L (gapF T L (gapF T L a + 1)) u R E f A nm).map (fun z => (true, z)) := by
  unfold goS
  simp only []
  rw [if_pos h]
theorem go_c1 {T : Nat → Int32} {L a u R E f : Nat} {A : Ro} {nm : Nat → Int64} {f1 e : Nat} (h : hereF L T (gapF T L a) = 41) (hs : A 235 f = 1) (hf : f = f1 + 1) (he : A 237 f = nI e) (hb : e < 2 ^ 31) : goS T L a u R E f A nm = some (true, gapF T L a + 1, u, R, E, f1, plcS A f1 e, nm, false) := by
  unfold goS
  simp only []
  rw [if_neg (by rw [h]; decide), if_pos (Or.inl ⟨h, hs⟩), if_pos hs, if_neg (by rw [hs]; decide), he, nI_clamp hb, show f - 1 = f1 by omega]
theorem go_c2 {T : Nat → Int32} {L a u R E f : Nat} {A : Ro} {nm : Nat → Int64} {f1 e c : Nat} (h : hereF L T (gapF T L a) = 93) (hs : A 235 f = 2) (hf : f = f1 + 1) (he : A 236 f = nI e) (hb : e < 2 ^ 31) (hc : A 237 f = nI c) (hd : c < 2 ^ 31) : goS T L a u R E f A nm = some (true, gapF T L a + 1, u, R, E, f1, plcS (appS A e c) f1 e, nm, false) := by
  unfold goS
  simp only []
  rw [if_neg (by rw [h]; decide), if_pos (Or.inr ⟨h, hs⟩), if_neg (show ¬ A 235 f = 1 by rw [hs]; decide), if_pos hs, he, nI_clamp hb, hc, nI_clamp hd, show f - 1 = f1 by omega]
theorem go_re {T : Nat → Int32} {L a u R E f : Nat} {A : Ro} {nm : Nat → Int64} (h47 : ¬ hereF L T (gapF T L a) = 47) (hc1 : ¬ hereF L T (gapF T L a) = 41 ∨ ¬ A 235 f = 1) (hc2 : ¬ hereF L T (gapF T L a) = 93 ∨ ¬ A 235 f = 2) (hb : bgF (hereF L T (gapF T L a)) = true) (ha : a < gapF T L a) : goS T L a u R E f A nm = (repS T L (gapF T L a) u R E f A nm).map (fun z => (true, z)) := by
  unfold goS
  simp only []
  rw [if_neg h47, if_neg (fun z => z.elim (fun y => hc1.elim (fun x => x y.1) (fun x => x y.2)) (fun y => hc2.elim (fun x => x y.1) (fun x => x y.2))), if_pos ⟨hb, ha⟩]
theorem go_end {T : Nat → Int32} {L a u R E f : Nat} {A : Ro} {nm : Nat → Int64} (h47 : ¬ hereF L T (gapF T L a) = 47) (hc1 : ¬ hereF L T (gapF T L a) = 41 ∨ ¬ A 235 f = 1) (hc2 : ¬ hereF L T (gapF T L a) = 93 ∨ ¬ A 235 f = 2) (hb : bgF (hereF L T (gapF T L a)) = false ∨ gapF T L a ≤ a) (hs : A 235 f = 0) (he : hereF L T (gapF T L a) = 10 ∨ hereF L T (gapF T L a) < 0) : goS T L a u R E f A nm = some (false, gapF T L a, u, R, E, f, A, nm, false) := by
  unfold goS
  simp only []
  rw [if_neg h47, if_neg (fun z => z.elim (fun y => hc1.elim (fun x => x y.1) (fun x => x y.2)) (fun y => hc2.elim (fun x => x y.1) (fun x => x y.2))), if_neg (fun z => hb.elim (fun y => by rw [y] at z; exact absurd z.1 (by decide)) (fun y => by omega)), if_pos ⟨hs, he⟩]
theorem go_bad {T : Nat → Int32} {L a u R E f : Nat} {A : Ro} {nm : Nat → Int64} (h47 : ¬ hereF L T (gapF T L a) = 47) (hc1 : ¬ hereF L T (gapF T L a) = 41 ∨ ¬ A 235 f = 1) (hc2 : ¬ hereF L T (gapF T L a) = 93 ∨ ¬ A 235 f = 2) (hb : bgF (hereF L T (gapF T L a)) = false ∨ gapF T L a ≤ a) (he : ¬ A 235 f = 0 ∨ (¬ hereF L T (gapF T L a) = 10 ∧ ¬ hereF L T (gapF T L a) < 0)) : goS T L a u R E f A nm = none := by
  unfold goS
  simp only []
  rw [if_neg h47, if_neg (fun z => z.elim (fun y => hc1.elim (fun x => x y.1) (fun x => x y.2)) (fun y => hc2.elim (fun x => x y.1) (fun x => x y.2))), if_neg (fun z => hb.elim (fun y => by rw [y] at z; exact absurd z.1 (by decide)) (fun y => by omega)), if_neg (fun z => he.elim (fun y => y z.1) (fun y => z.2.elim y.1 y.2))]
def FinN (L G : Nat) (T : Nat → Int32) (a u R E : Nat) (J : Nat → Int32) (A : Ro) : Prop := (J 1 = nI L ∧ J 24 = nI G ∧ J 16 = nI a ∧ J 17 = 0 ∧ J 14 = nI u ∧ J 4 = nI R ∧ J 7 = nI E) ∧ (L ≤ 240 ∧ a ≤ L ∧ u ≤ a ∧ R ≤ 12 ∧ E ≤ 100) ∧ A 225 = T ∧ Gd R E u A
set_option maxHeartbeats 4000000 in
set_option maxRecDepth 100000 in
theorem m_Mo_goesOnX (l : Launch) {D : va_G} {cy : Nat → ClassId} {sz n : Nat} {ad : Nat → Nat} {mem : Nat → va_E} {J : Nat → Int32} {A : Nat → Nat → Int32} {nm : Nat → Int64} {m0 : Nat → va_E} {L G a u R f : Nat} {T : Nat → Int32} {fc fs ft : Nat → Nat} {Ec : Nat} (hn : 242 ≤ n) (hM : MW cy ad J A nm m0 mem) (hNm : Num L G a u R Ec f J) (hBd : L ≤ 240 ∧ a ≤ L ∧ u ≤ a ∧ R ≤ 12 ∧ f ≤ 6) (hEb : Ec ≤ 100) (hT : A 225 = T) (hp : J 28 = 0) (hI : Inv R Ec u f True fc fs ft A (fun _ => False)) (h39 : A 239 f = -1) : MI l D cy sz n ad y_Mo_goesOn c_Mo_goesOn 5 (some .boolean) ({ frames := 8, cells := 0, slots := 0, locals := 230 } : Room) mem [.ref (ad 224)] (fun r mem' => ∃ J' A' nm', MW cy ad J' A' nm' m0 mem' ∧ ((r = 1 ∧ ∃ o, goS T L a u R Ec f A nm = o.map (fun z => (true, z)) ∧ Res9 L G T a J' A' nm' o) ∨ (r = 0 ∧ ∃ a', a ≤ a' ∧ goS T L a u R Ec f A nm = some (false, a', u, R, Ec, f, A', nm', false) ∧ FinN L G T a' u R Ec J' A'))) := by
  refine Met.ofW (cc := c_Mo_goesOn) (maxL := 5) (ret := (some .boolean)) (by decide) rfl ?_
  intro p e s m args below meth c s₁ B hml hv
  obtain ⟨rfl, E, hP, hD⟩ := hv
  have hx := B.exec
  have hb := B.bytes
  have hr := B.returns
  have hlocks := B.notSynchronized
  have Bx : MB p s m [.ref (ad 224)].toArray c c_Mo_goesOn "AbnfChartModel" D cy := ⟨hx, hb, tb_all (atoms_spec B.pre) E.2.1, findClass_of_methodNamed B.named, E.1⟩
  have hS : va_S (Az sz) s.heap s.heap [] := va_S.rf
  have hl := lv_entry ([.ref (ad 224)]) (n := 5) (Nat.le_of_ble_eq_true rfl)
  rw [lg_entry_eq]
  generalize (lg_sl ([.ref (ad 224)]) ++ List.replicate (5 - (lg_sl ([.ref (ad 224)])).length) Slot.unset).toArray = ls at hl ⊢
  have hl : lv_has ls 5 [(0, .ref (ad 224))] := hl
  obtain ⟨hL, haL, huA, hRb, hfb⟩ := hBd
  obtain ⟨g1, g2, g3, g4, g5, g6, g7, g8⟩ := hNm
  have hfg := hI.2.2.2.2 f (Nat.le_refl _)
  have hfs := hfg.2.2.2.1 (Or.inr trivial)
  refine lv_aload_n Bx.1 Bx.2.1 d_Mo_goesOn_0 rfl (lv_at hl 0 rfl) ?_
  refine f_get Bx hP (by omega) hM.1 rfl inMo 16 (by decide) kw_672 rfl rfl d_Mo_goesOn_1 ?_
  rw [g3]
  refine lv_istore_n (lv' := [(1, .int (nI a)), (0, .ref (ad 224))]) Bx.1 Bx.2.1 d_Mo_goesOn_4 rfl hl (by decide) rfl (fun ls hl => ?_)
  refine lv_aload_n Bx.1 Bx.2.1 d_Mo_goesOn_5 rfl (lv_at hl 1 rfl) ?_
  refine f_callVv (na := 0) (As := []) (rest := []) Bx hml E hP hD hS (by omega) hM.1 rfl (m_Mo_gapX l hn hM g1 hL g3 (by omega)) kw_803 kw_805 sel_Mo_gap kw_8 kw_806 (by decide +kernel) ⟨rfl, rfl⟩ ⟨Nat.le_of_ble_eq_true rfl, Nat.le_of_ble_eq_true rfl⟩ rfl hl.1 (Nat.le_of_ble_eq_true rfl) d_Mo_goesOn_6 ⟨Nat.le_of_ble_eq_true rfl, Nat.le_of_ble_eq_true rfl⟩ (fun mem10 H locs hq hP hS => ?_)
  have hD : va_D (Az sz) (fw n ad mem10) := fw_D hD
  rw [hT] at hq
  obtain ⟨a11, ea16⟩ : ∃ z, z = gapF T L (a) := ⟨_, rfl⟩
  have hg12 : a ≤ a11 := by rw [ea16]; exact gapF_ge T L _
  have hg13 : a11 ≤ L := by rw [ea16]; exact gapF_le T (by omega)
  rw [← ea16] at hq
  obtain ⟨J15, eJ15⟩ : ∃ z, z = va_up J 16 (nI a11) := ⟨_, rfl⟩
  rw [← eJ15] at hq
  have hW14 := hq
  have kk17 : J15 1 = nI L := (show J15 1 = J 1 from by rw [eJ15]; rfl).trans g1
  have kk18 : J15 24 = nI G := (show J15 24 = J 24 from by rw [eJ15]; rfl).trans g2
  have kk19 : J15 17 = 0 := (show J15 17 = J 17 from by rw [eJ15]; rfl).trans g4
  have kk20 : J15 14 = nI u := (show J15 14 = J 14 from by rw [eJ15]; rfl).trans g5
  have kk21 : J15 4 = nI R := (show J15 4 = J 4 from by rw [eJ15]; rfl).trans g6
  have kk22 : J15 7 = nI Ec := (show J15 7 = J 7 from by rw [eJ15]; rfl).trans g7
  have kk23 : J15 18 = nI (f + 1) := (show J15 18 = J 18 from by rw [eJ15]; rfl).trans g8
  have kk24 : J15 28 = 0 := (show J15 28 = J 28 from by rw [eJ15]; rfl).trans hp
  have kk25 : J15 16 = nI a11 := by rw [eJ15, va_up_self]
  refine lv_aload_n Bx.1 Bx.2.1 d_Mo_goesOn_9 rfl (lv_at hl 1 rfl) ?_
  refine f_callVi (na := 0) (As := []) (rest := []) Bx hml E hP hD hS (by omega) hW14.1 rfl (m_Mo_here l hn hW14 kk17 hL kk25 (by omega)) kw_778 kw_780 sel_Mo_here kw_8 kw_781 (by decide +kernel) ⟨rfl, rfl⟩ ⟨Nat.le_of_ble_eq_true rfl, Nat.le_of_ble_eq_true rfl⟩ rfl hl.1 (Nat.le_of_ble_eq_true rfl) d_Mo_goesOn_10 ⟨Nat.le_of_ble_eq_true rfl, Nat.le_of_ble_eq_true rfl⟩ (fun r26 mem27 H locs hq hP hS => ?_)
  have hD : va_D (Az sz) (fw n ad mem27) := fw_D hD
  obtain ⟨hre, hq⟩ := hq
  rw [hq] at hP hD
  subst hre
  rw [show hereF L (A 225) (a11) = hereF L T (a11) by rw [hT]]
  refine lv_istore_n (lv' := [(2, .int (hereF L T (a11))), (1, .int (nI a)), (0, .ref (ad 224))]) Bx.1 Bx.2.1 d_Mo_goesOn_13 rfl hl (by decide) rfl (fun ls hl => ?_)
  refine lv_aload_n Bx.1 Bx.2.1 d_Mo_goesOn_14 rfl (lv_at hl 2 rfl) ?_
  refine f_get Bx hP (by omega) hW14.1 rfl inMo 18 (by decide) kw_674 rfl rfl d_Mo_goesOn_15 ?_
  rw [kk23]
  refine lv_iconst (v := 1) Bx.1 Bx.2.1 d_Mo_goesOn_18 (by decide) ?_
  refine lv_isub Bx.1 Bx.2.1 d_Mo_goesOn_19 ?_
  rw [show nI (f + 1) - 1 = nI (f) from nI_pred (f)]
  refine lv_istore_n (lv' := [(3, .int (nI (f))), (2, .int (hereF L T (a11))), (1, .int (nI a)), (0, .ref (ad 224))]) Bx.1 Bx.2.1 d_Mo_goesOn_20 rfl hl (by decide) rfl (fun ls hl => ?_)
  refine lv_iload_n Bx.1 Bx.2.1 d_Mo_goesOn_21 rfl (lv_at hl 1 rfl) ?_
  refine lv_bipush (v := 47) Bx.1 Bx.2.1 d_Mo_goesOn_22 (by decide) ?_
  refine lv_icmp_ne Bx.1 Bx.2.1 d_Mo_goesOn_24 rfl (fun hb28 => ?_) (fun hb28 => ?_)
  · refine lv_iload_n Bx.1 Bx.2.1 d_Mo_goesOn_48 rfl (lv_at hl 1 rfl) ?_
    refine lv_bipush (v := 41) Bx.1 Bx.2.1 d_Mo_goesOn_49 (by decide) ?_
    refine lv_icmp_ne Bx.1 Bx.2.1 d_Mo_goesOn_51 rfl (fun hb29 => ?_) (fun hb29 => ?_)
    · refine lv_iload_n Bx.1 Bx.2.1 d_Mo_goesOn_64 rfl (lv_at hl 1 rfl) ?_
      refine lv_bipush (v := 93) Bx.1 Bx.2.1 d_Mo_goesOn_65 (by decide) ?_
      refine lv_icmp_ne Bx.1 Bx.2.1 d_Mo_goesOn_67 rfl (fun hb30 => ?_) (fun hb30 => ?_)
      · refine lv_iload_n Bx.1 Bx.2.1 d_Mo_goesOn_158 rfl (lv_at hl 1 rfl) ?_
        refine f_callSi (na := 1) (As := [.int (hereF L T (a11))]) (rest := []) Bx hml E.2.1 (m_Mo_beginsX l (hereF L T (a11))) kw_811 kw_812 kw_8 kw_813 (by decide +kernel) ⟨rfl, rfl⟩ ⟨Nat.le_of_ble_eq_true rfl, Nat.le_of_ble_eq_true rfl⟩ rfl hl.1 (Nat.le_of_ble_eq_true rfl) d_Mo_goesOn_159 ⟨Nat.le_of_ble_eq_true rfl, Nat.le_of_ble_eq_true rfl⟩ (fun r32 hs31 => ?_)
        subst hs31
        refine lv_if_eq Bx.1 Bx.2.1 d_Mo_goesOn_162 rfl (fun hb33 => ?_) (fun hb33 => ?_)
        · refine lv_aload_n Bx.1 Bx.2.1 d_Mo_goesOn_180 rfl (lv_at hl 3 rfl) ?_
          refine f_get Bx hP (by omega) hW14.1 rfl inMo 19 (by decide) kw_675 rfl rfl d_Mo_goesOn_181 ?_
          refine lv_iload_n Bx.1 Bx.2.1 d_Mo_goesOn_184 rfl (lv_at hl 0 rfl) ?_
          refine f_iald Bx hP (by omega) (show mem10 235 = .inl (cy 1, 8, .inl (A 235)) from hW14.2.2.1 235 (by decide) (by decide) (by decide)) (vp_in_nI (n := f) (by omega) (by decide)) d_Mo_goesOn_185 ?_
          rw [nI_clamp (n := f) (by omega)]
          refine lv_if_ne Bx.1 Bx.2.1 d_Mo_goesOn_186 rfl (fun hb34 => ?_) (fun hb34 => ?_)
          · refine lv_aload_n Bx.1 Bx.2.1 d_Mo_goesOn_201 rfl (lv_at hl 3 rfl) ?_
            refine lv_iconst (v := 1) Bx.1 Bx.2.1 d_Mo_goesOn_202 (by decide) ?_
            refine lv_aload_n Bx.1 Bx.2.1 d_Mo_goesOn_203 rfl (lv_at hl 3 rfl) ?_
            refine f_get Bx hP (by omega) hW14.1 rfl inMo 16 (by decide) kw_672 rfl rfl d_Mo_goesOn_204 ?_
            rw [kk25]
            refine f_callVv (na := 2) (As := [.int (1), .int (nI a11)]) (rest := []) Bx hml E hP hD hS (by omega) hW14.1 rfl (m_Mo_wrong l hn hW14 (Or.inl kk19) (by first | exact Or.inl rfl | exact Or.inr rfl)) kw_799 kw_801 sel_Mo_wrong kw_8 kw_802 (by decide +kernel) ⟨rfl, rfl⟩ ⟨Nat.le_of_ble_eq_true rfl, Nat.le_of_ble_eq_true rfl⟩ rfl hl.1 (Nat.le_of_ble_eq_true rfl) d_Mo_goesOn_207 ⟨Nat.le_of_ble_eq_true rfl, Nat.le_of_ble_eq_true rfl⟩ (fun mem36 H locs hq hP hS => ?_)
            have hD : va_D (Az sz) (fw n ad mem36) := fw_D hD
            obtain ⟨J37, hW38, hwr39⟩ := hq
            have kk40 : J37 1 = nI L := (show J37 1 = J15 1 from hwr39.2 1 (by decide) (by decide)).trans kk17
            have kk41 : J37 24 = nI G := (show J37 24 = J15 24 from hwr39.2 24 (by decide) (by decide)).trans kk18
            have kk42 : J37 14 = nI u := (show J37 14 = J15 14 from hwr39.2 14 (by decide) (by decide)).trans kk20
            have kk43 : J37 4 = nI R := (show J37 4 = J15 4 from hwr39.2 4 (by decide) (by decide)).trans kk21
            have kk44 : J37 7 = nI Ec := (show J37 7 = J15 7 from hwr39.2 7 (by decide) (by decide)).trans kk22
            have kk45 : J37 18 = nI (f + 1) := (show J37 18 = J15 18 from hwr39.2 18 (by decide) (by decide)).trans kk23
            have kk46 : J37 28 = 0 := (show J37 28 = J15 28 from hwr39.2 28 (by decide) (by decide)).trans kk24
            have kk47 : J37 16 = nI a11 := (show J37 16 = J15 16 from hwr39.2 16 (by decide) (by decide)).trans kk25
            refine lv_iconst (v := 1) Bx.1 Bx.2.1 d_Mo_goesOn_210 (by decide) ?_
            exact W.zret (v := 1) hx hb hr rfl (fun t ht hW => ⟨⟨1, mem36, rfl, ⟨J37, A, nm, hW38, Or.inl ⟨rfl, none, go_bad (show ¬ hereF L T (gapF T L a) = 47 by rw [← ea16]; exact hb28) (Or.inl (show ¬ hereF L T (gapF T L a) = 41 by rw [← ea16]; exact hb29)) (Or.inl (show ¬ hereF L T (gapF T L a) = 93 by rw [← ea16]; exact hb30)) (Or.inl (show bgF (hereF L T (gapF T L a)) = false by rw [← ea16]; exact bg_0 hb33)) (Or.inl hb34), Or.inl ⟨⟨kk40, kk41, hT, hwr39.1, _, by omega, kk47⟩, rfl⟩⟩⟩, by show va_P _ _ _ t.heap; rw [ht]; exact hP⟩, hS.F ht⟩) hS.2.2 d_Mo_goesOn_211
          · have hf0 : f = 0 := by
              by_cases z : f = 0
              · exact z
              · have hso0 : A 235 f = 0 := hb34
                rcases hfg.2.2.1 (by omega) with y | y
                · rw [y.1] at hso0; exact absurd hso0 (by decide)
                · rw [y.1] at hso0; exact absurd hso0 (by decide)
            refine lv_iload_n Bx.1 Bx.2.1 d_Mo_goesOn_189 rfl (lv_at hl 1 rfl) ?_
            refine lv_bipush (v := 10) Bx.1 Bx.2.1 d_Mo_goesOn_190 (by decide) ?_
            refine lv_icmp_eq Bx.1 Bx.2.1 d_Mo_goesOn_192 rfl (fun hb48 => ?_) (fun hb48 => ?_)
            · have hlt49 := hereF_lt (by rw [hb48]; decide)
              refine lv_iconst (v := 0) Bx.1 Bx.2.1 d_Mo_goesOn_199 (by decide) ?_
              have hI0 : Inv R Ec u 0 True fc fs ft A (fun _ => False) := by rw [← hf0]; exact hI
              have h390 : A 239 0 = -1 := by rw [← hf0]; exact h39
              exact W.zret (v := 0) hx hb hr rfl (fun t ht hW => ⟨⟨0, mem10, rfl, ⟨J15, A, nm, hW14, Or.inr ⟨rfl, a11, by omega, by rw [go_end (show ¬ hereF L T (gapF T L a) = 47 by rw [← ea16]; exact hb28) (Or.inl (show ¬ hereF L T (gapF T L a) = 41 by rw [← ea16]; exact hb29)) (Or.inl (show ¬ hereF L T (gapF T L a) = 93 by rw [← ea16]; exact hb30)) (Or.inl (show bgF (hereF L T (gapF T L a)) = false by rw [← ea16]; exact bg_0 hb33)) hb34 (Or.inl (show hereF L T (gapF T L a) = 10 by rw [← ea16]; exact hb48)), ← ea16], ⟨kk17, kk18, kk25, kk19, kk20, kk21, kk22⟩, ⟨by omega, by omega, by omega, by omega, by omega⟩, hT, hI0.base hEb h390⟩⟩, by show va_P _ _ _ t.heap; rw [ht]; exact hP⟩, hS.F ht⟩) hS.2.2 d_Mo_goesOn_200
            · refine lv_iload_n Bx.1 Bx.2.1 d_Mo_goesOn_195 rfl (lv_at hl 1 rfl) ?_
              refine lv_if_ge Bx.1 Bx.2.1 d_Mo_goesOn_196 rfl (fun hb50 => ?_) (fun hb50 => ?_)
              · refine lv_aload_n Bx.1 Bx.2.1 d_Mo_goesOn_201 rfl (lv_at hl 3 rfl) ?_
                refine lv_iconst (v := 1) Bx.1 Bx.2.1 d_Mo_goesOn_202 (by decide) ?_
                refine lv_aload_n Bx.1 Bx.2.1 d_Mo_goesOn_203 rfl (lv_at hl 3 rfl) ?_
                refine f_get Bx hP (by omega) hW14.1 rfl inMo 16 (by decide) kw_672 rfl rfl d_Mo_goesOn_204 ?_
                rw [kk25]
                refine f_callVv (na := 2) (As := [.int (1), .int (nI a11)]) (rest := []) Bx hml E hP hD hS (by omega) hW14.1 rfl (m_Mo_wrong l hn hW14 (Or.inl kk19) (by first | exact Or.inl rfl | exact Or.inr rfl)) kw_799 kw_801 sel_Mo_wrong kw_8 kw_802 (by decide +kernel) ⟨rfl, rfl⟩ ⟨Nat.le_of_ble_eq_true rfl, Nat.le_of_ble_eq_true rfl⟩ rfl hl.1 (Nat.le_of_ble_eq_true rfl) d_Mo_goesOn_207 ⟨Nat.le_of_ble_eq_true rfl, Nat.le_of_ble_eq_true rfl⟩ (fun mem52 H locs hq hP hS => ?_)
                have hD : va_D (Az sz) (fw n ad mem52) := fw_D hD
                obtain ⟨J53, hW54, hwr55⟩ := hq
                have kk56 : J53 1 = nI L := (show J53 1 = J15 1 from hwr55.2 1 (by decide) (by decide)).trans kk17
                have kk57 : J53 24 = nI G := (show J53 24 = J15 24 from hwr55.2 24 (by decide) (by decide)).trans kk18
                have kk58 : J53 14 = nI u := (show J53 14 = J15 14 from hwr55.2 14 (by decide) (by decide)).trans kk20
                have kk59 : J53 4 = nI R := (show J53 4 = J15 4 from hwr55.2 4 (by decide) (by decide)).trans kk21
                have kk60 : J53 7 = nI Ec := (show J53 7 = J15 7 from hwr55.2 7 (by decide) (by decide)).trans kk22
                have kk61 : J53 18 = nI (f + 1) := (show J53 18 = J15 18 from hwr55.2 18 (by decide) (by decide)).trans kk23
                have kk62 : J53 28 = 0 := (show J53 28 = J15 28 from hwr55.2 28 (by decide) (by decide)).trans kk24
                have kk63 : J53 16 = nI a11 := (show J53 16 = J15 16 from hwr55.2 16 (by decide) (by decide)).trans kk25
                refine lv_iconst (v := 1) Bx.1 Bx.2.1 d_Mo_goesOn_210 (by decide) ?_
                exact W.zret (v := 1) hx hb hr rfl (fun t ht hW => ⟨⟨1, mem52, rfl, ⟨J53, A, nm, hW54, Or.inl ⟨rfl, none, go_bad (show ¬ hereF L T (gapF T L a) = 47 by rw [← ea16]; exact hb28) (Or.inl (show ¬ hereF L T (gapF T L a) = 41 by rw [← ea16]; exact hb29)) (Or.inl (show ¬ hereF L T (gapF T L a) = 93 by rw [← ea16]; exact hb30)) (Or.inl (show bgF (hereF L T (gapF T L a)) = false by rw [← ea16]; exact bg_0 hb33)) (Or.inr ⟨(show ¬ hereF L T (gapF T L a) = 10 by rw [← ea16]; exact hb48), (show ¬ hereF L T (gapF T L a) < 0 by rw [← ea16]; exact Int32.not_lt.mpr hb50)⟩), Or.inl ⟨⟨kk56, kk57, hT, hwr55.1, _, by omega, kk63⟩, rfl⟩⟩⟩, by show va_P _ _ _ t.heap; rw [ht]; exact hP⟩, hS.F ht⟩) hS.2.2 d_Mo_goesOn_211
              · refine lv_iconst (v := 0) Bx.1 Bx.2.1 d_Mo_goesOn_199 (by decide) ?_
                have hI0 : Inv R Ec u 0 True fc fs ft A (fun _ => False) := by rw [← hf0]; exact hI
                have h390 : A 239 0 = -1 := by rw [← hf0]; exact h39
                exact W.zret (v := 0) hx hb hr rfl (fun t ht hW => ⟨⟨0, mem10, rfl, ⟨J15, A, nm, hW14, Or.inr ⟨rfl, a11, by omega, by rw [go_end (show ¬ hereF L T (gapF T L a) = 47 by rw [← ea16]; exact hb28) (Or.inl (show ¬ hereF L T (gapF T L a) = 41 by rw [← ea16]; exact hb29)) (Or.inl (show ¬ hereF L T (gapF T L a) = 93 by rw [← ea16]; exact hb30)) (Or.inl (show bgF (hereF L T (gapF T L a)) = false by rw [← ea16]; exact bg_0 hb33)) hb34 (Or.inr (show hereF L T (gapF T L a) < 0 by rw [← ea16]; exact Int32.not_le.mp hb50)), ← ea16], ⟨kk17, kk18, kk25, kk19, kk20, kk21, kk22⟩, ⟨by omega, by omega, by omega, by omega, by omega⟩, hT, hI0.base hEb h390⟩⟩, by show va_P _ _ _ t.heap; rw [ht]; exact hP⟩, hS.F ht⟩) hS.2.2 d_Mo_goesOn_200
        · refine lv_aload_n Bx.1 Bx.2.1 d_Mo_goesOn_165 rfl (lv_at hl 3 rfl) ?_
          refine f_get Bx hP (by omega) hW14.1 rfl inMo 16 (by decide) kw_672 rfl rfl d_Mo_goesOn_166 ?_
          rw [kk25]
          refine lv_iload_n Bx.1 Bx.2.1 d_Mo_goesOn_169 rfl (lv_at hl 2 rfl) ?_
          refine lv_icmp_le Bx.1 Bx.2.1 d_Mo_goesOn_170 rfl (fun hb64 => ?_) (fun hb64 => ?_)
          · have hN65 : a11 ≤ a := (nI_leI (by omega) (by omega)).mp (show nI (a11) ≤ nI (a) from hb64)
            refine lv_aload_n Bx.1 Bx.2.1 d_Mo_goesOn_180 rfl (lv_at hl 3 rfl) ?_
            refine f_get Bx hP (by omega) hW14.1 rfl inMo 19 (by decide) kw_675 rfl rfl d_Mo_goesOn_181 ?_
            refine lv_iload_n Bx.1 Bx.2.1 d_Mo_goesOn_184 rfl (lv_at hl 0 rfl) ?_
            refine f_iald Bx hP (by omega) (show mem10 235 = .inl (cy 1, 8, .inl (A 235)) from hW14.2.2.1 235 (by decide) (by decide) (by decide)) (vp_in_nI (n := f) (by omega) (by decide)) d_Mo_goesOn_185 ?_
            rw [nI_clamp (n := f) (by omega)]
            refine lv_if_ne Bx.1 Bx.2.1 d_Mo_goesOn_186 rfl (fun hb66 => ?_) (fun hb66 => ?_)
            · refine lv_aload_n Bx.1 Bx.2.1 d_Mo_goesOn_201 rfl (lv_at hl 3 rfl) ?_
              refine lv_iconst (v := 1) Bx.1 Bx.2.1 d_Mo_goesOn_202 (by decide) ?_
              refine lv_aload_n Bx.1 Bx.2.1 d_Mo_goesOn_203 rfl (lv_at hl 3 rfl) ?_
              refine f_get Bx hP (by omega) hW14.1 rfl inMo 16 (by decide) kw_672 rfl rfl d_Mo_goesOn_204 ?_
              rw [kk25]
              refine f_callVv (na := 2) (As := [.int (1), .int (nI a11)]) (rest := []) Bx hml E hP hD hS (by omega) hW14.1 rfl (m_Mo_wrong l hn hW14 (Or.inl kk19) (by first | exact Or.inl rfl | exact Or.inr rfl)) kw_799 kw_801 sel_Mo_wrong kw_8 kw_802 (by decide +kernel) ⟨rfl, rfl⟩ ⟨Nat.le_of_ble_eq_true rfl, Nat.le_of_ble_eq_true rfl⟩ rfl hl.1 (Nat.le_of_ble_eq_true rfl) d_Mo_goesOn_207 ⟨Nat.le_of_ble_eq_true rfl, Nat.le_of_ble_eq_true rfl⟩ (fun mem68 H locs hq hP hS => ?_)
              have hD : va_D (Az sz) (fw n ad mem68) := fw_D hD
              obtain ⟨J69, hW70, hwr71⟩ := hq
              have kk72 : J69 1 = nI L := (show J69 1 = J15 1 from hwr71.2 1 (by decide) (by decide)).trans kk17
              have kk73 : J69 24 = nI G := (show J69 24 = J15 24 from hwr71.2 24 (by decide) (by decide)).trans kk18
              have kk74 : J69 14 = nI u := (show J69 14 = J15 14 from hwr71.2 14 (by decide) (by decide)).trans kk20
              have kk75 : J69 4 = nI R := (show J69 4 = J15 4 from hwr71.2 4 (by decide) (by decide)).trans kk21
              have kk76 : J69 7 = nI Ec := (show J69 7 = J15 7 from hwr71.2 7 (by decide) (by decide)).trans kk22
              have kk77 : J69 18 = nI (f + 1) := (show J69 18 = J15 18 from hwr71.2 18 (by decide) (by decide)).trans kk23
              have kk78 : J69 28 = 0 := (show J69 28 = J15 28 from hwr71.2 28 (by decide) (by decide)).trans kk24
              have kk79 : J69 16 = nI a11 := (show J69 16 = J15 16 from hwr71.2 16 (by decide) (by decide)).trans kk25
              refine lv_iconst (v := 1) Bx.1 Bx.2.1 d_Mo_goesOn_210 (by decide) ?_
              exact W.zret (v := 1) hx hb hr rfl (fun t ht hW => ⟨⟨1, mem68, rfl, ⟨J69, A, nm, hW70, Or.inl ⟨rfl, none, go_bad (show ¬ hereF L T (gapF T L a) = 47 by rw [← ea16]; exact hb28) (Or.inl (show ¬ hereF L T (gapF T L a) = 41 by rw [← ea16]; exact hb29)) (Or.inl (show ¬ hereF L T (gapF T L a) = 93 by rw [← ea16]; exact hb30)) (Or.inr (by rw [← ea16]; omega)) (Or.inl hb66), Or.inl ⟨⟨kk72, kk73, hT, hwr71.1, _, by omega, kk79⟩, rfl⟩⟩⟩, by show va_P _ _ _ t.heap; rw [ht]; exact hP⟩, hS.F ht⟩) hS.2.2 d_Mo_goesOn_211
            · have hf0 : f = 0 := by
                by_cases z : f = 0
                · exact z
                · have hso0 : A 235 f = 0 := hb66
                  rcases hfg.2.2.1 (by omega) with y | y
                  · rw [y.1] at hso0; exact absurd hso0 (by decide)
                  · rw [y.1] at hso0; exact absurd hso0 (by decide)
              refine lv_iload_n Bx.1 Bx.2.1 d_Mo_goesOn_189 rfl (lv_at hl 1 rfl) ?_
              refine lv_bipush (v := 10) Bx.1 Bx.2.1 d_Mo_goesOn_190 (by decide) ?_
              refine lv_icmp_eq Bx.1 Bx.2.1 d_Mo_goesOn_192 rfl (fun hb80 => ?_) (fun hb80 => ?_)
              · have hlt81 := hereF_lt (by rw [hb80]; decide)
                refine lv_iconst (v := 0) Bx.1 Bx.2.1 d_Mo_goesOn_199 (by decide) ?_
                have hI0 : Inv R Ec u 0 True fc fs ft A (fun _ => False) := by rw [← hf0]; exact hI
                have h390 : A 239 0 = -1 := by rw [← hf0]; exact h39
                exact W.zret (v := 0) hx hb hr rfl (fun t ht hW => ⟨⟨0, mem10, rfl, ⟨J15, A, nm, hW14, Or.inr ⟨rfl, a11, by omega, by rw [go_end (show ¬ hereF L T (gapF T L a) = 47 by rw [← ea16]; exact hb28) (Or.inl (show ¬ hereF L T (gapF T L a) = 41 by rw [← ea16]; exact hb29)) (Or.inl (show ¬ hereF L T (gapF T L a) = 93 by rw [← ea16]; exact hb30)) (Or.inr (by rw [← ea16]; omega)) hb66 (Or.inl (show hereF L T (gapF T L a) = 10 by rw [← ea16]; exact hb80)), ← ea16], ⟨kk17, kk18, kk25, kk19, kk20, kk21, kk22⟩, ⟨by omega, by omega, by omega, by omega, by omega⟩, hT, hI0.base hEb h390⟩⟩, by show va_P _ _ _ t.heap; rw [ht]; exact hP⟩, hS.F ht⟩) hS.2.2 d_Mo_goesOn_200
              · refine lv_iload_n Bx.1 Bx.2.1 d_Mo_goesOn_195 rfl (lv_at hl 1 rfl) ?_
                refine lv_if_ge Bx.1 Bx.2.1 d_Mo_goesOn_196 rfl (fun hb82 => ?_) (fun hb82 => ?_)
                · refine lv_aload_n Bx.1 Bx.2.1 d_Mo_goesOn_201 rfl (lv_at hl 3 rfl) ?_
                  refine lv_iconst (v := 1) Bx.1 Bx.2.1 d_Mo_goesOn_202 (by decide) ?_
                  refine lv_aload_n Bx.1 Bx.2.1 d_Mo_goesOn_203 rfl (lv_at hl 3 rfl) ?_
                  refine f_get Bx hP (by omega) hW14.1 rfl inMo 16 (by decide) kw_672 rfl rfl d_Mo_goesOn_204 ?_
                  rw [kk25]
                  refine f_callVv (na := 2) (As := [.int (1), .int (nI a11)]) (rest := []) Bx hml E hP hD hS (by omega) hW14.1 rfl (m_Mo_wrong l hn hW14 (Or.inl kk19) (by first | exact Or.inl rfl | exact Or.inr rfl)) kw_799 kw_801 sel_Mo_wrong kw_8 kw_802 (by decide +kernel) ⟨rfl, rfl⟩ ⟨Nat.le_of_ble_eq_true rfl, Nat.le_of_ble_eq_true rfl⟩ rfl hl.1 (Nat.le_of_ble_eq_true rfl) d_Mo_goesOn_207 ⟨Nat.le_of_ble_eq_true rfl, Nat.le_of_ble_eq_true rfl⟩ (fun mem84 H locs hq hP hS => ?_)
                  have hD : va_D (Az sz) (fw n ad mem84) := fw_D hD
                  obtain ⟨J85, hW86, hwr87⟩ := hq
                  have kk88 : J85 1 = nI L := (show J85 1 = J15 1 from hwr87.2 1 (by decide) (by decide)).trans kk17
                  have kk89 : J85 24 = nI G := (show J85 24 = J15 24 from hwr87.2 24 (by decide) (by decide)).trans kk18
                  have kk90 : J85 14 = nI u := (show J85 14 = J15 14 from hwr87.2 14 (by decide) (by decide)).trans kk20
                  have kk91 : J85 4 = nI R := (show J85 4 = J15 4 from hwr87.2 4 (by decide) (by decide)).trans kk21
                  have kk92 : J85 7 = nI Ec := (show J85 7 = J15 7 from hwr87.2 7 (by decide) (by decide)).trans kk22
                  have kk93 : J85 18 = nI (f + 1) := (show J85 18 = J15 18 from hwr87.2 18 (by decide) (by decide)).trans kk23
                  have kk94 : J85 28 = 0 := (show J85 28 = J15 28 from hwr87.2 28 (by decide) (by decide)).trans kk24
                  have kk95 : J85 16 = nI a11 := (show J85 16 = J15 16 from hwr87.2 16 (by decide) (by decide)).trans kk25
                  refine lv_iconst (v := 1) Bx.1 Bx.2.1 d_Mo_goesOn_210 (by decide) ?_
                  exact W.zret (v := 1) hx hb hr rfl (fun t ht hW => ⟨⟨1, mem84, rfl, ⟨J85, A, nm, hW86, Or.inl ⟨rfl, none, go_bad (show ¬ hereF L T (gapF T L a) = 47 by rw [← ea16]; exact hb28) (Or.inl (show ¬ hereF L T (gapF T L a) = 41 by rw [← ea16]; exact hb29)) (Or.inl (show ¬ hereF L T (gapF T L a) = 93 by rw [← ea16]; exact hb30)) (Or.inr (by rw [← ea16]; omega)) (Or.inr ⟨(show ¬ hereF L T (gapF T L a) = 10 by rw [← ea16]; exact hb80), (show ¬ hereF L T (gapF T L a) < 0 by rw [← ea16]; exact Int32.not_lt.mpr hb82)⟩), Or.inl ⟨⟨kk88, kk89, hT, hwr87.1, _, by omega, kk95⟩, rfl⟩⟩⟩, by show va_P _ _ _ t.heap; rw [ht]; exact hP⟩, hS.F ht⟩) hS.2.2 d_Mo_goesOn_211
                · refine lv_iconst (v := 0) Bx.1 Bx.2.1 d_Mo_goesOn_199 (by decide) ?_
                  have hI0 : Inv R Ec u 0 True fc fs ft A (fun _ => False) := by rw [← hf0]; exact hI
                  have h390 : A 239 0 = -1 := by rw [← hf0]; exact h39
                  exact W.zret (v := 0) hx hb hr rfl (fun t ht hW => ⟨⟨0, mem10, rfl, ⟨J15, A, nm, hW14, Or.inr ⟨rfl, a11, by omega, by rw [go_end (show ¬ hereF L T (gapF T L a) = 47 by rw [← ea16]; exact hb28) (Or.inl (show ¬ hereF L T (gapF T L a) = 41 by rw [← ea16]; exact hb29)) (Or.inl (show ¬ hereF L T (gapF T L a) = 93 by rw [← ea16]; exact hb30)) (Or.inr (by rw [← ea16]; omega)) hb66 (Or.inr (show hereF L T (gapF T L a) < 0 by rw [← ea16]; exact Int32.not_le.mp hb82)), ← ea16], ⟨kk17, kk18, kk25, kk19, kk20, kk21, kk22⟩, ⟨by omega, by omega, by omega, by omega, by omega⟩, hT, hI0.base hEb h390⟩⟩, by show va_P _ _ _ t.heap; rw [ht]; exact hP⟩, hS.F ht⟩) hS.2.2 d_Mo_goesOn_200
          · have hN96 : ¬ a11 ≤ a := fun q9 => hb64 (show nI (a11) ≤ nI (a) from (nI_leI (by omega) (by omega)).mpr q9)
            refine lv_aload_n Bx.1 Bx.2.1 d_Mo_goesOn_173 rfl (lv_at hl 3 rfl) ?_
            refine f_callVv (na := 0) (As := []) (rest := []) Bx hml E hP hD hS (by omega) hW14.1 rfl (m_Mo_repetitionX l hn hW14 ⟨kk17, kk18, kk25, kk19, kk20, kk21, kk22, kk23⟩ ⟨hL, by omega, by omega, by omega, by omega⟩ (by omega) hT kk24 hI h39) kw_826 kw_828 sel_Mo_repetition kw_8 kw_829 (by decide +kernel) ⟨rfl, rfl⟩ ⟨Nat.le_of_ble_eq_true rfl, Nat.le_of_ble_eq_true rfl⟩ rfl hl.1 (Nat.le_of_ble_eq_true rfl) d_Mo_goesOn_174 ⟨Nat.le_of_ble_eq_true rfl, Nat.le_of_ble_eq_true rfl⟩ (fun mem98 H locs hq hP hS => ?_)
            have hD : va_D (Az sz) (fw n ad mem98) := fw_D hD
            obtain ⟨J99, A100, nn101, hW102, hres103⟩ := hq
            refine lv_goto Bx.1 Bx.2.1 d_Mo_goesOn_177 rfl ?_
            refine lv_iconst (v := 1) Bx.1 Bx.2.1 d_Mo_goesOn_210 (by decide) ?_
            exact W.zret (v := 1) hx hb hr rfl (fun t ht hW => ⟨⟨1, mem98, rfl, ⟨J99, A100, nn101, hW102, Or.inl ⟨rfl, _, by rw [go_re (show ¬ hereF L T (gapF T L a) = 47 by rw [← ea16]; exact hb28) (Or.inl (show ¬ hereF L T (gapF T L a) = 41 by rw [← ea16]; exact hb29)) (Or.inl (show ¬ hereF L T (gapF T L a) = 93 by rw [← ea16]; exact hb30)) (show bgF (hereF L T (gapF T L a)) = true by rw [← ea16]; exact bg_1 hb33) (by rw [← ea16]; omega), ← ea16], hres103.mono (by omega) rfl⟩⟩, by show va_P _ _ _ t.heap; rw [ht]; exact hP⟩, hS.F ht⟩) hS.2.2 d_Mo_goesOn_211
      · have hlt104 := hereF_lt (by rw [hb30]; decide)
        refine lv_aload_n Bx.1 Bx.2.1 d_Mo_goesOn_70 rfl (lv_at hl 3 rfl) ?_
        refine f_get Bx hP (by omega) hW14.1 rfl inMo 19 (by decide) kw_675 rfl rfl d_Mo_goesOn_71 ?_
        refine lv_iload_n Bx.1 Bx.2.1 d_Mo_goesOn_74 rfl (lv_at hl 0 rfl) ?_
        refine f_iald Bx hP (by omega) (show mem10 235 = .inl (cy 1, 8, .inl (A 235)) from hW14.2.2.1 235 (by decide) (by decide) (by decide)) (vp_in_nI (n := f) (by omega) (by decide)) d_Mo_goesOn_75 ?_
        rw [nI_clamp (n := f) (by omega)]
        refine lv_iconst (v := 2) Bx.1 Bx.2.1 d_Mo_goesOn_76 (by decide) ?_
        refine lv_icmp_ne Bx.1 Bx.2.1 d_Mo_goesOn_77 rfl (fun hb105 => ?_) (fun hb105 => ?_)
        · refine lv_iload_n Bx.1 Bx.2.1 d_Mo_goesOn_158 rfl (lv_at hl 1 rfl) ?_
          refine f_callSi (na := 1) (As := [.int (hereF L T (a11))]) (rest := []) Bx hml E.2.1 (m_Mo_beginsX l (hereF L T (a11))) kw_811 kw_812 kw_8 kw_813 (by decide +kernel) ⟨rfl, rfl⟩ ⟨Nat.le_of_ble_eq_true rfl, Nat.le_of_ble_eq_true rfl⟩ rfl hl.1 (Nat.le_of_ble_eq_true rfl) d_Mo_goesOn_159 ⟨Nat.le_of_ble_eq_true rfl, Nat.le_of_ble_eq_true rfl⟩ (fun r107 hs106 => ?_)
          subst hs106
          refine lv_if_eq Bx.1 Bx.2.1 d_Mo_goesOn_162 rfl (fun hb108 => ?_) (fun hb108 => ?_)
          · refine lv_aload_n Bx.1 Bx.2.1 d_Mo_goesOn_180 rfl (lv_at hl 3 rfl) ?_
            refine f_get Bx hP (by omega) hW14.1 rfl inMo 19 (by decide) kw_675 rfl rfl d_Mo_goesOn_181 ?_
            refine lv_iload_n Bx.1 Bx.2.1 d_Mo_goesOn_184 rfl (lv_at hl 0 rfl) ?_
            refine f_iald Bx hP (by omega) (show mem10 235 = .inl (cy 1, 8, .inl (A 235)) from hW14.2.2.1 235 (by decide) (by decide) (by decide)) (vp_in_nI (n := f) (by omega) (by decide)) d_Mo_goesOn_185 ?_
            rw [nI_clamp (n := f) (by omega)]
            refine lv_if_ne Bx.1 Bx.2.1 d_Mo_goesOn_186 rfl (fun hb109 => ?_) (fun hb109 => ?_)
            · refine lv_aload_n Bx.1 Bx.2.1 d_Mo_goesOn_201 rfl (lv_at hl 3 rfl) ?_
              refine lv_iconst (v := 1) Bx.1 Bx.2.1 d_Mo_goesOn_202 (by decide) ?_
              refine lv_aload_n Bx.1 Bx.2.1 d_Mo_goesOn_203 rfl (lv_at hl 3 rfl) ?_
              refine f_get Bx hP (by omega) hW14.1 rfl inMo 16 (by decide) kw_672 rfl rfl d_Mo_goesOn_204 ?_
              rw [kk25]
              refine f_callVv (na := 2) (As := [.int (1), .int (nI a11)]) (rest := []) Bx hml E hP hD hS (by omega) hW14.1 rfl (m_Mo_wrong l hn hW14 (Or.inl kk19) (by first | exact Or.inl rfl | exact Or.inr rfl)) kw_799 kw_801 sel_Mo_wrong kw_8 kw_802 (by decide +kernel) ⟨rfl, rfl⟩ ⟨Nat.le_of_ble_eq_true rfl, Nat.le_of_ble_eq_true rfl⟩ rfl hl.1 (Nat.le_of_ble_eq_true rfl) d_Mo_goesOn_207 ⟨Nat.le_of_ble_eq_true rfl, Nat.le_of_ble_eq_true rfl⟩ (fun mem111 H locs hq hP hS => ?_)
              have hD : va_D (Az sz) (fw n ad mem111) := fw_D hD
              obtain ⟨J112, hW113, hwr114⟩ := hq
              have kk115 : J112 1 = nI L := (show J112 1 = J15 1 from hwr114.2 1 (by decide) (by decide)).trans kk17
              have kk116 : J112 24 = nI G := (show J112 24 = J15 24 from hwr114.2 24 (by decide) (by decide)).trans kk18
              have kk117 : J112 14 = nI u := (show J112 14 = J15 14 from hwr114.2 14 (by decide) (by decide)).trans kk20
              have kk118 : J112 4 = nI R := (show J112 4 = J15 4 from hwr114.2 4 (by decide) (by decide)).trans kk21
              have kk119 : J112 7 = nI Ec := (show J112 7 = J15 7 from hwr114.2 7 (by decide) (by decide)).trans kk22
              have kk120 : J112 18 = nI (f + 1) := (show J112 18 = J15 18 from hwr114.2 18 (by decide) (by decide)).trans kk23
              have kk121 : J112 28 = 0 := (show J112 28 = J15 28 from hwr114.2 28 (by decide) (by decide)).trans kk24
              have kk122 : J112 16 = nI a11 := (show J112 16 = J15 16 from hwr114.2 16 (by decide) (by decide)).trans kk25
              refine lv_iconst (v := 1) Bx.1 Bx.2.1 d_Mo_goesOn_210 (by decide) ?_
              exact W.zret (v := 1) hx hb hr rfl (fun t ht hW => ⟨⟨1, mem111, rfl, ⟨J112, A, nm, hW113, Or.inl ⟨rfl, none, go_bad (show ¬ hereF L T (gapF T L a) = 47 by rw [← ea16]; exact hb28) (Or.inl (show ¬ hereF L T (gapF T L a) = 41 by rw [← ea16]; exact hb29)) (Or.inr hb105) (Or.inl (show bgF (hereF L T (gapF T L a)) = false by rw [← ea16]; exact bg_0 hb108)) (Or.inl hb109), Or.inl ⟨⟨kk115, kk116, hT, hwr114.1, _, by omega, kk122⟩, rfl⟩⟩⟩, by show va_P _ _ _ t.heap; rw [ht]; exact hP⟩, hS.F ht⟩) hS.2.2 d_Mo_goesOn_211
            · have hf0 : f = 0 := by
                by_cases z : f = 0
                · exact z
                · have hso0 : A 235 f = 0 := hb109
                  rcases hfg.2.2.1 (by omega) with y | y
                  · rw [y.1] at hso0; exact absurd hso0 (by decide)
                  · rw [y.1] at hso0; exact absurd hso0 (by decide)
              refine lv_iload_n Bx.1 Bx.2.1 d_Mo_goesOn_189 rfl (lv_at hl 1 rfl) ?_
              refine lv_bipush (v := 10) Bx.1 Bx.2.1 d_Mo_goesOn_190 (by decide) ?_
              refine lv_icmp_eq Bx.1 Bx.2.1 d_Mo_goesOn_192 rfl (fun hb123 => ?_) (fun hb123 => ?_)
              · have hlt124 := hereF_lt (by rw [hb123]; decide)
                refine lv_iconst (v := 0) Bx.1 Bx.2.1 d_Mo_goesOn_199 (by decide) ?_
                have hI0 : Inv R Ec u 0 True fc fs ft A (fun _ => False) := by rw [← hf0]; exact hI
                have h390 : A 239 0 = -1 := by rw [← hf0]; exact h39
                exact W.zret (v := 0) hx hb hr rfl (fun t ht hW => ⟨⟨0, mem10, rfl, ⟨J15, A, nm, hW14, Or.inr ⟨rfl, a11, by omega, by rw [go_end (show ¬ hereF L T (gapF T L a) = 47 by rw [← ea16]; exact hb28) (Or.inl (show ¬ hereF L T (gapF T L a) = 41 by rw [← ea16]; exact hb29)) (Or.inr hb105) (Or.inl (show bgF (hereF L T (gapF T L a)) = false by rw [← ea16]; exact bg_0 hb108)) hb109 (Or.inl (show hereF L T (gapF T L a) = 10 by rw [← ea16]; exact hb123)), ← ea16], ⟨kk17, kk18, kk25, kk19, kk20, kk21, kk22⟩, ⟨by omega, by omega, by omega, by omega, by omega⟩, hT, hI0.base hEb h390⟩⟩, by show va_P _ _ _ t.heap; rw [ht]; exact hP⟩, hS.F ht⟩) hS.2.2 d_Mo_goesOn_200
              · refine lv_iload_n Bx.1 Bx.2.1 d_Mo_goesOn_195 rfl (lv_at hl 1 rfl) ?_
                refine lv_if_ge Bx.1 Bx.2.1 d_Mo_goesOn_196 rfl (fun hb125 => ?_) (fun hb125 => ?_)
                · refine lv_aload_n Bx.1 Bx.2.1 d_Mo_goesOn_201 rfl (lv_at hl 3 rfl) ?_
                  refine lv_iconst (v := 1) Bx.1 Bx.2.1 d_Mo_goesOn_202 (by decide) ?_
                  refine lv_aload_n Bx.1 Bx.2.1 d_Mo_goesOn_203 rfl (lv_at hl 3 rfl) ?_
                  refine f_get Bx hP (by omega) hW14.1 rfl inMo 16 (by decide) kw_672 rfl rfl d_Mo_goesOn_204 ?_
                  rw [kk25]
                  refine f_callVv (na := 2) (As := [.int (1), .int (nI a11)]) (rest := []) Bx hml E hP hD hS (by omega) hW14.1 rfl (m_Mo_wrong l hn hW14 (Or.inl kk19) (by first | exact Or.inl rfl | exact Or.inr rfl)) kw_799 kw_801 sel_Mo_wrong kw_8 kw_802 (by decide +kernel) ⟨rfl, rfl⟩ ⟨Nat.le_of_ble_eq_true rfl, Nat.le_of_ble_eq_true rfl⟩ rfl hl.1 (Nat.le_of_ble_eq_true rfl) d_Mo_goesOn_207 ⟨Nat.le_of_ble_eq_true rfl, Nat.le_of_ble_eq_true rfl⟩ (fun mem127 H locs hq hP hS => ?_)
                  have hD : va_D (Az sz) (fw n ad mem127) := fw_D hD
                  obtain ⟨J128, hW129, hwr130⟩ := hq
                  have kk131 : J128 1 = nI L := (show J128 1 = J15 1 from hwr130.2 1 (by decide) (by decide)).trans kk17
                  have kk132 : J128 24 = nI G := (show J128 24 = J15 24 from hwr130.2 24 (by decide) (by decide)).trans kk18
                  have kk133 : J128 14 = nI u := (show J128 14 = J15 14 from hwr130.2 14 (by decide) (by decide)).trans kk20
                  have kk134 : J128 4 = nI R := (show J128 4 = J15 4 from hwr130.2 4 (by decide) (by decide)).trans kk21
                  have kk135 : J128 7 = nI Ec := (show J128 7 = J15 7 from hwr130.2 7 (by decide) (by decide)).trans kk22
                  have kk136 : J128 18 = nI (f + 1) := (show J128 18 = J15 18 from hwr130.2 18 (by decide) (by decide)).trans kk23
                  have kk137 : J128 28 = 0 := (show J128 28 = J15 28 from hwr130.2 28 (by decide) (by decide)).trans kk24
                  have kk138 : J128 16 = nI a11 := (show J128 16 = J15 16 from hwr130.2 16 (by decide) (by decide)).trans kk25
                  refine lv_iconst (v := 1) Bx.1 Bx.2.1 d_Mo_goesOn_210 (by decide) ?_
                  exact W.zret (v := 1) hx hb hr rfl (fun t ht hW => ⟨⟨1, mem127, rfl, ⟨J128, A, nm, hW129, Or.inl ⟨rfl, none, go_bad (show ¬ hereF L T (gapF T L a) = 47 by rw [← ea16]; exact hb28) (Or.inl (show ¬ hereF L T (gapF T L a) = 41 by rw [← ea16]; exact hb29)) (Or.inr hb105) (Or.inl (show bgF (hereF L T (gapF T L a)) = false by rw [← ea16]; exact bg_0 hb108)) (Or.inr ⟨(show ¬ hereF L T (gapF T L a) = 10 by rw [← ea16]; exact hb123), (show ¬ hereF L T (gapF T L a) < 0 by rw [← ea16]; exact Int32.not_lt.mpr hb125)⟩), Or.inl ⟨⟨kk131, kk132, hT, hwr130.1, _, by omega, kk138⟩, rfl⟩⟩⟩, by show va_P _ _ _ t.heap; rw [ht]; exact hP⟩, hS.F ht⟩) hS.2.2 d_Mo_goesOn_211
                · refine lv_iconst (v := 0) Bx.1 Bx.2.1 d_Mo_goesOn_199 (by decide) ?_
                  have hI0 : Inv R Ec u 0 True fc fs ft A (fun _ => False) := by rw [← hf0]; exact hI
                  have h390 : A 239 0 = -1 := by rw [← hf0]; exact h39
                  exact W.zret (v := 0) hx hb hr rfl (fun t ht hW => ⟨⟨0, mem10, rfl, ⟨J15, A, nm, hW14, Or.inr ⟨rfl, a11, by omega, by rw [go_end (show ¬ hereF L T (gapF T L a) = 47 by rw [← ea16]; exact hb28) (Or.inl (show ¬ hereF L T (gapF T L a) = 41 by rw [← ea16]; exact hb29)) (Or.inr hb105) (Or.inl (show bgF (hereF L T (gapF T L a)) = false by rw [← ea16]; exact bg_0 hb108)) hb109 (Or.inr (show hereF L T (gapF T L a) < 0 by rw [← ea16]; exact Int32.not_le.mp hb125)), ← ea16], ⟨kk17, kk18, kk25, kk19, kk20, kk21, kk22⟩, ⟨by omega, by omega, by omega, by omega, by omega⟩, hT, hI0.base hEb h390⟩⟩, by show va_P _ _ _ t.heap; rw [ht]; exact hP⟩, hS.F ht⟩) hS.2.2 d_Mo_goesOn_200
          · refine lv_aload_n Bx.1 Bx.2.1 d_Mo_goesOn_165 rfl (lv_at hl 3 rfl) ?_
            refine f_get Bx hP (by omega) hW14.1 rfl inMo 16 (by decide) kw_672 rfl rfl d_Mo_goesOn_166 ?_
            rw [kk25]
            refine lv_iload_n Bx.1 Bx.2.1 d_Mo_goesOn_169 rfl (lv_at hl 2 rfl) ?_
            refine lv_icmp_le Bx.1 Bx.2.1 d_Mo_goesOn_170 rfl (fun hb139 => ?_) (fun hb139 => ?_)
            · have hN140 : a11 ≤ a := (nI_leI (by omega) (by omega)).mp (show nI (a11) ≤ nI (a) from hb139)
              refine lv_aload_n Bx.1 Bx.2.1 d_Mo_goesOn_180 rfl (lv_at hl 3 rfl) ?_
              refine f_get Bx hP (by omega) hW14.1 rfl inMo 19 (by decide) kw_675 rfl rfl d_Mo_goesOn_181 ?_
              refine lv_iload_n Bx.1 Bx.2.1 d_Mo_goesOn_184 rfl (lv_at hl 0 rfl) ?_
              refine f_iald Bx hP (by omega) (show mem10 235 = .inl (cy 1, 8, .inl (A 235)) from hW14.2.2.1 235 (by decide) (by decide) (by decide)) (vp_in_nI (n := f) (by omega) (by decide)) d_Mo_goesOn_185 ?_
              rw [nI_clamp (n := f) (by omega)]
              refine lv_if_ne Bx.1 Bx.2.1 d_Mo_goesOn_186 rfl (fun hb141 => ?_) (fun hb141 => ?_)
              · refine lv_aload_n Bx.1 Bx.2.1 d_Mo_goesOn_201 rfl (lv_at hl 3 rfl) ?_
                refine lv_iconst (v := 1) Bx.1 Bx.2.1 d_Mo_goesOn_202 (by decide) ?_
                refine lv_aload_n Bx.1 Bx.2.1 d_Mo_goesOn_203 rfl (lv_at hl 3 rfl) ?_
                refine f_get Bx hP (by omega) hW14.1 rfl inMo 16 (by decide) kw_672 rfl rfl d_Mo_goesOn_204 ?_
                rw [kk25]
                refine f_callVv (na := 2) (As := [.int (1), .int (nI a11)]) (rest := []) Bx hml E hP hD hS (by omega) hW14.1 rfl (m_Mo_wrong l hn hW14 (Or.inl kk19) (by first | exact Or.inl rfl | exact Or.inr rfl)) kw_799 kw_801 sel_Mo_wrong kw_8 kw_802 (by decide +kernel) ⟨rfl, rfl⟩ ⟨Nat.le_of_ble_eq_true rfl, Nat.le_of_ble_eq_true rfl⟩ rfl hl.1 (Nat.le_of_ble_eq_true rfl) d_Mo_goesOn_207 ⟨Nat.le_of_ble_eq_true rfl, Nat.le_of_ble_eq_true rfl⟩ (fun mem143 H locs hq hP hS => ?_)
                have hD : va_D (Az sz) (fw n ad mem143) := fw_D hD
                obtain ⟨J144, hW145, hwr146⟩ := hq
                have kk147 : J144 1 = nI L := (show J144 1 = J15 1 from hwr146.2 1 (by decide) (by decide)).trans kk17
                have kk148 : J144 24 = nI G := (show J144 24 = J15 24 from hwr146.2 24 (by decide) (by decide)).trans kk18
                have kk149 : J144 14 = nI u := (show J144 14 = J15 14 from hwr146.2 14 (by decide) (by decide)).trans kk20
                have kk150 : J144 4 = nI R := (show J144 4 = J15 4 from hwr146.2 4 (by decide) (by decide)).trans kk21
                have kk151 : J144 7 = nI Ec := (show J144 7 = J15 7 from hwr146.2 7 (by decide) (by decide)).trans kk22
                have kk152 : J144 18 = nI (f + 1) := (show J144 18 = J15 18 from hwr146.2 18 (by decide) (by decide)).trans kk23
                have kk153 : J144 28 = 0 := (show J144 28 = J15 28 from hwr146.2 28 (by decide) (by decide)).trans kk24
                have kk154 : J144 16 = nI a11 := (show J144 16 = J15 16 from hwr146.2 16 (by decide) (by decide)).trans kk25
                refine lv_iconst (v := 1) Bx.1 Bx.2.1 d_Mo_goesOn_210 (by decide) ?_
                exact W.zret (v := 1) hx hb hr rfl (fun t ht hW => ⟨⟨1, mem143, rfl, ⟨J144, A, nm, hW145, Or.inl ⟨rfl, none, go_bad (show ¬ hereF L T (gapF T L a) = 47 by rw [← ea16]; exact hb28) (Or.inl (show ¬ hereF L T (gapF T L a) = 41 by rw [← ea16]; exact hb29)) (Or.inr hb105) (Or.inr (by rw [← ea16]; omega)) (Or.inl hb141), Or.inl ⟨⟨kk147, kk148, hT, hwr146.1, _, by omega, kk154⟩, rfl⟩⟩⟩, by show va_P _ _ _ t.heap; rw [ht]; exact hP⟩, hS.F ht⟩) hS.2.2 d_Mo_goesOn_211
              · have hf0 : f = 0 := by
                  by_cases z : f = 0
                  · exact z
                  · have hso0 : A 235 f = 0 := hb141
                    rcases hfg.2.2.1 (by omega) with y | y
                    · rw [y.1] at hso0; exact absurd hso0 (by decide)
                    · rw [y.1] at hso0; exact absurd hso0 (by decide)
                refine lv_iload_n Bx.1 Bx.2.1 d_Mo_goesOn_189 rfl (lv_at hl 1 rfl) ?_
                refine lv_bipush (v := 10) Bx.1 Bx.2.1 d_Mo_goesOn_190 (by decide) ?_
                refine lv_icmp_eq Bx.1 Bx.2.1 d_Mo_goesOn_192 rfl (fun hb155 => ?_) (fun hb155 => ?_)
                · have hlt156 := hereF_lt (by rw [hb155]; decide)
                  refine lv_iconst (v := 0) Bx.1 Bx.2.1 d_Mo_goesOn_199 (by decide) ?_
                  have hI0 : Inv R Ec u 0 True fc fs ft A (fun _ => False) := by rw [← hf0]; exact hI
                  have h390 : A 239 0 = -1 := by rw [← hf0]; exact h39
                  exact W.zret (v := 0) hx hb hr rfl (fun t ht hW => ⟨⟨0, mem10, rfl, ⟨J15, A, nm, hW14, Or.inr ⟨rfl, a11, by omega, by rw [go_end (show ¬ hereF L T (gapF T L a) = 47 by rw [← ea16]; exact hb28) (Or.inl (show ¬ hereF L T (gapF T L a) = 41 by rw [← ea16]; exact hb29)) (Or.inr hb105) (Or.inr (by rw [← ea16]; omega)) hb141 (Or.inl (show hereF L T (gapF T L a) = 10 by rw [← ea16]; exact hb155)), ← ea16], ⟨kk17, kk18, kk25, kk19, kk20, kk21, kk22⟩, ⟨by omega, by omega, by omega, by omega, by omega⟩, hT, hI0.base hEb h390⟩⟩, by show va_P _ _ _ t.heap; rw [ht]; exact hP⟩, hS.F ht⟩) hS.2.2 d_Mo_goesOn_200
                · refine lv_iload_n Bx.1 Bx.2.1 d_Mo_goesOn_195 rfl (lv_at hl 1 rfl) ?_
                  refine lv_if_ge Bx.1 Bx.2.1 d_Mo_goesOn_196 rfl (fun hb157 => ?_) (fun hb157 => ?_)
                  · refine lv_aload_n Bx.1 Bx.2.1 d_Mo_goesOn_201 rfl (lv_at hl 3 rfl) ?_
                    refine lv_iconst (v := 1) Bx.1 Bx.2.1 d_Mo_goesOn_202 (by decide) ?_
                    refine lv_aload_n Bx.1 Bx.2.1 d_Mo_goesOn_203 rfl (lv_at hl 3 rfl) ?_
                    refine f_get Bx hP (by omega) hW14.1 rfl inMo 16 (by decide) kw_672 rfl rfl d_Mo_goesOn_204 ?_
                    rw [kk25]
                    refine f_callVv (na := 2) (As := [.int (1), .int (nI a11)]) (rest := []) Bx hml E hP hD hS (by omega) hW14.1 rfl (m_Mo_wrong l hn hW14 (Or.inl kk19) (by first | exact Or.inl rfl | exact Or.inr rfl)) kw_799 kw_801 sel_Mo_wrong kw_8 kw_802 (by decide +kernel) ⟨rfl, rfl⟩ ⟨Nat.le_of_ble_eq_true rfl, Nat.le_of_ble_eq_true rfl⟩ rfl hl.1 (Nat.le_of_ble_eq_true rfl) d_Mo_goesOn_207 ⟨Nat.le_of_ble_eq_true rfl, Nat.le_of_ble_eq_true rfl⟩ (fun mem159 H locs hq hP hS => ?_)
                    have hD : va_D (Az sz) (fw n ad mem159) := fw_D hD
                    obtain ⟨J160, hW161, hwr162⟩ := hq
                    have kk163 : J160 1 = nI L := (show J160 1 = J15 1 from hwr162.2 1 (by decide) (by decide)).trans kk17
                    have kk164 : J160 24 = nI G := (show J160 24 = J15 24 from hwr162.2 24 (by decide) (by decide)).trans kk18
                    have kk165 : J160 14 = nI u := (show J160 14 = J15 14 from hwr162.2 14 (by decide) (by decide)).trans kk20
                    have kk166 : J160 4 = nI R := (show J160 4 = J15 4 from hwr162.2 4 (by decide) (by decide)).trans kk21
                    have kk167 : J160 7 = nI Ec := (show J160 7 = J15 7 from hwr162.2 7 (by decide) (by decide)).trans kk22
                    have kk168 : J160 18 = nI (f + 1) := (show J160 18 = J15 18 from hwr162.2 18 (by decide) (by decide)).trans kk23
                    have kk169 : J160 28 = 0 := (show J160 28 = J15 28 from hwr162.2 28 (by decide) (by decide)).trans kk24
                    have kk170 : J160 16 = nI a11 := (show J160 16 = J15 16 from hwr162.2 16 (by decide) (by decide)).trans kk25
                    refine lv_iconst (v := 1) Bx.1 Bx.2.1 d_Mo_goesOn_210 (by decide) ?_
                    exact W.zret (v := 1) hx hb hr rfl (fun t ht hW => ⟨⟨1, mem159, rfl, ⟨J160, A, nm, hW161, Or.inl ⟨rfl, none, go_bad (show ¬ hereF L T (gapF T L a) = 47 by rw [← ea16]; exact hb28) (Or.inl (show ¬ hereF L T (gapF T L a) = 41 by rw [← ea16]; exact hb29)) (Or.inr hb105) (Or.inr (by rw [← ea16]; omega)) (Or.inr ⟨(show ¬ hereF L T (gapF T L a) = 10 by rw [← ea16]; exact hb155), (show ¬ hereF L T (gapF T L a) < 0 by rw [← ea16]; exact Int32.not_lt.mpr hb157)⟩), Or.inl ⟨⟨kk163, kk164, hT, hwr162.1, _, by omega, kk170⟩, rfl⟩⟩⟩, by show va_P _ _ _ t.heap; rw [ht]; exact hP⟩, hS.F ht⟩) hS.2.2 d_Mo_goesOn_211
                  · refine lv_iconst (v := 0) Bx.1 Bx.2.1 d_Mo_goesOn_199 (by decide) ?_
                    have hI0 : Inv R Ec u 0 True fc fs ft A (fun _ => False) := by rw [← hf0]; exact hI
                    have h390 : A 239 0 = -1 := by rw [← hf0]; exact h39
                    exact W.zret (v := 0) hx hb hr rfl (fun t ht hW => ⟨⟨0, mem10, rfl, ⟨J15, A, nm, hW14, Or.inr ⟨rfl, a11, by omega, by rw [go_end (show ¬ hereF L T (gapF T L a) = 47 by rw [← ea16]; exact hb28) (Or.inl (show ¬ hereF L T (gapF T L a) = 41 by rw [← ea16]; exact hb29)) (Or.inr hb105) (Or.inr (by rw [← ea16]; omega)) hb141 (Or.inr (show hereF L T (gapF T L a) < 0 by rw [← ea16]; exact Int32.not_le.mp hb157)), ← ea16], ⟨kk17, kk18, kk25, kk19, kk20, kk21, kk22⟩, ⟨by omega, by omega, by omega, by omega, by omega⟩, hT, hI0.base hEb h390⟩⟩, by show va_P _ _ _ t.heap; rw [ht]; exact hP⟩, hS.F ht⟩) hS.2.2 d_Mo_goesOn_200
            · have hN171 : ¬ a11 ≤ a := fun q9 => hb139 (show nI (a11) ≤ nI (a) from (nI_leI (by omega) (by omega)).mpr q9)
              refine lv_aload_n Bx.1 Bx.2.1 d_Mo_goesOn_173 rfl (lv_at hl 3 rfl) ?_
              refine f_callVv (na := 0) (As := []) (rest := []) Bx hml E hP hD hS (by omega) hW14.1 rfl (m_Mo_repetitionX l hn hW14 ⟨kk17, kk18, kk25, kk19, kk20, kk21, kk22, kk23⟩ ⟨hL, by omega, by omega, by omega, by omega⟩ (by omega) hT kk24 hI h39) kw_826 kw_828 sel_Mo_repetition kw_8 kw_829 (by decide +kernel) ⟨rfl, rfl⟩ ⟨Nat.le_of_ble_eq_true rfl, Nat.le_of_ble_eq_true rfl⟩ rfl hl.1 (Nat.le_of_ble_eq_true rfl) d_Mo_goesOn_174 ⟨Nat.le_of_ble_eq_true rfl, Nat.le_of_ble_eq_true rfl⟩ (fun mem173 H locs hq hP hS => ?_)
              have hD : va_D (Az sz) (fw n ad mem173) := fw_D hD
              obtain ⟨J174, A175, nn176, hW177, hres178⟩ := hq
              refine lv_goto Bx.1 Bx.2.1 d_Mo_goesOn_177 rfl ?_
              refine lv_iconst (v := 1) Bx.1 Bx.2.1 d_Mo_goesOn_210 (by decide) ?_
              exact W.zret (v := 1) hx hb hr rfl (fun t ht hW => ⟨⟨1, mem173, rfl, ⟨J174, A175, nn176, hW177, Or.inl ⟨rfl, _, by rw [go_re (show ¬ hereF L T (gapF T L a) = 47 by rw [← ea16]; exact hb28) (Or.inl (show ¬ hereF L T (gapF T L a) = 41 by rw [← ea16]; exact hb29)) (Or.inr hb105) (show bgF (hereF L T (gapF T L a)) = true by rw [← ea16]; exact bg_1 hb108) (by rw [← ea16]; omega), ← ea16], hres178.mono (by omega) rfl⟩⟩, by show va_P _ _ _ t.heap; rw [ht]; exact hP⟩, hS.F ht⟩) hS.2.2 d_Mo_goesOn_211
        · have hso : A 235 f = 2 := hb105
          have hf1x : 1 ≤ f := Nat.pos_of_ne_zero (fun z => by have := hfg.2.1 z; rw [hso] at this; exact absurd this (by decide))
          obtain ⟨f1, hf1⟩ : ∃ f1, f = f1 + 1 := ⟨f - 1, by omega⟩
          have hI1 : Inv R Ec u (f1 + 1) True fc fs ft A (fun _ => False) := by rw [← hf1]; exact hI
          have h391 : A 239 (f1 + 1) = -1 := by rw [← hf1]; exact h39
          have hte := (hfg.2.2.1 hf1x).resolve_left (fun z => by rw [z.1] at hso; exact absurd hso (by decide))
          refine lv_aload_n Bx.1 Bx.2.1 d_Mo_goesOn_80 rfl (lv_at hl 3 rfl) ?_
          refine lv_dup Bx.1 Bx.2.1 d_Mo_goesOn_81 rfl ?_
          refine f_get Bx hP (by omega) hW14.1 rfl inMo 16 (by decide) kw_672 rfl rfl d_Mo_goesOn_82 ?_
          rw [kk25]
          refine lv_iconst (v := 1) Bx.1 Bx.2.1 d_Mo_goesOn_85 (by decide) ?_
          refine lv_iadd Bx.1 Bx.2.1 d_Mo_goesOn_86 ?_
          rw [show nI a11 + 1 = nI (a11 + 1) from nI_add (a11) (1)]
          refine f_put Bx hP hD hS (by omega) hW14.1 rfl inMo tyMo okMo nmMo 16 (by decide) kw_672 rfl rfl rfl rfl (Nat.le_of_ble_eq_true rfl) d_Mo_goesOn_87 (fun H locs hP hS => ?_)
          obtain ⟨J179, eJ179⟩ : ∃ z, z = va_up J15 16 (nI (a11 + 1)) := ⟨_, rfl⟩
          obtain ⟨mem180, e_mem180⟩ : ∃ z, z = va_up mem10 224 (moC ad J179) := ⟨_, rfl⟩
          have hP : va_P D vcl (fw n ad mem180) H := by rw [e_mem180, eJ179]; exact hP
          have hD : va_D (Az sz) (fw n ad mem180) := fw_D hD
          have hW181 : MW cy ad J179 A nm m0 mem180 := by rw [e_mem180]; exact hW14.upJ (by rw [eJ179]; exact va_up_ne _ _ (by decide))
          have kk182 : J179 1 = nI L := by rw [eJ179]; exact kk17
          have kk183 : J179 24 = nI G := by rw [eJ179]; exact kk18
          have kk184 : J179 17 = 0 := by rw [eJ179]; exact kk19
          have kk185 : J179 14 = nI u := by rw [eJ179]; exact kk20
          have kk186 : J179 4 = nI R := by rw [eJ179]; exact kk21
          have kk187 : J179 7 = nI Ec := by rw [eJ179]; exact kk22
          have kk188 : J179 18 = nI (f + 1) := by rw [eJ179]; exact kk23
          have kk189 : J179 28 = 0 := by rw [eJ179]; exact kk24
          have kk190 : J179 16 = nI (a11 + 1) := by rw [eJ179, va_up_self]
          refine lv_aload_n Bx.1 Bx.2.1 d_Mo_goesOn_90 rfl (lv_at hl 3 rfl) ?_
          refine f_get Bx hP (by omega) hW181.1 rfl inMo 19 (by decide) kw_675 rfl rfl d_Mo_goesOn_91 ?_
          refine lv_iload_n Bx.1 Bx.2.1 d_Mo_goesOn_94 rfl (lv_at hl 0 rfl) ?_
          refine f_iald Bx hP (by omega) (show mem180 235 = .inl (cy 1, 8, .inl (A 235)) from hW181.2.2.1 235 (by decide) (by decide) (by decide)) (vp_in_nI (n := f) (by omega) (by decide)) d_Mo_goesOn_95 ?_
          rw [nI_clamp (n := f) (by omega)]
          rw [hso]
          refine lv_iconst (v := 1) Bx.1 Bx.2.1 d_Mo_goesOn_96 (by decide) ?_
          refine lv_icmp_ne Bx.1 Bx.2.1 d_Mo_goesOn_97 rfl (fun hb191 => ?_) (fun hb191 => ?_)
          · refine lv_aload_n Bx.1 Bx.2.1 d_Mo_goesOn_109 rfl (lv_at hl 3 rfl) ?_
            refine f_get Bx hP (by omega) hW181.1 rfl inMo 20 (by decide) kw_676 rfl rfl d_Mo_goesOn_110 ?_
            refine lv_iload_n Bx.1 Bx.2.1 d_Mo_goesOn_113 rfl (lv_at hl 0 rfl) ?_
            refine f_iald Bx hP (by omega) (show mem180 236 = .inl (cy 1, 8, .inl (A 236)) from hW181.2.2.1 236 (by decide) (by decide) (by decide)) (vp_in_nI (n := f) (by omega) (by decide)) d_Mo_goesOn_114 ?_
            rw [nI_clamp (n := f) (by omega)]
            rw [hte.2.1, show ft f = ft (f1 + 1) by rw [← hf1]]
            refine lv_istore (lv' := [(4, .int (nI (ft (f1 + 1)))), (3, .int (nI (f))), (2, .int (hereF L T (a11))), (1, .int (nI a)), (0, .ref (ad 224))]) Bx.1 Bx.2.1 d_Mo_goesOn_115 hl (by decide) rfl (fun ls hl => ?_)
            refine lv_aload_n Bx.1 Bx.2.1 d_Mo_goesOn_117 rfl (lv_at hl 4 rfl) ?_
            refine f_get Bx hP (by omega) hW181.1 rfl inMo 19 (by decide) kw_675 rfl rfl d_Mo_goesOn_118 ?_
            refine lv_iload_n Bx.1 Bx.2.1 d_Mo_goesOn_121 rfl (lv_at hl 1 rfl) ?_
            refine f_iald Bx hP (by omega) (show mem180 235 = .inl (cy 1, 8, .inl (A 235)) from hW181.2.2.1 235 (by decide) (by decide) (by decide)) (vp_in_nI (n := f) (by omega) (by decide)) d_Mo_goesOn_122 ?_
            rw [nI_clamp (n := f) (by omega)]
            rw [hso]
            refine lv_iconst (v := 2) Bx.1 Bx.2.1 d_Mo_goesOn_123 (by decide) ?_
            refine lv_icmp_ne Bx.1 Bx.2.1 d_Mo_goesOn_124 rfl (fun hb192 => ?_) (fun hb192 => ?_)
            · exact absurd hb192 (by decide)
            · refine lv_aload_n Bx.1 Bx.2.1 d_Mo_goesOn_127 rfl (lv_at hl 4 rfl) ?_
              refine lv_iload Bx.1 Bx.2.1 d_Mo_goesOn_128 (lv_at hl 0 rfl) ?_
              refine lv_aload_n Bx.1 Bx.2.1 d_Mo_goesOn_130 rfl (lv_at hl 4 rfl) ?_
              refine f_get Bx hP (by omega) hW181.1 rfl inMo 21 (by decide) kw_677 rfl rfl d_Mo_goesOn_131 ?_
              refine lv_iload_n Bx.1 Bx.2.1 d_Mo_goesOn_134 rfl (lv_at hl 1 rfl) ?_
              refine f_iald Bx hP (by omega) (show mem180 237 = .inl (cy 1, 8, .inl (A 237)) from hW181.2.2.1 237 (by decide) (by decide) (by decide)) (vp_in_nI (n := f) (by omega) (by decide)) d_Mo_goesOn_135 ?_
              rw [nI_clamp (n := f) (by omega)]
              rw [hfg.1.1]
              have htf : ft (f1 + 1) = ft f := by rw [hf1]
              have hcc : CL (fc f) A := fun k hk => by
                by_cases e : k = ft f
                · rw [e, hte.2.2.2.1, hte.2.2.2.2]; exact ⟨Or.inl rfl, Or.inl rfl⟩
                · have := hfg.2.2.2.2.2.2 hf1x k (by omega)
                  exact ⟨this.1.mono (by omega), this.2.mono (by omega)⟩
              refine f_callVv (na := 2) (As := [.int (nI (ft (f1 + 1))), .int (nI (fc f))]) (rest := []) Bx hml E hP hD hS (by omega) hW181.1 rfl (m_Mo_appendX l hn hW181 (to := ft (f1 + 1)) (pa := fc f) hEb (show ft (f1 + 1) < fc f by omega) (show fc f < Ec by omega) hI.1 hcc) kw_822 kw_824 sel_Mo_append kw_8 kw_825 (by decide +kernel) ⟨rfl, rfl⟩ ⟨Nat.le_of_ble_eq_true rfl, Nat.le_of_ble_eq_true rfl⟩ rfl hl.1 (Nat.le_of_ble_eq_true rfl) d_Mo_goesOn_136 ⟨Nat.le_of_ble_eq_true rfl, Nat.le_of_ble_eq_true rfl⟩ (fun mem194 H locs hq hP hS => ?_)
              have hD : va_D (Az sz) (fw n ad mem194) := fw_D hD
              obtain ⟨hW196, hap197⟩ := hq
              obtain ⟨A195, eA195⟩ : ∃ z, z = appS A (ft (f1 + 1)) (fc f) := ⟨_, rfl⟩
              rw [← eA195] at hW196 hap197
              have tT198 : A195 225 = T := by
                obtain ⟨_, _, _, k3, _⟩ := hap197.at
                rw [k3 225 (by decide) (by decide)]; exact hT
              have hA1 := hap197.resolve_right (fun z => z.1 (by rw [htf]; exact hte.2.2.2.1))
              refine lv_aload_n Bx.1 Bx.2.1 d_Mo_goesOn_139 rfl (lv_at hl 4 rfl) ?_
              refine lv_dup Bx.1 Bx.2.1 d_Mo_goesOn_140 rfl ?_
              refine f_get Bx hP (by omega) hW196.1 rfl inMo 18 (by decide) kw_674 rfl rfl d_Mo_goesOn_141 ?_
              rw [kk188]
              refine lv_iconst (v := 1) Bx.1 Bx.2.1 d_Mo_goesOn_144 (by decide) ?_
              refine lv_isub Bx.1 Bx.2.1 d_Mo_goesOn_145 ?_
              rw [show nI (f + 1) - 1 = nI (f) from nI_pred (f)]
              refine f_put Bx hP hD hS (by omega) hW196.1 rfl inMo tyMo okMo nmMo 18 (by decide) kw_674 rfl rfl rfl rfl (Nat.le_of_ble_eq_true rfl) d_Mo_goesOn_146 (fun H locs hP hS => ?_)
              obtain ⟨J199, eJ199⟩ : ∃ z, z = va_up J179 18 (nI (f)) := ⟨_, rfl⟩
              obtain ⟨mem200, e_mem200⟩ : ∃ z, z = va_up mem194 224 (moC ad J199) := ⟨_, rfl⟩
              have hP : va_P D vcl (fw n ad mem200) H := by rw [e_mem200, eJ199]; exact hP
              have hD : va_D (Az sz) (fw n ad mem200) := fw_D hD
              have hW201 : MW cy ad J199 A195 nm m0 mem200 := by rw [e_mem200]; exact hW196.upJ (by rw [eJ199]; exact va_up_ne _ _ (by decide))
              have kk202 : J199 1 = nI L := by rw [eJ199]; exact kk182
              have kk203 : J199 24 = nI G := by rw [eJ199]; exact kk183
              have kk204 : J199 17 = 0 := by rw [eJ199]; exact kk184
              have kk205 : J199 14 = nI u := by rw [eJ199]; exact kk185
              have kk206 : J199 4 = nI R := by rw [eJ199]; exact kk186
              have kk207 : J199 7 = nI Ec := by rw [eJ199]; exact kk187
              have kk208 : J199 28 = 0 := by rw [eJ199]; exact kk189
              have kk209 : J199 16 = nI (a11 + 1) := by rw [eJ199]; exact kk190
              have kk210 : J199 18 = nI (f) := by rw [eJ199, va_up_self]
              refine lv_aload_n Bx.1 Bx.2.1 d_Mo_goesOn_149 rfl (lv_at hl 4 rfl) ?_
              refine lv_iload Bx.1 Bx.2.1 d_Mo_goesOn_150 (lv_at hl 0 rfl) ?_
              obtain ⟨hp1, hp2, hp3, hp4, hp5⟩ := hI1.pop hEb h391 (A' := A195) (fun j hj => by rw [hA1.2, va_up_ne _ _ hj]) (fun k hk => by rw [hA1.2, va_up_self]; exact upd_ne hk) (fun _ => by rw [hA1.2, va_up_self, upd_self]; exact nI_m (by omega)) (fun z => absurd (by rw [← hf1]; exact hso) z) (hap197.LK (by omega) (by omega) hI.1) (fun _ z => z)
              have hk18 : J199 18 = nI (f1 + 1) := by rw [kk210, hf1]
              refine f_callVv (na := 1) (As := [.int (nI (ft (f1 + 1)))]) (rest := []) Bx hml E hP hD hS (by omega) hW201.1 rfl (m_Mo_placedX l hn hW201 (e9 := ft (f1 + 1)) hk18 (by omega) (by omega) hp1 (by omega) hp3 hp5 hp2) kw_834 kw_836 sel_Mo_placed kw_8 kw_837 (by decide +kernel) ⟨rfl, rfl⟩ ⟨Nat.le_of_ble_eq_true rfl, Nat.le_of_ble_eq_true rfl⟩ rfl hl.1 (Nat.le_of_ble_eq_true rfl) d_Mo_goesOn_152 ⟨Nat.le_of_ble_eq_true rfl, Nat.le_of_ble_eq_true rfl⟩ (fun mem212 H locs hq hP hS => ?_)
              have hD : va_D (Az sz) (fw n ad mem212) := fw_D hD
              obtain ⟨hW214, hinv215, h39216, hj217⟩ := hq
              obtain ⟨A213, eA213⟩ : ∃ z, z = plcS A195 (f1) (ft (f1 + 1)) := ⟨_, rfl⟩
              rw [← eA213] at hW214 hinv215 h39216 hj217
              have tT218 : A213 225 = T := (hj217 225 (by decide) (by decide) (by decide)).trans tT198
              refine lv_goto Bx.1 Bx.2.1 d_Mo_goesOn_155 rfl ?_
              refine lv_iconst (v := 1) Bx.1 Bx.2.1 d_Mo_goesOn_210 (by decide) ?_
              exact W.zret (v := 1) hx hb hr rfl (fun t ht hW => ⟨⟨1, mem212, rfl, ⟨J199, A213, nm, hW214, Or.inl ⟨rfl, some (a11 + 1, u, R, Ec, f1, A213, nm, false), by rw [go_c2 (show hereF L T (gapF T L a) = 93 by rw [← ea16]; exact hb30) hso hf1 (e := ft (f1 + 1)) (c := fc f) (by rw [hte.2.1, show ft f = ft (f1 + 1) by rw [← hf1]]) (by omega) hfg.1.1 (by omega), ← ea16, eA213, eA195]; rfl, Or.inr ⟨a11 + 1, u, R, Ec, f1, false, by omega, rfl, ⟨kk202, kk203, kk209, kk204, kk205, kk206, kk207, hk18⟩, ⟨by omega, by omega, by omega, by omega, by omega, by omega⟩, tT218, kk208, fc, fs, ft, hinv215.qT, h39216⟩⟩⟩, by show va_P _ _ _ t.heap; rw [ht]; exact hP⟩, hS.F ht⟩) hS.2.2 d_Mo_goesOn_211
          · exact absurd hb191 (by decide)
    · have hlt219 := hereF_lt (by rw [hb29]; decide)
      refine lv_aload_n Bx.1 Bx.2.1 d_Mo_goesOn_54 rfl (lv_at hl 3 rfl) ?_
      refine f_get Bx hP (by omega) hW14.1 rfl inMo 19 (by decide) kw_675 rfl rfl d_Mo_goesOn_55 ?_
      refine lv_iload_n Bx.1 Bx.2.1 d_Mo_goesOn_58 rfl (lv_at hl 0 rfl) ?_
      refine f_iald Bx hP (by omega) (show mem10 235 = .inl (cy 1, 8, .inl (A 235)) from hW14.2.2.1 235 (by decide) (by decide) (by decide)) (vp_in_nI (n := f) (by omega) (by decide)) d_Mo_goesOn_59 ?_
      rw [nI_clamp (n := f) (by omega)]
      refine lv_iconst (v := 1) Bx.1 Bx.2.1 d_Mo_goesOn_60 (by decide) ?_
      refine lv_icmp_eq Bx.1 Bx.2.1 d_Mo_goesOn_61 rfl (fun hb220 => ?_) (fun hb220 => ?_)
      · have hso : A 235 f = 1 := hb220
        have hf1x : 1 ≤ f := Nat.pos_of_ne_zero (fun z => by have := hfg.2.1 z; rw [hso] at this; exact absurd this (by decide))
        obtain ⟨f1, hf1⟩ : ∃ f1, f = f1 + 1 := ⟨f - 1, by omega⟩
        have hI1 : Inv R Ec u (f1 + 1) True fc fs ft A (fun _ => False) := by rw [← hf1]; exact hI
        have h391 : A 239 (f1 + 1) = -1 := by rw [← hf1]; exact h39
        have hte : fc f = ft (f1 + 1) := by
          rw [← hf1]
          rcases hfg.2.2.1 hf1x with z | z
          · exact z.2.symm
          · rw [z.1] at hso; exact absurd hso (by decide)
        refine lv_aload_n Bx.1 Bx.2.1 d_Mo_goesOn_80 rfl (lv_at hl 3 rfl) ?_
        refine lv_dup Bx.1 Bx.2.1 d_Mo_goesOn_81 rfl ?_
        refine f_get Bx hP (by omega) hW14.1 rfl inMo 16 (by decide) kw_672 rfl rfl d_Mo_goesOn_82 ?_
        rw [kk25]
        refine lv_iconst (v := 1) Bx.1 Bx.2.1 d_Mo_goesOn_85 (by decide) ?_
        refine lv_iadd Bx.1 Bx.2.1 d_Mo_goesOn_86 ?_
        rw [show nI a11 + 1 = nI (a11 + 1) from nI_add (a11) (1)]
        refine f_put Bx hP hD hS (by omega) hW14.1 rfl inMo tyMo okMo nmMo 16 (by decide) kw_672 rfl rfl rfl rfl (Nat.le_of_ble_eq_true rfl) d_Mo_goesOn_87 (fun H locs hP hS => ?_)
        obtain ⟨J221, eJ221⟩ : ∃ z, z = va_up J15 16 (nI (a11 + 1)) := ⟨_, rfl⟩
        obtain ⟨mem222, e_mem222⟩ : ∃ z, z = va_up mem10 224 (moC ad J221) := ⟨_, rfl⟩
        have hP : va_P D vcl (fw n ad mem222) H := by rw [e_mem222, eJ221]; exact hP
        have hD : va_D (Az sz) (fw n ad mem222) := fw_D hD
        have hW223 : MW cy ad J221 A nm m0 mem222 := by rw [e_mem222]; exact hW14.upJ (by rw [eJ221]; exact va_up_ne _ _ (by decide))
        have kk224 : J221 1 = nI L := by rw [eJ221]; exact kk17
        have kk225 : J221 24 = nI G := by rw [eJ221]; exact kk18
        have kk226 : J221 17 = 0 := by rw [eJ221]; exact kk19
        have kk227 : J221 14 = nI u := by rw [eJ221]; exact kk20
        have kk228 : J221 4 = nI R := by rw [eJ221]; exact kk21
        have kk229 : J221 7 = nI Ec := by rw [eJ221]; exact kk22
        have kk230 : J221 18 = nI (f + 1) := by rw [eJ221]; exact kk23
        have kk231 : J221 28 = 0 := by rw [eJ221]; exact kk24
        have kk232 : J221 16 = nI (a11 + 1) := by rw [eJ221, va_up_self]
        refine lv_aload_n Bx.1 Bx.2.1 d_Mo_goesOn_90 rfl (lv_at hl 3 rfl) ?_
        refine f_get Bx hP (by omega) hW223.1 rfl inMo 19 (by decide) kw_675 rfl rfl d_Mo_goesOn_91 ?_
        refine lv_iload_n Bx.1 Bx.2.1 d_Mo_goesOn_94 rfl (lv_at hl 0 rfl) ?_
        refine f_iald Bx hP (by omega) (show mem222 235 = .inl (cy 1, 8, .inl (A 235)) from hW223.2.2.1 235 (by decide) (by decide) (by decide)) (vp_in_nI (n := f) (by omega) (by decide)) d_Mo_goesOn_95 ?_
        rw [nI_clamp (n := f) (by omega)]
        rw [hso]
        refine lv_iconst (v := 1) Bx.1 Bx.2.1 d_Mo_goesOn_96 (by decide) ?_
        refine lv_icmp_ne Bx.1 Bx.2.1 d_Mo_goesOn_97 rfl (fun hb233 => ?_) (fun hb233 => ?_)
        · exact absurd hb233 (by decide)
        · refine lv_aload_n Bx.1 Bx.2.1 d_Mo_goesOn_100 rfl (lv_at hl 3 rfl) ?_
          refine f_get Bx hP (by omega) hW223.1 rfl inMo 21 (by decide) kw_677 rfl rfl d_Mo_goesOn_101 ?_
          refine lv_iload_n Bx.1 Bx.2.1 d_Mo_goesOn_104 rfl (lv_at hl 0 rfl) ?_
          refine f_iald Bx hP (by omega) (show mem222 237 = .inl (cy 1, 8, .inl (A 237)) from hW223.2.2.1 237 (by decide) (by decide) (by decide)) (vp_in_nI (n := f) (by omega) (by decide)) d_Mo_goesOn_105 ?_
          rw [nI_clamp (n := f) (by omega)]
          rw [hfg.1.1, hte]
          refine lv_goto Bx.1 Bx.2.1 d_Mo_goesOn_106 rfl ?_
          refine lv_istore (lv' := [(4, .int (nI (ft (f1 + 1)))), (3, .int (nI (f))), (2, .int (hereF L T (a11))), (1, .int (nI a)), (0, .ref (ad 224))]) Bx.1 Bx.2.1 d_Mo_goesOn_115 hl (by decide) rfl (fun ls hl => ?_)
          refine lv_aload_n Bx.1 Bx.2.1 d_Mo_goesOn_117 rfl (lv_at hl 4 rfl) ?_
          refine f_get Bx hP (by omega) hW223.1 rfl inMo 19 (by decide) kw_675 rfl rfl d_Mo_goesOn_118 ?_
          refine lv_iload_n Bx.1 Bx.2.1 d_Mo_goesOn_121 rfl (lv_at hl 1 rfl) ?_
          refine f_iald Bx hP (by omega) (show mem222 235 = .inl (cy 1, 8, .inl (A 235)) from hW223.2.2.1 235 (by decide) (by decide) (by decide)) (vp_in_nI (n := f) (by omega) (by decide)) d_Mo_goesOn_122 ?_
          rw [nI_clamp (n := f) (by omega)]
          rw [hso]
          refine lv_iconst (v := 2) Bx.1 Bx.2.1 d_Mo_goesOn_123 (by decide) ?_
          refine lv_icmp_ne Bx.1 Bx.2.1 d_Mo_goesOn_124 rfl (fun hb234 => ?_) (fun hb234 => ?_)
          · refine lv_aload_n Bx.1 Bx.2.1 d_Mo_goesOn_139 rfl (lv_at hl 4 rfl) ?_
            refine lv_dup Bx.1 Bx.2.1 d_Mo_goesOn_140 rfl ?_
            refine f_get Bx hP (by omega) hW223.1 rfl inMo 18 (by decide) kw_674 rfl rfl d_Mo_goesOn_141 ?_
            rw [kk230]
            refine lv_iconst (v := 1) Bx.1 Bx.2.1 d_Mo_goesOn_144 (by decide) ?_
            refine lv_isub Bx.1 Bx.2.1 d_Mo_goesOn_145 ?_
            rw [show nI (f + 1) - 1 = nI (f) from nI_pred (f)]
            refine f_put Bx hP hD hS (by omega) hW223.1 rfl inMo tyMo okMo nmMo 18 (by decide) kw_674 rfl rfl rfl rfl (Nat.le_of_ble_eq_true rfl) d_Mo_goesOn_146 (fun H locs hP hS => ?_)
            obtain ⟨J235, eJ235⟩ : ∃ z, z = va_up J221 18 (nI (f)) := ⟨_, rfl⟩
            obtain ⟨mem236, e_mem236⟩ : ∃ z, z = va_up mem222 224 (moC ad J235) := ⟨_, rfl⟩
            have hP : va_P D vcl (fw n ad mem236) H := by rw [e_mem236, eJ235]; exact hP
            have hD : va_D (Az sz) (fw n ad mem236) := fw_D hD
            have hW237 : MW cy ad J235 A nm m0 mem236 := by rw [e_mem236]; exact hW223.upJ (by rw [eJ235]; exact va_up_ne _ _ (by decide))
            have kk238 : J235 1 = nI L := by rw [eJ235]; exact kk224
            have kk239 : J235 24 = nI G := by rw [eJ235]; exact kk225
            have kk240 : J235 17 = 0 := by rw [eJ235]; exact kk226
            have kk241 : J235 14 = nI u := by rw [eJ235]; exact kk227
            have kk242 : J235 4 = nI R := by rw [eJ235]; exact kk228
            have kk243 : J235 7 = nI Ec := by rw [eJ235]; exact kk229
            have kk244 : J235 28 = 0 := by rw [eJ235]; exact kk231
            have kk245 : J235 16 = nI (a11 + 1) := by rw [eJ235]; exact kk232
            have kk246 : J235 18 = nI (f) := by rw [eJ235, va_up_self]
            refine lv_aload_n Bx.1 Bx.2.1 d_Mo_goesOn_149 rfl (lv_at hl 4 rfl) ?_
            refine lv_iload Bx.1 Bx.2.1 d_Mo_goesOn_150 (lv_at hl 0 rfl) ?_
            obtain ⟨hp1, hp2, hp3, hp4, hp5⟩ := hI1.pop hEb h391 (A' := A) (fun _ _ => rfl) (fun _ _ => rfl) (fun z => by rw [← hf1, hso] at z; exact absurd z (by decide)) (fun _ => rfl) hI.1 (fun _ z => z)
            have hk18 : J235 18 = nI (f1 + 1) := by rw [kk246, hf1]
            refine f_callVv (na := 1) (As := [.int (nI (ft (f1 + 1)))]) (rest := []) Bx hml E hP hD hS (by omega) hW237.1 rfl (m_Mo_placedX l hn hW237 (e9 := ft (f1 + 1)) hk18 (by omega) (by omega) hp1 (by omega) hp3 hp5 hp2) kw_834 kw_836 sel_Mo_placed kw_8 kw_837 (by decide +kernel) ⟨rfl, rfl⟩ ⟨Nat.le_of_ble_eq_true rfl, Nat.le_of_ble_eq_true rfl⟩ rfl hl.1 (Nat.le_of_ble_eq_true rfl) d_Mo_goesOn_152 ⟨Nat.le_of_ble_eq_true rfl, Nat.le_of_ble_eq_true rfl⟩ (fun mem248 H locs hq hP hS => ?_)
            have hD : va_D (Az sz) (fw n ad mem248) := fw_D hD
            obtain ⟨hW250, hinv251, h39252, hj253⟩ := hq
            obtain ⟨A249, eA249⟩ : ∃ z, z = plcS A (f1) (ft (f1 + 1)) := ⟨_, rfl⟩
            rw [← eA249] at hW250 hinv251 h39252 hj253
            have tT254 : A249 225 = T := (hj253 225 (by decide) (by decide) (by decide)).trans hT
            refine lv_goto Bx.1 Bx.2.1 d_Mo_goesOn_155 rfl ?_
            refine lv_iconst (v := 1) Bx.1 Bx.2.1 d_Mo_goesOn_210 (by decide) ?_
            exact W.zret (v := 1) hx hb hr rfl (fun t ht hW => ⟨⟨1, mem248, rfl, ⟨J235, A249, nm, hW250, Or.inl ⟨rfl, some (a11 + 1, u, R, Ec, f1, A249, nm, false), by rw [go_c1 (show hereF L T (gapF T L a) = 41 by rw [← ea16]; exact hb29) hso hf1 (e := ft (f1 + 1)) (by rw [hfg.1.1, hte]) (by omega), ← ea16, eA249]; rfl, Or.inr ⟨a11 + 1, u, R, Ec, f1, false, by omega, rfl, ⟨kk238, kk239, kk245, kk240, kk241, kk242, kk243, hk18⟩, ⟨by omega, by omega, by omega, by omega, by omega, by omega⟩, tT254, kk244, fc, fs, ft, hinv251.qT, h39252⟩⟩⟩, by show va_P _ _ _ t.heap; rw [ht]; exact hP⟩, hS.F ht⟩) hS.2.2 d_Mo_goesOn_211
          · exact absurd hb234 (by decide)
      · refine lv_iload_n Bx.1 Bx.2.1 d_Mo_goesOn_64 rfl (lv_at hl 1 rfl) ?_
        refine lv_bipush (v := 93) Bx.1 Bx.2.1 d_Mo_goesOn_65 (by decide) ?_
        refine lv_icmp_ne Bx.1 Bx.2.1 d_Mo_goesOn_67 rfl (fun hb255 => ?_) (fun hb255 => ?_)
        · refine lv_iload_n Bx.1 Bx.2.1 d_Mo_goesOn_158 rfl (lv_at hl 1 rfl) ?_
          refine f_callSi (na := 1) (As := [.int (hereF L T (a11))]) (rest := []) Bx hml E.2.1 (m_Mo_beginsX l (hereF L T (a11))) kw_811 kw_812 kw_8 kw_813 (by decide +kernel) ⟨rfl, rfl⟩ ⟨Nat.le_of_ble_eq_true rfl, Nat.le_of_ble_eq_true rfl⟩ rfl hl.1 (Nat.le_of_ble_eq_true rfl) d_Mo_goesOn_159 ⟨Nat.le_of_ble_eq_true rfl, Nat.le_of_ble_eq_true rfl⟩ (fun r257 hs256 => ?_)
          subst hs256
          refine lv_if_eq Bx.1 Bx.2.1 d_Mo_goesOn_162 rfl (fun hb258 => ?_) (fun hb258 => ?_)
          · refine lv_aload_n Bx.1 Bx.2.1 d_Mo_goesOn_180 rfl (lv_at hl 3 rfl) ?_
            refine f_get Bx hP (by omega) hW14.1 rfl inMo 19 (by decide) kw_675 rfl rfl d_Mo_goesOn_181 ?_
            refine lv_iload_n Bx.1 Bx.2.1 d_Mo_goesOn_184 rfl (lv_at hl 0 rfl) ?_
            refine f_iald Bx hP (by omega) (show mem10 235 = .inl (cy 1, 8, .inl (A 235)) from hW14.2.2.1 235 (by decide) (by decide) (by decide)) (vp_in_nI (n := f) (by omega) (by decide)) d_Mo_goesOn_185 ?_
            rw [nI_clamp (n := f) (by omega)]
            refine lv_if_ne Bx.1 Bx.2.1 d_Mo_goesOn_186 rfl (fun hb259 => ?_) (fun hb259 => ?_)
            · refine lv_aload_n Bx.1 Bx.2.1 d_Mo_goesOn_201 rfl (lv_at hl 3 rfl) ?_
              refine lv_iconst (v := 1) Bx.1 Bx.2.1 d_Mo_goesOn_202 (by decide) ?_
              refine lv_aload_n Bx.1 Bx.2.1 d_Mo_goesOn_203 rfl (lv_at hl 3 rfl) ?_
              refine f_get Bx hP (by omega) hW14.1 rfl inMo 16 (by decide) kw_672 rfl rfl d_Mo_goesOn_204 ?_
              rw [kk25]
              refine f_callVv (na := 2) (As := [.int (1), .int (nI a11)]) (rest := []) Bx hml E hP hD hS (by omega) hW14.1 rfl (m_Mo_wrong l hn hW14 (Or.inl kk19) (by first | exact Or.inl rfl | exact Or.inr rfl)) kw_799 kw_801 sel_Mo_wrong kw_8 kw_802 (by decide +kernel) ⟨rfl, rfl⟩ ⟨Nat.le_of_ble_eq_true rfl, Nat.le_of_ble_eq_true rfl⟩ rfl hl.1 (Nat.le_of_ble_eq_true rfl) d_Mo_goesOn_207 ⟨Nat.le_of_ble_eq_true rfl, Nat.le_of_ble_eq_true rfl⟩ (fun mem261 H locs hq hP hS => ?_)
              have hD : va_D (Az sz) (fw n ad mem261) := fw_D hD
              obtain ⟨J262, hW263, hwr264⟩ := hq
              have kk265 : J262 1 = nI L := (show J262 1 = J15 1 from hwr264.2 1 (by decide) (by decide)).trans kk17
              have kk266 : J262 24 = nI G := (show J262 24 = J15 24 from hwr264.2 24 (by decide) (by decide)).trans kk18
              have kk267 : J262 14 = nI u := (show J262 14 = J15 14 from hwr264.2 14 (by decide) (by decide)).trans kk20
              have kk268 : J262 4 = nI R := (show J262 4 = J15 4 from hwr264.2 4 (by decide) (by decide)).trans kk21
              have kk269 : J262 7 = nI Ec := (show J262 7 = J15 7 from hwr264.2 7 (by decide) (by decide)).trans kk22
              have kk270 : J262 18 = nI (f + 1) := (show J262 18 = J15 18 from hwr264.2 18 (by decide) (by decide)).trans kk23
              have kk271 : J262 28 = 0 := (show J262 28 = J15 28 from hwr264.2 28 (by decide) (by decide)).trans kk24
              have kk272 : J262 16 = nI a11 := (show J262 16 = J15 16 from hwr264.2 16 (by decide) (by decide)).trans kk25
              refine lv_iconst (v := 1) Bx.1 Bx.2.1 d_Mo_goesOn_210 (by decide) ?_
              exact W.zret (v := 1) hx hb hr rfl (fun t ht hW => ⟨⟨1, mem261, rfl, ⟨J262, A, nm, hW263, Or.inl ⟨rfl, none, go_bad (show ¬ hereF L T (gapF T L a) = 47 by rw [← ea16]; exact hb28) (Or.inr hb220) (Or.inl (show ¬ hereF L T (gapF T L a) = 93 by rw [← ea16]; exact hb255)) (Or.inl (show bgF (hereF L T (gapF T L a)) = false by rw [← ea16]; exact bg_0 hb258)) (Or.inl hb259), Or.inl ⟨⟨kk265, kk266, hT, hwr264.1, _, by omega, kk272⟩, rfl⟩⟩⟩, by show va_P _ _ _ t.heap; rw [ht]; exact hP⟩, hS.F ht⟩) hS.2.2 d_Mo_goesOn_211
            · have hf0 : f = 0 := by
                by_cases z : f = 0
                · exact z
                · have hso0 : A 235 f = 0 := hb259
                  rcases hfg.2.2.1 (by omega) with y | y
                  · rw [y.1] at hso0; exact absurd hso0 (by decide)
                  · rw [y.1] at hso0; exact absurd hso0 (by decide)
              refine lv_iload_n Bx.1 Bx.2.1 d_Mo_goesOn_189 rfl (lv_at hl 1 rfl) ?_
              refine lv_bipush (v := 10) Bx.1 Bx.2.1 d_Mo_goesOn_190 (by decide) ?_
              refine lv_icmp_eq Bx.1 Bx.2.1 d_Mo_goesOn_192 rfl (fun hb273 => ?_) (fun hb273 => ?_)
              · have hlt274 := hereF_lt (by rw [hb273]; decide)
                refine lv_iconst (v := 0) Bx.1 Bx.2.1 d_Mo_goesOn_199 (by decide) ?_
                have hI0 : Inv R Ec u 0 True fc fs ft A (fun _ => False) := by rw [← hf0]; exact hI
                have h390 : A 239 0 = -1 := by rw [← hf0]; exact h39
                exact W.zret (v := 0) hx hb hr rfl (fun t ht hW => ⟨⟨0, mem10, rfl, ⟨J15, A, nm, hW14, Or.inr ⟨rfl, a11, by omega, by rw [go_end (show ¬ hereF L T (gapF T L a) = 47 by rw [← ea16]; exact hb28) (Or.inr hb220) (Or.inl (show ¬ hereF L T (gapF T L a) = 93 by rw [← ea16]; exact hb255)) (Or.inl (show bgF (hereF L T (gapF T L a)) = false by rw [← ea16]; exact bg_0 hb258)) hb259 (Or.inl (show hereF L T (gapF T L a) = 10 by rw [← ea16]; exact hb273)), ← ea16], ⟨kk17, kk18, kk25, kk19, kk20, kk21, kk22⟩, ⟨by omega, by omega, by omega, by omega, by omega⟩, hT, hI0.base hEb h390⟩⟩, by show va_P _ _ _ t.heap; rw [ht]; exact hP⟩, hS.F ht⟩) hS.2.2 d_Mo_goesOn_200
              · refine lv_iload_n Bx.1 Bx.2.1 d_Mo_goesOn_195 rfl (lv_at hl 1 rfl) ?_
                refine lv_if_ge Bx.1 Bx.2.1 d_Mo_goesOn_196 rfl (fun hb275 => ?_) (fun hb275 => ?_)
                · refine lv_aload_n Bx.1 Bx.2.1 d_Mo_goesOn_201 rfl (lv_at hl 3 rfl) ?_
                  refine lv_iconst (v := 1) Bx.1 Bx.2.1 d_Mo_goesOn_202 (by decide) ?_
                  refine lv_aload_n Bx.1 Bx.2.1 d_Mo_goesOn_203 rfl (lv_at hl 3 rfl) ?_
                  refine f_get Bx hP (by omega) hW14.1 rfl inMo 16 (by decide) kw_672 rfl rfl d_Mo_goesOn_204 ?_
                  rw [kk25]
                  refine f_callVv (na := 2) (As := [.int (1), .int (nI a11)]) (rest := []) Bx hml E hP hD hS (by omega) hW14.1 rfl (m_Mo_wrong l hn hW14 (Or.inl kk19) (by first | exact Or.inl rfl | exact Or.inr rfl)) kw_799 kw_801 sel_Mo_wrong kw_8 kw_802 (by decide +kernel) ⟨rfl, rfl⟩ ⟨Nat.le_of_ble_eq_true rfl, Nat.le_of_ble_eq_true rfl⟩ rfl hl.1 (Nat.le_of_ble_eq_true rfl) d_Mo_goesOn_207 ⟨Nat.le_of_ble_eq_true rfl, Nat.le_of_ble_eq_true rfl⟩ (fun mem277 H locs hq hP hS => ?_)
                  have hD : va_D (Az sz) (fw n ad mem277) := fw_D hD
                  obtain ⟨J278, hW279, hwr280⟩ := hq
                  have kk281 : J278 1 = nI L := (show J278 1 = J15 1 from hwr280.2 1 (by decide) (by decide)).trans kk17
                  have kk282 : J278 24 = nI G := (show J278 24 = J15 24 from hwr280.2 24 (by decide) (by decide)).trans kk18
                  have kk283 : J278 14 = nI u := (show J278 14 = J15 14 from hwr280.2 14 (by decide) (by decide)).trans kk20
                  have kk284 : J278 4 = nI R := (show J278 4 = J15 4 from hwr280.2 4 (by decide) (by decide)).trans kk21
                  have kk285 : J278 7 = nI Ec := (show J278 7 = J15 7 from hwr280.2 7 (by decide) (by decide)).trans kk22
                  have kk286 : J278 18 = nI (f + 1) := (show J278 18 = J15 18 from hwr280.2 18 (by decide) (by decide)).trans kk23
                  have kk287 : J278 28 = 0 := (show J278 28 = J15 28 from hwr280.2 28 (by decide) (by decide)).trans kk24
                  have kk288 : J278 16 = nI a11 := (show J278 16 = J15 16 from hwr280.2 16 (by decide) (by decide)).trans kk25
                  refine lv_iconst (v := 1) Bx.1 Bx.2.1 d_Mo_goesOn_210 (by decide) ?_
                  exact W.zret (v := 1) hx hb hr rfl (fun t ht hW => ⟨⟨1, mem277, rfl, ⟨J278, A, nm, hW279, Or.inl ⟨rfl, none, go_bad (show ¬ hereF L T (gapF T L a) = 47 by rw [← ea16]; exact hb28) (Or.inr hb220) (Or.inl (show ¬ hereF L T (gapF T L a) = 93 by rw [← ea16]; exact hb255)) (Or.inl (show bgF (hereF L T (gapF T L a)) = false by rw [← ea16]; exact bg_0 hb258)) (Or.inr ⟨(show ¬ hereF L T (gapF T L a) = 10 by rw [← ea16]; exact hb273), (show ¬ hereF L T (gapF T L a) < 0 by rw [← ea16]; exact Int32.not_lt.mpr hb275)⟩), Or.inl ⟨⟨kk281, kk282, hT, hwr280.1, _, by omega, kk288⟩, rfl⟩⟩⟩, by show va_P _ _ _ t.heap; rw [ht]; exact hP⟩, hS.F ht⟩) hS.2.2 d_Mo_goesOn_211
                · refine lv_iconst (v := 0) Bx.1 Bx.2.1 d_Mo_goesOn_199 (by decide) ?_
                  have hI0 : Inv R Ec u 0 True fc fs ft A (fun _ => False) := by rw [← hf0]; exact hI
                  have h390 : A 239 0 = -1 := by rw [← hf0]; exact h39
                  exact W.zret (v := 0) hx hb hr rfl (fun t ht hW => ⟨⟨0, mem10, rfl, ⟨J15, A, nm, hW14, Or.inr ⟨rfl, a11, by omega, by rw [go_end (show ¬ hereF L T (gapF T L a) = 47 by rw [← ea16]; exact hb28) (Or.inr hb220) (Or.inl (show ¬ hereF L T (gapF T L a) = 93 by rw [← ea16]; exact hb255)) (Or.inl (show bgF (hereF L T (gapF T L a)) = false by rw [← ea16]; exact bg_0 hb258)) hb259 (Or.inr (show hereF L T (gapF T L a) < 0 by rw [← ea16]; exact Int32.not_le.mp hb275)), ← ea16], ⟨kk17, kk18, kk25, kk19, kk20, kk21, kk22⟩, ⟨by omega, by omega, by omega, by omega, by omega⟩, hT, hI0.base hEb h390⟩⟩, by show va_P _ _ _ t.heap; rw [ht]; exact hP⟩, hS.F ht⟩) hS.2.2 d_Mo_goesOn_200
          · refine lv_aload_n Bx.1 Bx.2.1 d_Mo_goesOn_165 rfl (lv_at hl 3 rfl) ?_
            refine f_get Bx hP (by omega) hW14.1 rfl inMo 16 (by decide) kw_672 rfl rfl d_Mo_goesOn_166 ?_
            rw [kk25]
            refine lv_iload_n Bx.1 Bx.2.1 d_Mo_goesOn_169 rfl (lv_at hl 2 rfl) ?_
            refine lv_icmp_le Bx.1 Bx.2.1 d_Mo_goesOn_170 rfl (fun hb289 => ?_) (fun hb289 => ?_)
            · have hN290 : a11 ≤ a := (nI_leI (by omega) (by omega)).mp (show nI (a11) ≤ nI (a) from hb289)
              refine lv_aload_n Bx.1 Bx.2.1 d_Mo_goesOn_180 rfl (lv_at hl 3 rfl) ?_
              refine f_get Bx hP (by omega) hW14.1 rfl inMo 19 (by decide) kw_675 rfl rfl d_Mo_goesOn_181 ?_
              refine lv_iload_n Bx.1 Bx.2.1 d_Mo_goesOn_184 rfl (lv_at hl 0 rfl) ?_
              refine f_iald Bx hP (by omega) (show mem10 235 = .inl (cy 1, 8, .inl (A 235)) from hW14.2.2.1 235 (by decide) (by decide) (by decide)) (vp_in_nI (n := f) (by omega) (by decide)) d_Mo_goesOn_185 ?_
              rw [nI_clamp (n := f) (by omega)]
              refine lv_if_ne Bx.1 Bx.2.1 d_Mo_goesOn_186 rfl (fun hb291 => ?_) (fun hb291 => ?_)
              · refine lv_aload_n Bx.1 Bx.2.1 d_Mo_goesOn_201 rfl (lv_at hl 3 rfl) ?_
                refine lv_iconst (v := 1) Bx.1 Bx.2.1 d_Mo_goesOn_202 (by decide) ?_
                refine lv_aload_n Bx.1 Bx.2.1 d_Mo_goesOn_203 rfl (lv_at hl 3 rfl) ?_
                refine f_get Bx hP (by omega) hW14.1 rfl inMo 16 (by decide) kw_672 rfl rfl d_Mo_goesOn_204 ?_
                rw [kk25]
                refine f_callVv (na := 2) (As := [.int (1), .int (nI a11)]) (rest := []) Bx hml E hP hD hS (by omega) hW14.1 rfl (m_Mo_wrong l hn hW14 (Or.inl kk19) (by first | exact Or.inl rfl | exact Or.inr rfl)) kw_799 kw_801 sel_Mo_wrong kw_8 kw_802 (by decide +kernel) ⟨rfl, rfl⟩ ⟨Nat.le_of_ble_eq_true rfl, Nat.le_of_ble_eq_true rfl⟩ rfl hl.1 (Nat.le_of_ble_eq_true rfl) d_Mo_goesOn_207 ⟨Nat.le_of_ble_eq_true rfl, Nat.le_of_ble_eq_true rfl⟩ (fun mem293 H locs hq hP hS => ?_)
                have hD : va_D (Az sz) (fw n ad mem293) := fw_D hD
                obtain ⟨J294, hW295, hwr296⟩ := hq
                have kk297 : J294 1 = nI L := (show J294 1 = J15 1 from hwr296.2 1 (by decide) (by decide)).trans kk17
                have kk298 : J294 24 = nI G := (show J294 24 = J15 24 from hwr296.2 24 (by decide) (by decide)).trans kk18
                have kk299 : J294 14 = nI u := (show J294 14 = J15 14 from hwr296.2 14 (by decide) (by decide)).trans kk20
                have kk300 : J294 4 = nI R := (show J294 4 = J15 4 from hwr296.2 4 (by decide) (by decide)).trans kk21
                have kk301 : J294 7 = nI Ec := (show J294 7 = J15 7 from hwr296.2 7 (by decide) (by decide)).trans kk22
                have kk302 : J294 18 = nI (f + 1) := (show J294 18 = J15 18 from hwr296.2 18 (by decide) (by decide)).trans kk23
                have kk303 : J294 28 = 0 := (show J294 28 = J15 28 from hwr296.2 28 (by decide) (by decide)).trans kk24
                have kk304 : J294 16 = nI a11 := (show J294 16 = J15 16 from hwr296.2 16 (by decide) (by decide)).trans kk25
                refine lv_iconst (v := 1) Bx.1 Bx.2.1 d_Mo_goesOn_210 (by decide) ?_
                exact W.zret (v := 1) hx hb hr rfl (fun t ht hW => ⟨⟨1, mem293, rfl, ⟨J294, A, nm, hW295, Or.inl ⟨rfl, none, go_bad (show ¬ hereF L T (gapF T L a) = 47 by rw [← ea16]; exact hb28) (Or.inr hb220) (Or.inl (show ¬ hereF L T (gapF T L a) = 93 by rw [← ea16]; exact hb255)) (Or.inr (by rw [← ea16]; omega)) (Or.inl hb291), Or.inl ⟨⟨kk297, kk298, hT, hwr296.1, _, by omega, kk304⟩, rfl⟩⟩⟩, by show va_P _ _ _ t.heap; rw [ht]; exact hP⟩, hS.F ht⟩) hS.2.2 d_Mo_goesOn_211
              · have hf0 : f = 0 := by
                  by_cases z : f = 0
                  · exact z
                  · have hso0 : A 235 f = 0 := hb291
                    rcases hfg.2.2.1 (by omega) with y | y
                    · rw [y.1] at hso0; exact absurd hso0 (by decide)
                    · rw [y.1] at hso0; exact absurd hso0 (by decide)
                refine lv_iload_n Bx.1 Bx.2.1 d_Mo_goesOn_189 rfl (lv_at hl 1 rfl) ?_
                refine lv_bipush (v := 10) Bx.1 Bx.2.1 d_Mo_goesOn_190 (by decide) ?_
                refine lv_icmp_eq Bx.1 Bx.2.1 d_Mo_goesOn_192 rfl (fun hb305 => ?_) (fun hb305 => ?_)
                · have hlt306 := hereF_lt (by rw [hb305]; decide)
                  refine lv_iconst (v := 0) Bx.1 Bx.2.1 d_Mo_goesOn_199 (by decide) ?_
                  have hI0 : Inv R Ec u 0 True fc fs ft A (fun _ => False) := by rw [← hf0]; exact hI
                  have h390 : A 239 0 = -1 := by rw [← hf0]; exact h39
                  exact W.zret (v := 0) hx hb hr rfl (fun t ht hW => ⟨⟨0, mem10, rfl, ⟨J15, A, nm, hW14, Or.inr ⟨rfl, a11, by omega, by rw [go_end (show ¬ hereF L T (gapF T L a) = 47 by rw [← ea16]; exact hb28) (Or.inr hb220) (Or.inl (show ¬ hereF L T (gapF T L a) = 93 by rw [← ea16]; exact hb255)) (Or.inr (by rw [← ea16]; omega)) hb291 (Or.inl (show hereF L T (gapF T L a) = 10 by rw [← ea16]; exact hb305)), ← ea16], ⟨kk17, kk18, kk25, kk19, kk20, kk21, kk22⟩, ⟨by omega, by omega, by omega, by omega, by omega⟩, hT, hI0.base hEb h390⟩⟩, by show va_P _ _ _ t.heap; rw [ht]; exact hP⟩, hS.F ht⟩) hS.2.2 d_Mo_goesOn_200
                · refine lv_iload_n Bx.1 Bx.2.1 d_Mo_goesOn_195 rfl (lv_at hl 1 rfl) ?_
                  refine lv_if_ge Bx.1 Bx.2.1 d_Mo_goesOn_196 rfl (fun hb307 => ?_) (fun hb307 => ?_)
                  · refine lv_aload_n Bx.1 Bx.2.1 d_Mo_goesOn_201 rfl (lv_at hl 3 rfl) ?_
                    refine lv_iconst (v := 1) Bx.1 Bx.2.1 d_Mo_goesOn_202 (by decide) ?_
                    refine lv_aload_n Bx.1 Bx.2.1 d_Mo_goesOn_203 rfl (lv_at hl 3 rfl) ?_
                    refine f_get Bx hP (by omega) hW14.1 rfl inMo 16 (by decide) kw_672 rfl rfl d_Mo_goesOn_204 ?_
                    rw [kk25]
                    refine f_callVv (na := 2) (As := [.int (1), .int (nI a11)]) (rest := []) Bx hml E hP hD hS (by omega) hW14.1 rfl (m_Mo_wrong l hn hW14 (Or.inl kk19) (by first | exact Or.inl rfl | exact Or.inr rfl)) kw_799 kw_801 sel_Mo_wrong kw_8 kw_802 (by decide +kernel) ⟨rfl, rfl⟩ ⟨Nat.le_of_ble_eq_true rfl, Nat.le_of_ble_eq_true rfl⟩ rfl hl.1 (Nat.le_of_ble_eq_true rfl) d_Mo_goesOn_207 ⟨Nat.le_of_ble_eq_true rfl, Nat.le_of_ble_eq_true rfl⟩ (fun mem309 H locs hq hP hS => ?_)
                    have hD : va_D (Az sz) (fw n ad mem309) := fw_D hD
                    obtain ⟨J310, hW311, hwr312⟩ := hq
                    have kk313 : J310 1 = nI L := (show J310 1 = J15 1 from hwr312.2 1 (by decide) (by decide)).trans kk17
                    have kk314 : J310 24 = nI G := (show J310 24 = J15 24 from hwr312.2 24 (by decide) (by decide)).trans kk18
                    have kk315 : J310 14 = nI u := (show J310 14 = J15 14 from hwr312.2 14 (by decide) (by decide)).trans kk20
                    have kk316 : J310 4 = nI R := (show J310 4 = J15 4 from hwr312.2 4 (by decide) (by decide)).trans kk21
                    have kk317 : J310 7 = nI Ec := (show J310 7 = J15 7 from hwr312.2 7 (by decide) (by decide)).trans kk22
                    have kk318 : J310 18 = nI (f + 1) := (show J310 18 = J15 18 from hwr312.2 18 (by decide) (by decide)).trans kk23
                    have kk319 : J310 28 = 0 := (show J310 28 = J15 28 from hwr312.2 28 (by decide) (by decide)).trans kk24
                    have kk320 : J310 16 = nI a11 := (show J310 16 = J15 16 from hwr312.2 16 (by decide) (by decide)).trans kk25
                    refine lv_iconst (v := 1) Bx.1 Bx.2.1 d_Mo_goesOn_210 (by decide) ?_
                    exact W.zret (v := 1) hx hb hr rfl (fun t ht hW => ⟨⟨1, mem309, rfl, ⟨J310, A, nm, hW311, Or.inl ⟨rfl, none, go_bad (show ¬ hereF L T (gapF T L a) = 47 by rw [← ea16]; exact hb28) (Or.inr hb220) (Or.inl (show ¬ hereF L T (gapF T L a) = 93 by rw [← ea16]; exact hb255)) (Or.inr (by rw [← ea16]; omega)) (Or.inr ⟨(show ¬ hereF L T (gapF T L a) = 10 by rw [← ea16]; exact hb305), (show ¬ hereF L T (gapF T L a) < 0 by rw [← ea16]; exact Int32.not_lt.mpr hb307)⟩), Or.inl ⟨⟨kk313, kk314, hT, hwr312.1, _, by omega, kk320⟩, rfl⟩⟩⟩, by show va_P _ _ _ t.heap; rw [ht]; exact hP⟩, hS.F ht⟩) hS.2.2 d_Mo_goesOn_211
                  · refine lv_iconst (v := 0) Bx.1 Bx.2.1 d_Mo_goesOn_199 (by decide) ?_
                    have hI0 : Inv R Ec u 0 True fc fs ft A (fun _ => False) := by rw [← hf0]; exact hI
                    have h390 : A 239 0 = -1 := by rw [← hf0]; exact h39
                    exact W.zret (v := 0) hx hb hr rfl (fun t ht hW => ⟨⟨0, mem10, rfl, ⟨J15, A, nm, hW14, Or.inr ⟨rfl, a11, by omega, by rw [go_end (show ¬ hereF L T (gapF T L a) = 47 by rw [← ea16]; exact hb28) (Or.inr hb220) (Or.inl (show ¬ hereF L T (gapF T L a) = 93 by rw [← ea16]; exact hb255)) (Or.inr (by rw [← ea16]; omega)) hb291 (Or.inr (show hereF L T (gapF T L a) < 0 by rw [← ea16]; exact Int32.not_le.mp hb307)), ← ea16], ⟨kk17, kk18, kk25, kk19, kk20, kk21, kk22⟩, ⟨by omega, by omega, by omega, by omega, by omega⟩, hT, hI0.base hEb h390⟩⟩, by show va_P _ _ _ t.heap; rw [ht]; exact hP⟩, hS.F ht⟩) hS.2.2 d_Mo_goesOn_200
            · have hN321 : ¬ a11 ≤ a := fun q9 => hb289 (show nI (a11) ≤ nI (a) from (nI_leI (by omega) (by omega)).mpr q9)
              refine lv_aload_n Bx.1 Bx.2.1 d_Mo_goesOn_173 rfl (lv_at hl 3 rfl) ?_
              refine f_callVv (na := 0) (As := []) (rest := []) Bx hml E hP hD hS (by omega) hW14.1 rfl (m_Mo_repetitionX l hn hW14 ⟨kk17, kk18, kk25, kk19, kk20, kk21, kk22, kk23⟩ ⟨hL, by omega, by omega, by omega, by omega⟩ (by omega) hT kk24 hI h39) kw_826 kw_828 sel_Mo_repetition kw_8 kw_829 (by decide +kernel) ⟨rfl, rfl⟩ ⟨Nat.le_of_ble_eq_true rfl, Nat.le_of_ble_eq_true rfl⟩ rfl hl.1 (Nat.le_of_ble_eq_true rfl) d_Mo_goesOn_174 ⟨Nat.le_of_ble_eq_true rfl, Nat.le_of_ble_eq_true rfl⟩ (fun mem323 H locs hq hP hS => ?_)
              have hD : va_D (Az sz) (fw n ad mem323) := fw_D hD
              obtain ⟨J324, A325, nn326, hW327, hres328⟩ := hq
              refine lv_goto Bx.1 Bx.2.1 d_Mo_goesOn_177 rfl ?_
              refine lv_iconst (v := 1) Bx.1 Bx.2.1 d_Mo_goesOn_210 (by decide) ?_
              exact W.zret (v := 1) hx hb hr rfl (fun t ht hW => ⟨⟨1, mem323, rfl, ⟨J324, A325, nn326, hW327, Or.inl ⟨rfl, _, by rw [go_re (show ¬ hereF L T (gapF T L a) = 47 by rw [← ea16]; exact hb28) (Or.inr hb220) (Or.inl (show ¬ hereF L T (gapF T L a) = 93 by rw [← ea16]; exact hb255)) (show bgF (hereF L T (gapF T L a)) = true by rw [← ea16]; exact bg_1 hb258) (by rw [← ea16]; omega), ← ea16], hres328.mono (by omega) rfl⟩⟩, by show va_P _ _ _ t.heap; rw [ht]; exact hP⟩, hS.F ht⟩) hS.2.2 d_Mo_goesOn_211
        · have hlt329 := hereF_lt (by rw [hb255]; decide)
          refine lv_aload_n Bx.1 Bx.2.1 d_Mo_goesOn_70 rfl (lv_at hl 3 rfl) ?_
          refine f_get Bx hP (by omega) hW14.1 rfl inMo 19 (by decide) kw_675 rfl rfl d_Mo_goesOn_71 ?_
          refine lv_iload_n Bx.1 Bx.2.1 d_Mo_goesOn_74 rfl (lv_at hl 0 rfl) ?_
          refine f_iald Bx hP (by omega) (show mem10 235 = .inl (cy 1, 8, .inl (A 235)) from hW14.2.2.1 235 (by decide) (by decide) (by decide)) (vp_in_nI (n := f) (by omega) (by decide)) d_Mo_goesOn_75 ?_
          rw [nI_clamp (n := f) (by omega)]
          refine lv_iconst (v := 2) Bx.1 Bx.2.1 d_Mo_goesOn_76 (by decide) ?_
          refine lv_icmp_ne Bx.1 Bx.2.1 d_Mo_goesOn_77 rfl (fun hb330 => ?_) (fun hb330 => ?_)
          · refine lv_iload_n Bx.1 Bx.2.1 d_Mo_goesOn_158 rfl (lv_at hl 1 rfl) ?_
            refine f_callSi (na := 1) (As := [.int (hereF L T (a11))]) (rest := []) Bx hml E.2.1 (m_Mo_beginsX l (hereF L T (a11))) kw_811 kw_812 kw_8 kw_813 (by decide +kernel) ⟨rfl, rfl⟩ ⟨Nat.le_of_ble_eq_true rfl, Nat.le_of_ble_eq_true rfl⟩ rfl hl.1 (Nat.le_of_ble_eq_true rfl) d_Mo_goesOn_159 ⟨Nat.le_of_ble_eq_true rfl, Nat.le_of_ble_eq_true rfl⟩ (fun r332 hs331 => ?_)
            subst hs331
            refine lv_if_eq Bx.1 Bx.2.1 d_Mo_goesOn_162 rfl (fun hb333 => ?_) (fun hb333 => ?_)
            · refine lv_aload_n Bx.1 Bx.2.1 d_Mo_goesOn_180 rfl (lv_at hl 3 rfl) ?_
              refine f_get Bx hP (by omega) hW14.1 rfl inMo 19 (by decide) kw_675 rfl rfl d_Mo_goesOn_181 ?_
              refine lv_iload_n Bx.1 Bx.2.1 d_Mo_goesOn_184 rfl (lv_at hl 0 rfl) ?_
              refine f_iald Bx hP (by omega) (show mem10 235 = .inl (cy 1, 8, .inl (A 235)) from hW14.2.2.1 235 (by decide) (by decide) (by decide)) (vp_in_nI (n := f) (by omega) (by decide)) d_Mo_goesOn_185 ?_
              rw [nI_clamp (n := f) (by omega)]
              refine lv_if_ne Bx.1 Bx.2.1 d_Mo_goesOn_186 rfl (fun hb334 => ?_) (fun hb334 => ?_)
              · refine lv_aload_n Bx.1 Bx.2.1 d_Mo_goesOn_201 rfl (lv_at hl 3 rfl) ?_
                refine lv_iconst (v := 1) Bx.1 Bx.2.1 d_Mo_goesOn_202 (by decide) ?_
                refine lv_aload_n Bx.1 Bx.2.1 d_Mo_goesOn_203 rfl (lv_at hl 3 rfl) ?_
                refine f_get Bx hP (by omega) hW14.1 rfl inMo 16 (by decide) kw_672 rfl rfl d_Mo_goesOn_204 ?_
                rw [kk25]
                refine f_callVv (na := 2) (As := [.int (1), .int (nI a11)]) (rest := []) Bx hml E hP hD hS (by omega) hW14.1 rfl (m_Mo_wrong l hn hW14 (Or.inl kk19) (by first | exact Or.inl rfl | exact Or.inr rfl)) kw_799 kw_801 sel_Mo_wrong kw_8 kw_802 (by decide +kernel) ⟨rfl, rfl⟩ ⟨Nat.le_of_ble_eq_true rfl, Nat.le_of_ble_eq_true rfl⟩ rfl hl.1 (Nat.le_of_ble_eq_true rfl) d_Mo_goesOn_207 ⟨Nat.le_of_ble_eq_true rfl, Nat.le_of_ble_eq_true rfl⟩ (fun mem336 H locs hq hP hS => ?_)
                have hD : va_D (Az sz) (fw n ad mem336) := fw_D hD
                obtain ⟨J337, hW338, hwr339⟩ := hq
                have kk340 : J337 1 = nI L := (show J337 1 = J15 1 from hwr339.2 1 (by decide) (by decide)).trans kk17
                have kk341 : J337 24 = nI G := (show J337 24 = J15 24 from hwr339.2 24 (by decide) (by decide)).trans kk18
                have kk342 : J337 14 = nI u := (show J337 14 = J15 14 from hwr339.2 14 (by decide) (by decide)).trans kk20
                have kk343 : J337 4 = nI R := (show J337 4 = J15 4 from hwr339.2 4 (by decide) (by decide)).trans kk21
                have kk344 : J337 7 = nI Ec := (show J337 7 = J15 7 from hwr339.2 7 (by decide) (by decide)).trans kk22
                have kk345 : J337 18 = nI (f + 1) := (show J337 18 = J15 18 from hwr339.2 18 (by decide) (by decide)).trans kk23
                have kk346 : J337 28 = 0 := (show J337 28 = J15 28 from hwr339.2 28 (by decide) (by decide)).trans kk24
                have kk347 : J337 16 = nI a11 := (show J337 16 = J15 16 from hwr339.2 16 (by decide) (by decide)).trans kk25
                refine lv_iconst (v := 1) Bx.1 Bx.2.1 d_Mo_goesOn_210 (by decide) ?_
                exact W.zret (v := 1) hx hb hr rfl (fun t ht hW => ⟨⟨1, mem336, rfl, ⟨J337, A, nm, hW338, Or.inl ⟨rfl, none, go_bad (show ¬ hereF L T (gapF T L a) = 47 by rw [← ea16]; exact hb28) (Or.inr hb220) (Or.inr hb330) (Or.inl (show bgF (hereF L T (gapF T L a)) = false by rw [← ea16]; exact bg_0 hb333)) (Or.inl hb334), Or.inl ⟨⟨kk340, kk341, hT, hwr339.1, _, by omega, kk347⟩, rfl⟩⟩⟩, by show va_P _ _ _ t.heap; rw [ht]; exact hP⟩, hS.F ht⟩) hS.2.2 d_Mo_goesOn_211
              · have hf0 : f = 0 := by
                  by_cases z : f = 0
                  · exact z
                  · have hso0 : A 235 f = 0 := hb334
                    rcases hfg.2.2.1 (by omega) with y | y
                    · rw [y.1] at hso0; exact absurd hso0 (by decide)
                    · rw [y.1] at hso0; exact absurd hso0 (by decide)
                refine lv_iload_n Bx.1 Bx.2.1 d_Mo_goesOn_189 rfl (lv_at hl 1 rfl) ?_
                refine lv_bipush (v := 10) Bx.1 Bx.2.1 d_Mo_goesOn_190 (by decide) ?_
                refine lv_icmp_eq Bx.1 Bx.2.1 d_Mo_goesOn_192 rfl (fun hb348 => ?_) (fun hb348 => ?_)
                · have hlt349 := hereF_lt (by rw [hb348]; decide)
                  refine lv_iconst (v := 0) Bx.1 Bx.2.1 d_Mo_goesOn_199 (by decide) ?_
                  have hI0 : Inv R Ec u 0 True fc fs ft A (fun _ => False) := by rw [← hf0]; exact hI
                  have h390 : A 239 0 = -1 := by rw [← hf0]; exact h39
                  exact W.zret (v := 0) hx hb hr rfl (fun t ht hW => ⟨⟨0, mem10, rfl, ⟨J15, A, nm, hW14, Or.inr ⟨rfl, a11, by omega, by rw [go_end (show ¬ hereF L T (gapF T L a) = 47 by rw [← ea16]; exact hb28) (Or.inr hb220) (Or.inr hb330) (Or.inl (show bgF (hereF L T (gapF T L a)) = false by rw [← ea16]; exact bg_0 hb333)) hb334 (Or.inl (show hereF L T (gapF T L a) = 10 by rw [← ea16]; exact hb348)), ← ea16], ⟨kk17, kk18, kk25, kk19, kk20, kk21, kk22⟩, ⟨by omega, by omega, by omega, by omega, by omega⟩, hT, hI0.base hEb h390⟩⟩, by show va_P _ _ _ t.heap; rw [ht]; exact hP⟩, hS.F ht⟩) hS.2.2 d_Mo_goesOn_200
                · refine lv_iload_n Bx.1 Bx.2.1 d_Mo_goesOn_195 rfl (lv_at hl 1 rfl) ?_
                  refine lv_if_ge Bx.1 Bx.2.1 d_Mo_goesOn_196 rfl (fun hb350 => ?_) (fun hb350 => ?_)
                  · refine lv_aload_n Bx.1 Bx.2.1 d_Mo_goesOn_201 rfl (lv_at hl 3 rfl) ?_
                    refine lv_iconst (v := 1) Bx.1 Bx.2.1 d_Mo_goesOn_202 (by decide) ?_
                    refine lv_aload_n Bx.1 Bx.2.1 d_Mo_goesOn_203 rfl (lv_at hl 3 rfl) ?_
                    refine f_get Bx hP (by omega) hW14.1 rfl inMo 16 (by decide) kw_672 rfl rfl d_Mo_goesOn_204 ?_
                    rw [kk25]
                    refine f_callVv (na := 2) (As := [.int (1), .int (nI a11)]) (rest := []) Bx hml E hP hD hS (by omega) hW14.1 rfl (m_Mo_wrong l hn hW14 (Or.inl kk19) (by first | exact Or.inl rfl | exact Or.inr rfl)) kw_799 kw_801 sel_Mo_wrong kw_8 kw_802 (by decide +kernel) ⟨rfl, rfl⟩ ⟨Nat.le_of_ble_eq_true rfl, Nat.le_of_ble_eq_true rfl⟩ rfl hl.1 (Nat.le_of_ble_eq_true rfl) d_Mo_goesOn_207 ⟨Nat.le_of_ble_eq_true rfl, Nat.le_of_ble_eq_true rfl⟩ (fun mem352 H locs hq hP hS => ?_)
                    have hD : va_D (Az sz) (fw n ad mem352) := fw_D hD
                    obtain ⟨J353, hW354, hwr355⟩ := hq
                    have kk356 : J353 1 = nI L := (show J353 1 = J15 1 from hwr355.2 1 (by decide) (by decide)).trans kk17
                    have kk357 : J353 24 = nI G := (show J353 24 = J15 24 from hwr355.2 24 (by decide) (by decide)).trans kk18
                    have kk358 : J353 14 = nI u := (show J353 14 = J15 14 from hwr355.2 14 (by decide) (by decide)).trans kk20
                    have kk359 : J353 4 = nI R := (show J353 4 = J15 4 from hwr355.2 4 (by decide) (by decide)).trans kk21
                    have kk360 : J353 7 = nI Ec := (show J353 7 = J15 7 from hwr355.2 7 (by decide) (by decide)).trans kk22
                    have kk361 : J353 18 = nI (f + 1) := (show J353 18 = J15 18 from hwr355.2 18 (by decide) (by decide)).trans kk23
                    have kk362 : J353 28 = 0 := (show J353 28 = J15 28 from hwr355.2 28 (by decide) (by decide)).trans kk24
                    have kk363 : J353 16 = nI a11 := (show J353 16 = J15 16 from hwr355.2 16 (by decide) (by decide)).trans kk25
                    refine lv_iconst (v := 1) Bx.1 Bx.2.1 d_Mo_goesOn_210 (by decide) ?_
                    exact W.zret (v := 1) hx hb hr rfl (fun t ht hW => ⟨⟨1, mem352, rfl, ⟨J353, A, nm, hW354, Or.inl ⟨rfl, none, go_bad (show ¬ hereF L T (gapF T L a) = 47 by rw [← ea16]; exact hb28) (Or.inr hb220) (Or.inr hb330) (Or.inl (show bgF (hereF L T (gapF T L a)) = false by rw [← ea16]; exact bg_0 hb333)) (Or.inr ⟨(show ¬ hereF L T (gapF T L a) = 10 by rw [← ea16]; exact hb348), (show ¬ hereF L T (gapF T L a) < 0 by rw [← ea16]; exact Int32.not_lt.mpr hb350)⟩), Or.inl ⟨⟨kk356, kk357, hT, hwr355.1, _, by omega, kk363⟩, rfl⟩⟩⟩, by show va_P _ _ _ t.heap; rw [ht]; exact hP⟩, hS.F ht⟩) hS.2.2 d_Mo_goesOn_211
                  · refine lv_iconst (v := 0) Bx.1 Bx.2.1 d_Mo_goesOn_199 (by decide) ?_
                    have hI0 : Inv R Ec u 0 True fc fs ft A (fun _ => False) := by rw [← hf0]; exact hI
                    have h390 : A 239 0 = -1 := by rw [← hf0]; exact h39
                    exact W.zret (v := 0) hx hb hr rfl (fun t ht hW => ⟨⟨0, mem10, rfl, ⟨J15, A, nm, hW14, Or.inr ⟨rfl, a11, by omega, by rw [go_end (show ¬ hereF L T (gapF T L a) = 47 by rw [← ea16]; exact hb28) (Or.inr hb220) (Or.inr hb330) (Or.inl (show bgF (hereF L T (gapF T L a)) = false by rw [← ea16]; exact bg_0 hb333)) hb334 (Or.inr (show hereF L T (gapF T L a) < 0 by rw [← ea16]; exact Int32.not_le.mp hb350)), ← ea16], ⟨kk17, kk18, kk25, kk19, kk20, kk21, kk22⟩, ⟨by omega, by omega, by omega, by omega, by omega⟩, hT, hI0.base hEb h390⟩⟩, by show va_P _ _ _ t.heap; rw [ht]; exact hP⟩, hS.F ht⟩) hS.2.2 d_Mo_goesOn_200
            · refine lv_aload_n Bx.1 Bx.2.1 d_Mo_goesOn_165 rfl (lv_at hl 3 rfl) ?_
              refine f_get Bx hP (by omega) hW14.1 rfl inMo 16 (by decide) kw_672 rfl rfl d_Mo_goesOn_166 ?_
              rw [kk25]
              refine lv_iload_n Bx.1 Bx.2.1 d_Mo_goesOn_169 rfl (lv_at hl 2 rfl) ?_
              refine lv_icmp_le Bx.1 Bx.2.1 d_Mo_goesOn_170 rfl (fun hb364 => ?_) (fun hb364 => ?_)
              · have hN365 : a11 ≤ a := (nI_leI (by omega) (by omega)).mp (show nI (a11) ≤ nI (a) from hb364)
                refine lv_aload_n Bx.1 Bx.2.1 d_Mo_goesOn_180 rfl (lv_at hl 3 rfl) ?_
                refine f_get Bx hP (by omega) hW14.1 rfl inMo 19 (by decide) kw_675 rfl rfl d_Mo_goesOn_181 ?_
                refine lv_iload_n Bx.1 Bx.2.1 d_Mo_goesOn_184 rfl (lv_at hl 0 rfl) ?_
                refine f_iald Bx hP (by omega) (show mem10 235 = .inl (cy 1, 8, .inl (A 235)) from hW14.2.2.1 235 (by decide) (by decide) (by decide)) (vp_in_nI (n := f) (by omega) (by decide)) d_Mo_goesOn_185 ?_
                rw [nI_clamp (n := f) (by omega)]
                refine lv_if_ne Bx.1 Bx.2.1 d_Mo_goesOn_186 rfl (fun hb366 => ?_) (fun hb366 => ?_)
                · refine lv_aload_n Bx.1 Bx.2.1 d_Mo_goesOn_201 rfl (lv_at hl 3 rfl) ?_
                  refine lv_iconst (v := 1) Bx.1 Bx.2.1 d_Mo_goesOn_202 (by decide) ?_
                  refine lv_aload_n Bx.1 Bx.2.1 d_Mo_goesOn_203 rfl (lv_at hl 3 rfl) ?_
                  refine f_get Bx hP (by omega) hW14.1 rfl inMo 16 (by decide) kw_672 rfl rfl d_Mo_goesOn_204 ?_
                  rw [kk25]
                  refine f_callVv (na := 2) (As := [.int (1), .int (nI a11)]) (rest := []) Bx hml E hP hD hS (by omega) hW14.1 rfl (m_Mo_wrong l hn hW14 (Or.inl kk19) (by first | exact Or.inl rfl | exact Or.inr rfl)) kw_799 kw_801 sel_Mo_wrong kw_8 kw_802 (by decide +kernel) ⟨rfl, rfl⟩ ⟨Nat.le_of_ble_eq_true rfl, Nat.le_of_ble_eq_true rfl⟩ rfl hl.1 (Nat.le_of_ble_eq_true rfl) d_Mo_goesOn_207 ⟨Nat.le_of_ble_eq_true rfl, Nat.le_of_ble_eq_true rfl⟩ (fun mem368 H locs hq hP hS => ?_)
                  have hD : va_D (Az sz) (fw n ad mem368) := fw_D hD
                  obtain ⟨J369, hW370, hwr371⟩ := hq
                  have kk372 : J369 1 = nI L := (show J369 1 = J15 1 from hwr371.2 1 (by decide) (by decide)).trans kk17
                  have kk373 : J369 24 = nI G := (show J369 24 = J15 24 from hwr371.2 24 (by decide) (by decide)).trans kk18
                  have kk374 : J369 14 = nI u := (show J369 14 = J15 14 from hwr371.2 14 (by decide) (by decide)).trans kk20
                  have kk375 : J369 4 = nI R := (show J369 4 = J15 4 from hwr371.2 4 (by decide) (by decide)).trans kk21
                  have kk376 : J369 7 = nI Ec := (show J369 7 = J15 7 from hwr371.2 7 (by decide) (by decide)).trans kk22
                  have kk377 : J369 18 = nI (f + 1) := (show J369 18 = J15 18 from hwr371.2 18 (by decide) (by decide)).trans kk23
                  have kk378 : J369 28 = 0 := (show J369 28 = J15 28 from hwr371.2 28 (by decide) (by decide)).trans kk24
                  have kk379 : J369 16 = nI a11 := (show J369 16 = J15 16 from hwr371.2 16 (by decide) (by decide)).trans kk25
                  refine lv_iconst (v := 1) Bx.1 Bx.2.1 d_Mo_goesOn_210 (by decide) ?_
                  exact W.zret (v := 1) hx hb hr rfl (fun t ht hW => ⟨⟨1, mem368, rfl, ⟨J369, A, nm, hW370, Or.inl ⟨rfl, none, go_bad (show ¬ hereF L T (gapF T L a) = 47 by rw [← ea16]; exact hb28) (Or.inr hb220) (Or.inr hb330) (Or.inr (by rw [← ea16]; omega)) (Or.inl hb366), Or.inl ⟨⟨kk372, kk373, hT, hwr371.1, _, by omega, kk379⟩, rfl⟩⟩⟩, by show va_P _ _ _ t.heap; rw [ht]; exact hP⟩, hS.F ht⟩) hS.2.2 d_Mo_goesOn_211
                · have hf0 : f = 0 := by
                    by_cases z : f = 0
                    · exact z
                    · have hso0 : A 235 f = 0 := hb366
                      rcases hfg.2.2.1 (by omega) with y | y
                      · rw [y.1] at hso0; exact absurd hso0 (by decide)
                      · rw [y.1] at hso0; exact absurd hso0 (by decide)
                  refine lv_iload_n Bx.1 Bx.2.1 d_Mo_goesOn_189 rfl (lv_at hl 1 rfl) ?_
                  refine lv_bipush (v := 10) Bx.1 Bx.2.1 d_Mo_goesOn_190 (by decide) ?_
                  refine lv_icmp_eq Bx.1 Bx.2.1 d_Mo_goesOn_192 rfl (fun hb380 => ?_) (fun hb380 => ?_)
                  · have hlt381 := hereF_lt (by rw [hb380]; decide)
                    refine lv_iconst (v := 0) Bx.1 Bx.2.1 d_Mo_goesOn_199 (by decide) ?_
                    have hI0 : Inv R Ec u 0 True fc fs ft A (fun _ => False) := by rw [← hf0]; exact hI
                    have h390 : A 239 0 = -1 := by rw [← hf0]; exact h39
                    exact W.zret (v := 0) hx hb hr rfl (fun t ht hW => ⟨⟨0, mem10, rfl, ⟨J15, A, nm, hW14, Or.inr ⟨rfl, a11, by omega, by rw [go_end (show ¬ hereF L T (gapF T L a) = 47 by rw [← ea16]; exact hb28) (Or.inr hb220) (Or.inr hb330) (Or.inr (by rw [← ea16]; omega)) hb366 (Or.inl (show hereF L T (gapF T L a) = 10 by rw [← ea16]; exact hb380)), ← ea16], ⟨kk17, kk18, kk25, kk19, kk20, kk21, kk22⟩, ⟨by omega, by omega, by omega, by omega, by omega⟩, hT, hI0.base hEb h390⟩⟩, by show va_P _ _ _ t.heap; rw [ht]; exact hP⟩, hS.F ht⟩) hS.2.2 d_Mo_goesOn_200
                  · refine lv_iload_n Bx.1 Bx.2.1 d_Mo_goesOn_195 rfl (lv_at hl 1 rfl) ?_
                    refine lv_if_ge Bx.1 Bx.2.1 d_Mo_goesOn_196 rfl (fun hb382 => ?_) (fun hb382 => ?_)
                    · refine lv_aload_n Bx.1 Bx.2.1 d_Mo_goesOn_201 rfl (lv_at hl 3 rfl) ?_
                      refine lv_iconst (v := 1) Bx.1 Bx.2.1 d_Mo_goesOn_202 (by decide) ?_
                      refine lv_aload_n Bx.1 Bx.2.1 d_Mo_goesOn_203 rfl (lv_at hl 3 rfl) ?_
                      refine f_get Bx hP (by omega) hW14.1 rfl inMo 16 (by decide) kw_672 rfl rfl d_Mo_goesOn_204 ?_
                      rw [kk25]
                      refine f_callVv (na := 2) (As := [.int (1), .int (nI a11)]) (rest := []) Bx hml E hP hD hS (by omega) hW14.1 rfl (m_Mo_wrong l hn hW14 (Or.inl kk19) (by first | exact Or.inl rfl | exact Or.inr rfl)) kw_799 kw_801 sel_Mo_wrong kw_8 kw_802 (by decide +kernel) ⟨rfl, rfl⟩ ⟨Nat.le_of_ble_eq_true rfl, Nat.le_of_ble_eq_true rfl⟩ rfl hl.1 (Nat.le_of_ble_eq_true rfl) d_Mo_goesOn_207 ⟨Nat.le_of_ble_eq_true rfl, Nat.le_of_ble_eq_true rfl⟩ (fun mem384 H locs hq hP hS => ?_)
                      have hD : va_D (Az sz) (fw n ad mem384) := fw_D hD
                      obtain ⟨J385, hW386, hwr387⟩ := hq
                      have kk388 : J385 1 = nI L := (show J385 1 = J15 1 from hwr387.2 1 (by decide) (by decide)).trans kk17
                      have kk389 : J385 24 = nI G := (show J385 24 = J15 24 from hwr387.2 24 (by decide) (by decide)).trans kk18
                      have kk390 : J385 14 = nI u := (show J385 14 = J15 14 from hwr387.2 14 (by decide) (by decide)).trans kk20
                      have kk391 : J385 4 = nI R := (show J385 4 = J15 4 from hwr387.2 4 (by decide) (by decide)).trans kk21
                      have kk392 : J385 7 = nI Ec := (show J385 7 = J15 7 from hwr387.2 7 (by decide) (by decide)).trans kk22
                      have kk393 : J385 18 = nI (f + 1) := (show J385 18 = J15 18 from hwr387.2 18 (by decide) (by decide)).trans kk23
                      have kk394 : J385 28 = 0 := (show J385 28 = J15 28 from hwr387.2 28 (by decide) (by decide)).trans kk24
                      have kk395 : J385 16 = nI a11 := (show J385 16 = J15 16 from hwr387.2 16 (by decide) (by decide)).trans kk25
                      refine lv_iconst (v := 1) Bx.1 Bx.2.1 d_Mo_goesOn_210 (by decide) ?_
                      exact W.zret (v := 1) hx hb hr rfl (fun t ht hW => ⟨⟨1, mem384, rfl, ⟨J385, A, nm, hW386, Or.inl ⟨rfl, none, go_bad (show ¬ hereF L T (gapF T L a) = 47 by rw [← ea16]; exact hb28) (Or.inr hb220) (Or.inr hb330) (Or.inr (by rw [← ea16]; omega)) (Or.inr ⟨(show ¬ hereF L T (gapF T L a) = 10 by rw [← ea16]; exact hb380), (show ¬ hereF L T (gapF T L a) < 0 by rw [← ea16]; exact Int32.not_lt.mpr hb382)⟩), Or.inl ⟨⟨kk388, kk389, hT, hwr387.1, _, by omega, kk395⟩, rfl⟩⟩⟩, by show va_P _ _ _ t.heap; rw [ht]; exact hP⟩, hS.F ht⟩) hS.2.2 d_Mo_goesOn_211
                    · refine lv_iconst (v := 0) Bx.1 Bx.2.1 d_Mo_goesOn_199 (by decide) ?_
                      have hI0 : Inv R Ec u 0 True fc fs ft A (fun _ => False) := by rw [← hf0]; exact hI
                      have h390 : A 239 0 = -1 := by rw [← hf0]; exact h39
                      exact W.zret (v := 0) hx hb hr rfl (fun t ht hW => ⟨⟨0, mem10, rfl, ⟨J15, A, nm, hW14, Or.inr ⟨rfl, a11, by omega, by rw [go_end (show ¬ hereF L T (gapF T L a) = 47 by rw [← ea16]; exact hb28) (Or.inr hb220) (Or.inr hb330) (Or.inr (by rw [← ea16]; omega)) hb366 (Or.inr (show hereF L T (gapF T L a) < 0 by rw [← ea16]; exact Int32.not_le.mp hb382)), ← ea16], ⟨kk17, kk18, kk25, kk19, kk20, kk21, kk22⟩, ⟨by omega, by omega, by omega, by omega, by omega⟩, hT, hI0.base hEb h390⟩⟩, by show va_P _ _ _ t.heap; rw [ht]; exact hP⟩, hS.F ht⟩) hS.2.2 d_Mo_goesOn_200
              · have hN396 : ¬ a11 ≤ a := fun q9 => hb364 (show nI (a11) ≤ nI (a) from (nI_leI (by omega) (by omega)).mpr q9)
                refine lv_aload_n Bx.1 Bx.2.1 d_Mo_goesOn_173 rfl (lv_at hl 3 rfl) ?_
                refine f_callVv (na := 0) (As := []) (rest := []) Bx hml E hP hD hS (by omega) hW14.1 rfl (m_Mo_repetitionX l hn hW14 ⟨kk17, kk18, kk25, kk19, kk20, kk21, kk22, kk23⟩ ⟨hL, by omega, by omega, by omega, by omega⟩ (by omega) hT kk24 hI h39) kw_826 kw_828 sel_Mo_repetition kw_8 kw_829 (by decide +kernel) ⟨rfl, rfl⟩ ⟨Nat.le_of_ble_eq_true rfl, Nat.le_of_ble_eq_true rfl⟩ rfl hl.1 (Nat.le_of_ble_eq_true rfl) d_Mo_goesOn_174 ⟨Nat.le_of_ble_eq_true rfl, Nat.le_of_ble_eq_true rfl⟩ (fun mem398 H locs hq hP hS => ?_)
                have hD : va_D (Az sz) (fw n ad mem398) := fw_D hD
                obtain ⟨J399, A400, nn401, hW402, hres403⟩ := hq
                refine lv_goto Bx.1 Bx.2.1 d_Mo_goesOn_177 rfl ?_
                refine lv_iconst (v := 1) Bx.1 Bx.2.1 d_Mo_goesOn_210 (by decide) ?_
                exact W.zret (v := 1) hx hb hr rfl (fun t ht hW => ⟨⟨1, mem398, rfl, ⟨J399, A400, nn401, hW402, Or.inl ⟨rfl, _, by rw [go_re (show ¬ hereF L T (gapF T L a) = 47 by rw [← ea16]; exact hb28) (Or.inr hb220) (Or.inr hb330) (show bgF (hereF L T (gapF T L a)) = true by rw [← ea16]; exact bg_1 hb333) (by rw [← ea16]; omega), ← ea16], hres403.mono (by omega) rfl⟩⟩, by show va_P _ _ _ t.heap; rw [ht]; exact hP⟩, hS.F ht⟩) hS.2.2 d_Mo_goesOn_211
          · have hso : A 235 f = 2 := hb330
            have hf1x : 1 ≤ f := Nat.pos_of_ne_zero (fun z => by have := hfg.2.1 z; rw [hso] at this; exact absurd this (by decide))
            obtain ⟨f1, hf1⟩ : ∃ f1, f = f1 + 1 := ⟨f - 1, by omega⟩
            have hI1 : Inv R Ec u (f1 + 1) True fc fs ft A (fun _ => False) := by rw [← hf1]; exact hI
            have h391 : A 239 (f1 + 1) = -1 := by rw [← hf1]; exact h39
            have hte := (hfg.2.2.1 hf1x).resolve_left (fun z => by rw [z.1] at hso; exact absurd hso (by decide))
            refine lv_aload_n Bx.1 Bx.2.1 d_Mo_goesOn_80 rfl (lv_at hl 3 rfl) ?_
            refine lv_dup Bx.1 Bx.2.1 d_Mo_goesOn_81 rfl ?_
            refine f_get Bx hP (by omega) hW14.1 rfl inMo 16 (by decide) kw_672 rfl rfl d_Mo_goesOn_82 ?_
            rw [kk25]
            refine lv_iconst (v := 1) Bx.1 Bx.2.1 d_Mo_goesOn_85 (by decide) ?_
            refine lv_iadd Bx.1 Bx.2.1 d_Mo_goesOn_86 ?_
            rw [show nI a11 + 1 = nI (a11 + 1) from nI_add (a11) (1)]
            refine f_put Bx hP hD hS (by omega) hW14.1 rfl inMo tyMo okMo nmMo 16 (by decide) kw_672 rfl rfl rfl rfl (Nat.le_of_ble_eq_true rfl) d_Mo_goesOn_87 (fun H locs hP hS => ?_)
            obtain ⟨J404, eJ404⟩ : ∃ z, z = va_up J15 16 (nI (a11 + 1)) := ⟨_, rfl⟩
            obtain ⟨mem405, e_mem405⟩ : ∃ z, z = va_up mem10 224 (moC ad J404) := ⟨_, rfl⟩
            have hP : va_P D vcl (fw n ad mem405) H := by rw [e_mem405, eJ404]; exact hP
            have hD : va_D (Az sz) (fw n ad mem405) := fw_D hD
            have hW406 : MW cy ad J404 A nm m0 mem405 := by rw [e_mem405]; exact hW14.upJ (by rw [eJ404]; exact va_up_ne _ _ (by decide))
            have kk407 : J404 1 = nI L := by rw [eJ404]; exact kk17
            have kk408 : J404 24 = nI G := by rw [eJ404]; exact kk18
            have kk409 : J404 17 = 0 := by rw [eJ404]; exact kk19
            have kk410 : J404 14 = nI u := by rw [eJ404]; exact kk20
            have kk411 : J404 4 = nI R := by rw [eJ404]; exact kk21
            have kk412 : J404 7 = nI Ec := by rw [eJ404]; exact kk22
            have kk413 : J404 18 = nI (f + 1) := by rw [eJ404]; exact kk23
            have kk414 : J404 28 = 0 := by rw [eJ404]; exact kk24
            have kk415 : J404 16 = nI (a11 + 1) := by rw [eJ404, va_up_self]
            refine lv_aload_n Bx.1 Bx.2.1 d_Mo_goesOn_90 rfl (lv_at hl 3 rfl) ?_
            refine f_get Bx hP (by omega) hW406.1 rfl inMo 19 (by decide) kw_675 rfl rfl d_Mo_goesOn_91 ?_
            refine lv_iload_n Bx.1 Bx.2.1 d_Mo_goesOn_94 rfl (lv_at hl 0 rfl) ?_
            refine f_iald Bx hP (by omega) (show mem405 235 = .inl (cy 1, 8, .inl (A 235)) from hW406.2.2.1 235 (by decide) (by decide) (by decide)) (vp_in_nI (n := f) (by omega) (by decide)) d_Mo_goesOn_95 ?_
            rw [nI_clamp (n := f) (by omega)]
            rw [hso]
            refine lv_iconst (v := 1) Bx.1 Bx.2.1 d_Mo_goesOn_96 (by decide) ?_
            refine lv_icmp_ne Bx.1 Bx.2.1 d_Mo_goesOn_97 rfl (fun hb416 => ?_) (fun hb416 => ?_)
            · refine lv_aload_n Bx.1 Bx.2.1 d_Mo_goesOn_109 rfl (lv_at hl 3 rfl) ?_
              refine f_get Bx hP (by omega) hW406.1 rfl inMo 20 (by decide) kw_676 rfl rfl d_Mo_goesOn_110 ?_
              refine lv_iload_n Bx.1 Bx.2.1 d_Mo_goesOn_113 rfl (lv_at hl 0 rfl) ?_
              refine f_iald Bx hP (by omega) (show mem405 236 = .inl (cy 1, 8, .inl (A 236)) from hW406.2.2.1 236 (by decide) (by decide) (by decide)) (vp_in_nI (n := f) (by omega) (by decide)) d_Mo_goesOn_114 ?_
              rw [nI_clamp (n := f) (by omega)]
              rw [hte.2.1, show ft f = ft (f1 + 1) by rw [← hf1]]
              refine lv_istore (lv' := [(4, .int (nI (ft (f1 + 1)))), (3, .int (nI (f))), (2, .int (hereF L T (a11))), (1, .int (nI a)), (0, .ref (ad 224))]) Bx.1 Bx.2.1 d_Mo_goesOn_115 hl (by decide) rfl (fun ls hl => ?_)
              refine lv_aload_n Bx.1 Bx.2.1 d_Mo_goesOn_117 rfl (lv_at hl 4 rfl) ?_
              refine f_get Bx hP (by omega) hW406.1 rfl inMo 19 (by decide) kw_675 rfl rfl d_Mo_goesOn_118 ?_
              refine lv_iload_n Bx.1 Bx.2.1 d_Mo_goesOn_121 rfl (lv_at hl 1 rfl) ?_
              refine f_iald Bx hP (by omega) (show mem405 235 = .inl (cy 1, 8, .inl (A 235)) from hW406.2.2.1 235 (by decide) (by decide) (by decide)) (vp_in_nI (n := f) (by omega) (by decide)) d_Mo_goesOn_122 ?_
              rw [nI_clamp (n := f) (by omega)]
              rw [hso]
              refine lv_iconst (v := 2) Bx.1 Bx.2.1 d_Mo_goesOn_123 (by decide) ?_
              refine lv_icmp_ne Bx.1 Bx.2.1 d_Mo_goesOn_124 rfl (fun hb417 => ?_) (fun hb417 => ?_)
              · exact absurd hb417 (by decide)
              · refine lv_aload_n Bx.1 Bx.2.1 d_Mo_goesOn_127 rfl (lv_at hl 4 rfl) ?_
                refine lv_iload Bx.1 Bx.2.1 d_Mo_goesOn_128 (lv_at hl 0 rfl) ?_
                refine lv_aload_n Bx.1 Bx.2.1 d_Mo_goesOn_130 rfl (lv_at hl 4 rfl) ?_
                refine f_get Bx hP (by omega) hW406.1 rfl inMo 21 (by decide) kw_677 rfl rfl d_Mo_goesOn_131 ?_
                refine lv_iload_n Bx.1 Bx.2.1 d_Mo_goesOn_134 rfl (lv_at hl 1 rfl) ?_
                refine f_iald Bx hP (by omega) (show mem405 237 = .inl (cy 1, 8, .inl (A 237)) from hW406.2.2.1 237 (by decide) (by decide) (by decide)) (vp_in_nI (n := f) (by omega) (by decide)) d_Mo_goesOn_135 ?_
                rw [nI_clamp (n := f) (by omega)]
                rw [hfg.1.1]
                have htf : ft (f1 + 1) = ft f := by rw [hf1]
                have hcc : CL (fc f) A := fun k hk => by
                  by_cases e : k = ft f
                  · rw [e, hte.2.2.2.1, hte.2.2.2.2]; exact ⟨Or.inl rfl, Or.inl rfl⟩
                  · have := hfg.2.2.2.2.2.2 hf1x k (by omega)
                    exact ⟨this.1.mono (by omega), this.2.mono (by omega)⟩
                refine f_callVv (na := 2) (As := [.int (nI (ft (f1 + 1))), .int (nI (fc f))]) (rest := []) Bx hml E hP hD hS (by omega) hW406.1 rfl (m_Mo_appendX l hn hW406 (to := ft (f1 + 1)) (pa := fc f) hEb (show ft (f1 + 1) < fc f by omega) (show fc f < Ec by omega) hI.1 hcc) kw_822 kw_824 sel_Mo_append kw_8 kw_825 (by decide +kernel) ⟨rfl, rfl⟩ ⟨Nat.le_of_ble_eq_true rfl, Nat.le_of_ble_eq_true rfl⟩ rfl hl.1 (Nat.le_of_ble_eq_true rfl) d_Mo_goesOn_136 ⟨Nat.le_of_ble_eq_true rfl, Nat.le_of_ble_eq_true rfl⟩ (fun mem419 H locs hq hP hS => ?_)
                have hD : va_D (Az sz) (fw n ad mem419) := fw_D hD
                obtain ⟨hW421, hap422⟩ := hq
                obtain ⟨A420, eA420⟩ : ∃ z, z = appS A (ft (f1 + 1)) (fc f) := ⟨_, rfl⟩
                rw [← eA420] at hW421 hap422
                have tT423 : A420 225 = T := by
                  obtain ⟨_, _, _, k3, _⟩ := hap422.at
                  rw [k3 225 (by decide) (by decide)]; exact hT
                have hA1 := hap422.resolve_right (fun z => z.1 (by rw [htf]; exact hte.2.2.2.1))
                refine lv_aload_n Bx.1 Bx.2.1 d_Mo_goesOn_139 rfl (lv_at hl 4 rfl) ?_
                refine lv_dup Bx.1 Bx.2.1 d_Mo_goesOn_140 rfl ?_
                refine f_get Bx hP (by omega) hW421.1 rfl inMo 18 (by decide) kw_674 rfl rfl d_Mo_goesOn_141 ?_
                rw [kk413]
                refine lv_iconst (v := 1) Bx.1 Bx.2.1 d_Mo_goesOn_144 (by decide) ?_
                refine lv_isub Bx.1 Bx.2.1 d_Mo_goesOn_145 ?_
                rw [show nI (f + 1) - 1 = nI (f) from nI_pred (f)]
                refine f_put Bx hP hD hS (by omega) hW421.1 rfl inMo tyMo okMo nmMo 18 (by decide) kw_674 rfl rfl rfl rfl (Nat.le_of_ble_eq_true rfl) d_Mo_goesOn_146 (fun H locs hP hS => ?_)
                obtain ⟨J424, eJ424⟩ : ∃ z, z = va_up J404 18 (nI (f)) := ⟨_, rfl⟩
                obtain ⟨mem425, e_mem425⟩ : ∃ z, z = va_up mem419 224 (moC ad J424) := ⟨_, rfl⟩
                have hP : va_P D vcl (fw n ad mem425) H := by rw [e_mem425, eJ424]; exact hP
                have hD : va_D (Az sz) (fw n ad mem425) := fw_D hD
                have hW426 : MW cy ad J424 A420 nm m0 mem425 := by rw [e_mem425]; exact hW421.upJ (by rw [eJ424]; exact va_up_ne _ _ (by decide))
                have kk427 : J424 1 = nI L := by rw [eJ424]; exact kk407
                have kk428 : J424 24 = nI G := by rw [eJ424]; exact kk408
                have kk429 : J424 17 = 0 := by rw [eJ424]; exact kk409
                have kk430 : J424 14 = nI u := by rw [eJ424]; exact kk410
                have kk431 : J424 4 = nI R := by rw [eJ424]; exact kk411
                have kk432 : J424 7 = nI Ec := by rw [eJ424]; exact kk412
                have kk433 : J424 28 = 0 := by rw [eJ424]; exact kk414
                have kk434 : J424 16 = nI (a11 + 1) := by rw [eJ424]; exact kk415
                have kk435 : J424 18 = nI (f) := by rw [eJ424, va_up_self]
                refine lv_aload_n Bx.1 Bx.2.1 d_Mo_goesOn_149 rfl (lv_at hl 4 rfl) ?_
                refine lv_iload Bx.1 Bx.2.1 d_Mo_goesOn_150 (lv_at hl 0 rfl) ?_
                obtain ⟨hp1, hp2, hp3, hp4, hp5⟩ := hI1.pop hEb h391 (A' := A420) (fun j hj => by rw [hA1.2, va_up_ne _ _ hj]) (fun k hk => by rw [hA1.2, va_up_self]; exact upd_ne hk) (fun _ => by rw [hA1.2, va_up_self, upd_self]; exact nI_m (by omega)) (fun z => absurd (by rw [← hf1]; exact hso) z) (hap422.LK (by omega) (by omega) hI.1) (fun _ z => z)
                have hk18 : J424 18 = nI (f1 + 1) := by rw [kk435, hf1]
                refine f_callVv (na := 1) (As := [.int (nI (ft (f1 + 1)))]) (rest := []) Bx hml E hP hD hS (by omega) hW426.1 rfl (m_Mo_placedX l hn hW426 (e9 := ft (f1 + 1)) hk18 (by omega) (by omega) hp1 (by omega) hp3 hp5 hp2) kw_834 kw_836 sel_Mo_placed kw_8 kw_837 (by decide +kernel) ⟨rfl, rfl⟩ ⟨Nat.le_of_ble_eq_true rfl, Nat.le_of_ble_eq_true rfl⟩ rfl hl.1 (Nat.le_of_ble_eq_true rfl) d_Mo_goesOn_152 ⟨Nat.le_of_ble_eq_true rfl, Nat.le_of_ble_eq_true rfl⟩ (fun mem437 H locs hq hP hS => ?_)
                have hD : va_D (Az sz) (fw n ad mem437) := fw_D hD
                obtain ⟨hW439, hinv440, h39441, hj442⟩ := hq
                obtain ⟨A438, eA438⟩ : ∃ z, z = plcS A420 (f1) (ft (f1 + 1)) := ⟨_, rfl⟩
                rw [← eA438] at hW439 hinv440 h39441 hj442
                have tT443 : A438 225 = T := (hj442 225 (by decide) (by decide) (by decide)).trans tT423
                refine lv_goto Bx.1 Bx.2.1 d_Mo_goesOn_155 rfl ?_
                refine lv_iconst (v := 1) Bx.1 Bx.2.1 d_Mo_goesOn_210 (by decide) ?_
                exact W.zret (v := 1) hx hb hr rfl (fun t ht hW => ⟨⟨1, mem437, rfl, ⟨J424, A438, nm, hW439, Or.inl ⟨rfl, some (a11 + 1, u, R, Ec, f1, A438, nm, false), by rw [go_c2 (show hereF L T (gapF T L a) = 93 by rw [← ea16]; exact hb255) hso hf1 (e := ft (f1 + 1)) (c := fc f) (by rw [hte.2.1, show ft f = ft (f1 + 1) by rw [← hf1]]) (by omega) hfg.1.1 (by omega), ← ea16, eA438, eA420]; rfl, Or.inr ⟨a11 + 1, u, R, Ec, f1, false, by omega, rfl, ⟨kk427, kk428, kk434, kk429, kk430, kk431, kk432, hk18⟩, ⟨by omega, by omega, by omega, by omega, by omega, by omega⟩, tT443, kk433, fc, fs, ft, hinv440.qT, h39441⟩⟩⟩, by show va_P _ _ _ t.heap; rw [ht]; exact hP⟩, hS.F ht⟩) hS.2.2 d_Mo_goesOn_211
            · exact absurd hb416 (by decide)
  · have hlt444 := hereF_lt (by rw [hb28]; decide)
    refine lv_aload_n Bx.1 Bx.2.1 d_Mo_goesOn_27 rfl (lv_at hl 3 rfl) ?_
    refine lv_dup Bx.1 Bx.2.1 d_Mo_goesOn_28 rfl ?_
    refine f_get Bx hP (by omega) hW14.1 rfl inMo 16 (by decide) kw_672 rfl rfl d_Mo_goesOn_29 ?_
    rw [kk25]
    refine lv_iconst (v := 1) Bx.1 Bx.2.1 d_Mo_goesOn_32 (by decide) ?_
    refine lv_iadd Bx.1 Bx.2.1 d_Mo_goesOn_33 ?_
    rw [show nI a11 + 1 = nI (a11 + 1) from nI_add (a11) (1)]
    refine f_put Bx hP hD hS (by omega) hW14.1 rfl inMo tyMo okMo nmMo 16 (by decide) kw_672 rfl rfl rfl rfl (Nat.le_of_ble_eq_true rfl) d_Mo_goesOn_34 (fun H locs hP hS => ?_)
    obtain ⟨J445, eJ445⟩ : ∃ z, z = va_up J15 16 (nI (a11 + 1)) := ⟨_, rfl⟩
    obtain ⟨mem446, e_mem446⟩ : ∃ z, z = va_up mem10 224 (moC ad J445) := ⟨_, rfl⟩
    have hP : va_P D vcl (fw n ad mem446) H := by rw [e_mem446, eJ445]; exact hP
    have hD : va_D (Az sz) (fw n ad mem446) := fw_D hD
    have hW447 : MW cy ad J445 A nm m0 mem446 := by rw [e_mem446]; exact hW14.upJ (by rw [eJ445]; exact va_up_ne _ _ (by decide))
    have kk448 : J445 1 = nI L := by rw [eJ445]; exact kk17
    have kk449 : J445 24 = nI G := by rw [eJ445]; exact kk18
    have kk450 : J445 17 = 0 := by rw [eJ445]; exact kk19
    have kk451 : J445 14 = nI u := by rw [eJ445]; exact kk20
    have kk452 : J445 4 = nI R := by rw [eJ445]; exact kk21
    have kk453 : J445 7 = nI Ec := by rw [eJ445]; exact kk22
    have kk454 : J445 18 = nI (f + 1) := by rw [eJ445]; exact kk23
    have kk455 : J445 28 = 0 := by rw [eJ445]; exact kk24
    have kk456 : J445 16 = nI (a11 + 1) := by rw [eJ445, va_up_self]
    refine lv_aload_n Bx.1 Bx.2.1 d_Mo_goesOn_37 rfl (lv_at hl 3 rfl) ?_
    refine f_callVv (na := 0) (As := []) (rest := []) Bx hml E hP hD hS (by omega) hW447.1 rfl (m_Mo_gapX l hn hW447 kk448 hL kk456 (by omega)) kw_803 kw_805 sel_Mo_gap kw_8 kw_806 (by decide +kernel) ⟨rfl, rfl⟩ ⟨Nat.le_of_ble_eq_true rfl, Nat.le_of_ble_eq_true rfl⟩ rfl hl.1 (Nat.le_of_ble_eq_true rfl) d_Mo_goesOn_38 ⟨Nat.le_of_ble_eq_true rfl, Nat.le_of_ble_eq_true rfl⟩ (fun mem458 H locs hq hP hS => ?_)
    have hD : va_D (Az sz) (fw n ad mem458) := fw_D hD
    rw [hT] at hq
    obtain ⟨a459, ea464⟩ : ∃ z, z = gapF T L (a11 + 1) := ⟨_, rfl⟩
    have hg460 : a11 + 1 ≤ a459 := by rw [ea464]; exact gapF_ge T L _
    have hg461 : a459 ≤ L := by rw [ea464]; exact gapF_le T (by omega)
    rw [← ea464] at hq
    obtain ⟨J463, eJ463⟩ : ∃ z, z = va_up J445 16 (nI a459) := ⟨_, rfl⟩
    rw [← eJ463] at hq
    have hW462 := hq
    have kk465 : J463 1 = nI L := (show J463 1 = J445 1 from by rw [eJ463]; rfl).trans kk448
    have kk466 : J463 24 = nI G := (show J463 24 = J445 24 from by rw [eJ463]; rfl).trans kk449
    have kk467 : J463 17 = 0 := (show J463 17 = J445 17 from by rw [eJ463]; rfl).trans kk450
    have kk468 : J463 14 = nI u := (show J463 14 = J445 14 from by rw [eJ463]; rfl).trans kk451
    have kk469 : J463 4 = nI R := (show J463 4 = J445 4 from by rw [eJ463]; rfl).trans kk452
    have kk470 : J463 7 = nI Ec := (show J463 7 = J445 7 from by rw [eJ463]; rfl).trans kk453
    have kk471 : J463 18 = nI (f + 1) := (show J463 18 = J445 18 from by rw [eJ463]; rfl).trans kk454
    have kk472 : J463 28 = 0 := (show J463 28 = J445 28 from by rw [eJ463]; rfl).trans kk455
    have kk473 : J463 16 = nI a459 := by rw [eJ463, va_up_self]
    refine lv_aload_n Bx.1 Bx.2.1 d_Mo_goesOn_41 rfl (lv_at hl 3 rfl) ?_
    refine f_callVv (na := 0) (As := []) (rest := []) Bx hml E hP hD hS (by omega) hW462.1 rfl (m_Mo_sequenceX l hn hW462 ⟨kk465, kk466, kk473, kk467, kk468, kk469, kk470, kk471⟩ ⟨hL, by omega, by omega, by omega, by omega⟩ (by omega) hT kk472 hI.toF h39) kw_818 kw_820 sel_Mo_sequence kw_8 kw_821 (by decide +kernel) ⟨rfl, rfl⟩ ⟨Nat.le_of_ble_eq_true rfl, Nat.le_of_ble_eq_true rfl⟩ rfl hl.1 (Nat.le_of_ble_eq_true rfl) d_Mo_goesOn_42 ⟨Nat.le_of_ble_eq_true rfl, Nat.le_of_ble_eq_true rfl⟩ (fun mem475 H locs hq hP hS => ?_)
    have hD : va_D (Az sz) (fw n ad mem475) := fw_D hD
    obtain ⟨J476, A477, nn478, hW479, hres480⟩ := hq
    refine lv_goto Bx.1 Bx.2.1 d_Mo_goesOn_45 rfl ?_
    refine lv_iconst (v := 1) Bx.1 Bx.2.1 d_Mo_goesOn_210 (by decide) ?_
    exact W.zret (v := 1) hx hb hr rfl (fun t ht hW => ⟨⟨1, mem475, rfl, ⟨J476, A477, nn478, hW479, Or.inl ⟨rfl, _, by rw [go_sl (show hereF L T (gapF T L a) = 47 by rw [← ea16]; exact hb28), ← ea16, ← ea464], hres480.mono (by omega) rfl⟩⟩, by show va_P _ _ _ t.heap; rw [ht]; exact hP⟩, hS.F ht⟩) hS.2.2 d_Mo_goesOn_211
