abbrev eCl (ad : Nat → Nat) (k : Nat) (a b c : Int32) (q v w : Value) : va_E := .inr (2, [.int a, .int b, .int c, q, v, w, .ref (ad (21 + 2 * k))])
set_option maxHeartbeats 4000000 in
set_option maxRecDepth 100000 in
theorem m_Rd_readGapY (l : Launch) {D : va_G} {cy : Nat → ClassId} {sz n : Nat} {ad : Nat → Nat} {mem : Nat → va_E} {Z a R Ec lim : Nat} {f T : Nat → Int32} {to : Nat → Int32} {nm : Nat → Int64} {m0 : Nat → va_E} (hn : 224 ≤ n) (hT : TX cy ad Z f m0) (hf : ∀ k, k < Z → f k = T k) (hRX : RX cy ad lim a R Ec to nm m0 mem) (haB : a ≤ 300) (haZ : a ≤ Z) : MI l D cy sz n ad y_Rd_readGap c_Rd_readGap 6 (some .boolean) ({ frames := 2, cells := 0, slots := 0, locals := 60 } : Room) mem [.ref (ad 222)] (fun r mem' => RX cy ad lim (gapF T Z a) R Ec to nm m0 mem' ∧ ((r = 1 ∧ a < gapF T Z a) ∨ (r = 0 ∧ gapF T Z a ≤ a)) ∧ ∀ i, i ≠ 222 → mem' i = mem i) := by
  refine Met.ofW (cc := c_Rd_readGap) (maxL := 6) (ret := (some .boolean)) (by decide) rfl ?_
  intro p e s m args below meth c s₁ B hml hv
  obtain ⟨rfl, E, hP, hD⟩ := hv
  have hx := B.exec
  have hb := B.bytes
  have hr := B.returns
  have hlocks := B.notSynchronized
  have Bx : MB p s m [.ref (ad 222)].toArray c c_Rd_readGap "AbnfChart$Reader" D cy := ⟨hx, hb, tb_all (atoms_spec B.pre) E.2.1, findClass_of_methodNamed B.named, E.1⟩
  have hS : va_S (Az sz) s.heap s.heap [] := va_S.rf
  have hl := lv_entry ([.ref (ad 222)]) (n := 6) (Nat.le_of_ble_eq_true rfl)
  rw [lg_entry_eq]
  generalize (lg_sl ([.ref (ad 222)]) ++ List.replicate (6 - (lg_sl ([.ref (ad 222)])).length) Slot.unset).toArray = ls at hl ⊢
  have hl : lv_has ls 6 [(0, .ref (ad 222))] := hl
  have hZ9 := hT.2.1
  have hbd9 := hRX.1.1.1
  have hfr0 : ∀ i, i ≠ 222 → mem i = mem i := fun _ _ => rfl
  obtain ⟨ft1, h9_2⟩ := hRX.2.1
  have h1_3 : mem 1 = .inr (0, [.ref (ad 2), .int (nI Z)]) := (hRX.1.2.2 1 (by omega)).trans hT.1
  have h2_4 : mem 2 = .inl (cy 0, 240, .inl f) := (hRX.1.2.2 2 (by omega)).trans hT.2.2
  have h5_5 := hRX.1.1.2.1
  have hbd11 := hRX.1.1.1
  obtain ⟨S6, g7, hS_8, h220_9, h221_10⟩ := hRX.1.1.2.2.2.2.2.2
  refine lv_aload_n Bx.1 Bx.2.1 d_Rd_readGap_0 rfl (lv_at hl 0 rfl) ?_
  refine f_get Bx hP (by omega) h9_2 rfl inRd 2 (by decide) kw_146 rfl rfl d_Rd_readGap_1 ?_
  refine lv_istore_n (lv' := [(1, .int (nI a)), (0, .ref (ad 222))]) Bx.1 Bx.2.1 d_Rd_readGap_4 rfl hl (by decide) rfl (fun ls hl => ?_)
  refine lv_iconst (v := 0) Bx.1 Bx.2.1 d_Rd_readGap_5 (by decide) ?_
  refine lv_istore_n (lv' := [(2, .int (0)), (1, .int (nI a)), (0, .ref (ad 222))]) Bx.1 Bx.2.1 d_Rd_readGap_6 rfl hl (by decide) rfl (fun ls hl => ?_)
  refine lv_iconst (v := 0) Bx.1 Bx.2.1 d_Rd_readGap_7 (by decide) ?_
  refine lv_istore_n (lv' := [(3, .int (0)), (2, .int (0)), (1, .int (nI a)), (0, .ref (ad 222))]) Bx.1 Bx.2.1 d_Rd_readGap_8 rfl hl (by decide) rfl (fun ls hl => ?_)
  have loop12 : ∀ (d13 : Nat) (mem9 : Nat → va_E) (a1 : Nat) (k : Nat) (co : Bool) (ls : Array Slot) (H : Heap) (locs : List Loc), (240 - k < d13) → (RX cy ad lim a1 R Ec to nm m0 mem9) → (a ≤ a1 ∧ a1 ≤ Z ∧ k ≤ a1 ∧ k ≤ 240) → ((if co then gapC T Z a1 else gapF T Z a1) = gapF T Z a) → (∀ i, i ≠ 222 → mem9 i = mem i) → (va_P D vcl (fw n ad mem9) H) → (va_D (Az sz) (fw n ad mem9)) → (va_S (Az sz) s.heap H locs) → (lv_has ls 6 [(3, .int (nI k)), (2, .int ((if co then 1 else 0))), (1, .int (nI a)), (0, .ref (ad 222))]) → W p l e (headSpec (Cond.code y_Rd_readGap c_Rd_readGap 6 (some .boolean) :: tg) ({ frames := 2, cells := 0, slots := 0, locals := 60 } : Room)).room s m [.ref (ad 222)].toArray below meth c H locs 0 0 (MQ below (va_Qi (fun r mem' => RX cy ad lim (gapF T Z a) R Ec to nm m0 mem' ∧ ((r = 1 ∧ a < gapF T Z a) ∨ (r = 0 ∧ gapF T Z a ≤ a)) ∧ ∀ i, i ≠ 222 → mem' i = mem i) (PP D n ad) (Az sz)) [.ref (ad 222)].toArray s 0 0 (Az sz)) (F0 m 9 ls []) := by
    intro d13
    induction d13 with
    | zero => intro mem9 a1 k co ls H locs hmeas19; exact absurd hmeas19 (Nat.not_lt_zero _)
    | succ d13 ih18 =>
      intro mem9 a1 k co ls H locs hmeas19 hz14 hz15 hz16 hz17 hP hD hS hl
      obtain ⟨ft20, h9_21⟩ := hz14.2.1
      have h1_22 : mem9 1 = .inr (0, [.ref (ad 2), .int (nI Z)]) := (hz14.1.2.2 1 (by omega)).trans hT.1
      have h2_23 : mem9 2 = .inl (cy 0, 240, .inl f) := (hz14.1.2.2 2 (by omega)).trans hT.2.2
      have h5_24 := hz14.1.1.2.1
      have hbd30 := hz14.1.1.1
      obtain ⟨S25, g26, hS_27, h220_28, h221_29⟩ := hz14.1.1.2.2.2.2.2.2
      have hbd8 := hz15
      cases co with
      | false =>
        have hz16r : gapF T Z a1 = gapF T Z a := hz16
        have hl : lv_has ls 6 [(3, .int (nI k)), (2, .int (0)), (1, .int (nI a)), (0, .ref (ad 222))] := hl
        refine lv_iload_n Bx.1 Bx.2.1 d_Rd_readGap_9 rfl (lv_at hl 0 rfl) ?_
        refine lv_sipush (v := 240) Bx.1 Bx.2.1 d_Rd_readGap_10 (by decide) ?_
        refine lv_icmp_ge Bx.1 Bx.2.1 d_Rd_readGap_13 rfl (fun hb31 => ?_) (fun hb31 => ?_)
        · have hN32 : 240 ≤ k := (nI_leI (by omega) (by omega)).mp (show nI (240) ≤ nI (k) from hb31)
          have hga : gapF T Z a = a1 := by rw [← hz16r]; exact gapF_no (fun z => by omega) (fun z => by omega) (fun z => by omega)
          refine lv_aload_n Bx.1 Bx.2.1 d_Rd_readGap_125 rfl (lv_at hl 3 rfl) ?_
          refine f_get Bx hP (by omega) h9_21 rfl inRd 2 (by decide) kw_146 rfl rfl d_Rd_readGap_126 ?_
          refine lv_iload_n Bx.1 Bx.2.1 d_Rd_readGap_129 rfl (lv_at hl 2 rfl) ?_
          refine lv_icmp_le Bx.1 Bx.2.1 d_Rd_readGap_130 rfl (fun hb33 => ?_) (fun hb33 => ?_)
          · have hN34 : a1 ≤ a := (nI_leI (by omega) (by omega)).mp (show nI (a1) ≤ nI (a) from hb33)
            refine lv_iconst (v := 0) Bx.1 Bx.2.1 d_Rd_readGap_137 (by decide) ?_
            exact W.zret (v := 0) hx hb hr rfl (fun t ht hW => ⟨⟨0, mem9, rfl, ⟨by rw [hga]; exact hz14, Or.inr ⟨rfl, by omega⟩, hz17⟩, by show va_P _ _ _ t.heap; rw [ht]; exact hP⟩, hS.F ht⟩) hS.2.2 d_Rd_readGap_138
          · have hN35 : ¬ a1 ≤ a := fun q9 => hb33 (show nI (a1) ≤ nI (a) from (nI_leI (by omega) (by omega)).mpr q9)
            refine lv_iconst (v := 1) Bx.1 Bx.2.1 d_Rd_readGap_133 (by decide) ?_
            refine lv_goto Bx.1 Bx.2.1 d_Rd_readGap_134 rfl ?_
            exact W.zret (v := 1) hx hb hr rfl (fun t ht hW => ⟨⟨1, mem9, rfl, ⟨by rw [hga]; exact hz14, Or.inl ⟨rfl, by omega⟩, hz17⟩, by show va_P _ _ _ t.heap; rw [ht]; exact hP⟩, hS.F ht⟩) hS.2.2 d_Rd_readGap_138
        · have hN36 : ¬ 240 ≤ k := fun q9 => hb31 (show nI (240) ≤ nI (k) from (nI_leI (by omega) (by omega)).mpr q9)
          refine lv_aload_n Bx.1 Bx.2.1 d_Rd_readGap_16 rfl (lv_at hl 3 rfl) ?_
          refine f_get Bx hP (by omega) h9_21 rfl inRd 2 (by decide) kw_146 rfl rfl d_Rd_readGap_17 ?_
          refine lv_aload_n Bx.1 Bx.2.1 d_Rd_readGap_20 rfl (lv_at hl 3 rfl) ?_
          refine f_get Bx hP (by omega) h9_21 rfl inRd 0 (by decide) kw_144 rfl rfl d_Rd_readGap_21 ?_
          refine f_getN Bx hP (by omega) h1_22 rfl inCh 1 (by decide) kw_33 rfl rfl d_Rd_readGap_24 ?_
          refine lv_icmp_ge Bx.1 Bx.2.1 d_Rd_readGap_27 rfl (fun hb37 => ?_) (fun hb37 => ?_)
          · have hN38 : Z ≤ a1 := (nI_leI (by omega) (by omega)).mp (show nI (Z) ≤ nI (a1) from hb37)
            have hga : gapF T Z a = a1 := by rw [← hz16r]; exact gapF_no (fun z => by omega) (fun z => by omega) (fun z => by omega)
            refine lv_aload_n Bx.1 Bx.2.1 d_Rd_readGap_125 rfl (lv_at hl 3 rfl) ?_
            refine f_get Bx hP (by omega) h9_21 rfl inRd 2 (by decide) kw_146 rfl rfl d_Rd_readGap_126 ?_
            refine lv_iload_n Bx.1 Bx.2.1 d_Rd_readGap_129 rfl (lv_at hl 2 rfl) ?_
            refine lv_icmp_le Bx.1 Bx.2.1 d_Rd_readGap_130 rfl (fun hb39 => ?_) (fun hb39 => ?_)
            · have hN40 : a1 ≤ a := (nI_leI (by omega) (by omega)).mp (show nI (a1) ≤ nI (a) from hb39)
              refine lv_iconst (v := 0) Bx.1 Bx.2.1 d_Rd_readGap_137 (by decide) ?_
              exact W.zret (v := 0) hx hb hr rfl (fun t ht hW => ⟨⟨0, mem9, rfl, ⟨by rw [hga]; exact hz14, Or.inr ⟨rfl, by omega⟩, hz17⟩, by show va_P _ _ _ t.heap; rw [ht]; exact hP⟩, hS.F ht⟩) hS.2.2 d_Rd_readGap_138
            · have hN41 : ¬ a1 ≤ a := fun q9 => hb39 (show nI (a1) ≤ nI (a) from (nI_leI (by omega) (by omega)).mpr q9)
              refine lv_iconst (v := 1) Bx.1 Bx.2.1 d_Rd_readGap_133 (by decide) ?_
              refine lv_goto Bx.1 Bx.2.1 d_Rd_readGap_134 rfl ?_
              exact W.zret (v := 1) hx hb hr rfl (fun t ht hW => ⟨⟨1, mem9, rfl, ⟨by rw [hga]; exact hz14, Or.inl ⟨rfl, by omega⟩, hz17⟩, by show va_P _ _ _ t.heap; rw [ht]; exact hP⟩, hS.F ht⟩) hS.2.2 d_Rd_readGap_138
          · have hN42 : ¬ Z ≤ a1 := fun q9 => hb37 (show nI (Z) ≤ nI (a1) from (nI_leI (by omega) (by omega)).mpr q9)
            refine lv_aload_n Bx.1 Bx.2.1 d_Rd_readGap_30 rfl (lv_at hl 3 rfl) ?_
            refine f_callVi (na := 0) (As := []) (rest := []) Bx hml E hP hD hS (by omega) h9_21 rfl (m_Rd_peekX l hn hT hf hz14 (by omega)) kw_353 kw_355 sel_Rd_peek kw_6 kw_356 (by decide +kernel) ⟨rfl, rfl⟩ ⟨Nat.le_of_ble_eq_true rfl, Nat.le_of_ble_eq_true rfl⟩ rfl hl.1 (Nat.le_of_ble_eq_true rfl) d_Rd_readGap_31 ⟨Nat.le_of_ble_eq_true rfl, Nat.le_of_ble_eq_true rfl⟩ (fun r44 mem45 H locs hq hP hS => ?_)
            have hD : va_D (Az sz) (fw n ad mem45) := fw_D hD
            obtain ⟨hqe, hpk43⟩ := hq
            rw [hqe] at hP hD
            subst hpk43
            have hTk : hereF Z T (a1) = T a1 := hereF_at (by omega)
            refine lv_istore (lv' := [(4, .int (hereF Z T (a1))), (3, .int (nI k)), (2, .int (0)), (1, .int (nI a)), (0, .ref (ad 222))]) Bx.1 Bx.2.1 d_Rd_readGap_34 hl (by decide) rfl (fun ls hl => ?_)
            refine lv_iload Bx.1 Bx.2.1 d_Rd_readGap_36 (lv_at hl 0 rfl) ?_
            refine lv_bipush (v := 10) Bx.1 Bx.2.1 d_Rd_readGap_38 (by decide) ?_
            refine lv_icmp_ne Bx.1 Bx.2.1 d_Rd_readGap_40 rfl (fun hb47 => ?_) (fun hb47 => ?_)
            · have hn10 : ¬ T a1 = 10 := fun z => hb47 (hTk.trans z)
              refine lv_iload Bx.1 Bx.2.1 d_Rd_readGap_83 (lv_at hl 0 rfl) ?_
              refine lv_bipush (v := 59) Bx.1 Bx.2.1 d_Rd_readGap_85 (by decide) ?_
              refine lv_icmp_ne Bx.1 Bx.2.1 d_Rd_readGap_87 rfl (fun hb48 => ?_) (fun hb48 => ?_)
              · have hn59 : ¬ T a1 = 59 := fun z => hb48 (hTk.trans z)
                refine lv_iload Bx.1 Bx.2.1 d_Rd_readGap_95 (lv_at hl 0 rfl) ?_
                refine lv_bipush (v := 32) Bx.1 Bx.2.1 d_Rd_readGap_97 (by decide) ?_
                refine lv_icmp_eq Bx.1 Bx.2.1 d_Rd_readGap_99 rfl (fun hb49 => ?_) (fun hb49 => ?_)
                · have hlt50 := hereF_lt (by rw [hb49]; decide)
                  have h32 : T a1 = 32 := hTk.symm.trans hb49
                  refine lv_aload_n Bx.1 Bx.2.1 d_Rd_readGap_109 rfl (lv_at hl 4 rfl) ?_
                  refine lv_dup Bx.1 Bx.2.1 d_Rd_readGap_110 rfl ?_
                  refine f_get Bx hP (by omega) h9_21 rfl inRd 2 (by decide) kw_146 rfl rfl d_Rd_readGap_111 ?_
                  refine lv_iconst (v := 1) Bx.1 Bx.2.1 d_Rd_readGap_114 (by decide) ?_
                  refine lv_iadd Bx.1 Bx.2.1 d_Rd_readGap_115 ?_
                  rw [show nI a1 + 1 = nI (a1 + 1) from nI_add (a1) (1)]
                  refine f_put Bx hP hD hS (by omega) h9_21 rfl inRd tyRd okRd nmRd 2 (by decide) kw_146 rfl rfl rfl rfl (Nat.le_of_ble_eq_true rfl) d_Rd_readGap_116 (fun H locs hP hS => ?_)
                  obtain ⟨mem51, e_mem51⟩ : ∃ z, z = va_up mem9 (222) (.inr (4, [.ref (ad 1), .ref (ad 5), .int (nI (a1 + 1)), .int (ft20)])) := ⟨_, rfl⟩
                  have hP : va_P D vcl (fw n ad mem51) H := by rw [e_mem51]; exact hP
                  have hD : va_D (Az sz) (fw n ad mem51) := fw_D hD
                  have h_mem51 : mem51 (222) = .inr (4, [.ref (ad 1), .ref (ad 5), .int (nI (a1 + 1)), .int (ft20)]) := by rw [e_mem51, va_up_self]
                  have hh52 := (va_up_ne mem9 (.inr (4, [.ref (ad 1), .ref (ad 5), .int (nI (a1 + 1)), .int (ft20)])) (show (1 : Nat) ≠ 222 by first | decide | assumption | omega)).trans h1_22
                  rw [← e_mem51] at hh52
                  have hh53 := (va_up_ne mem9 (.inr (4, [.ref (ad 1), .ref (ad 5), .int (nI (a1 + 1)), .int (ft20)])) (show (5 : Nat) ≠ 222 by first | decide | assumption | omega)).trans h5_24
                  rw [← e_mem51] at hh53
                  have hh54 := (va_up_ne mem9 (.inr (4, [.ref (ad 1), .ref (ad 5), .int (nI (a1 + 1)), .int (ft20)])) (show (220 : Nat) ≠ 222 by first | decide | assumption | omega)).trans h220_28
                  rw [← e_mem51] at hh54
                  have hfr55 : ∀ i, i ≠ 222 → mem51 i = mem i := fun i q => (show mem51 i = mem9 i by rw [e_mem51]; exact va_up_ne _ _ (by omega)).trans (hz17 i q)
                  have hRX56 : RX cy ad lim (a1 + 1) (R) (Ec) (to) (nm) m0 mem51 := by rw [e_mem51]; exact hz14.at
                  refine lv_iinc (lv' := [(3, .int ((nI k + (1)))), (4, .int (hereF Z T (a1))), (2, .int (0)), (1, .int (nI a)), (0, .ref (ad 222))]) Bx.1 Bx.2.1 d_Rd_readGap_119 hl (k := 1) rfl rfl (by decide) rfl (fun ls hl => ?_)
                  rw [show (nI k + (1) : Int32) = nI (k + 1) from nI_1 (k)] at hl
                  refine lv_goto Bx.1 Bx.2.1 d_Rd_readGap_122 rfl ?_
                  exact ih18 mem51 (a1 + 1) (k + 1) (false) _ _ _ (by have := hmeas19; omega) (hRX56) (⟨by omega, by omega, by omega, by omega⟩) (by show gapF T Z _ = _; rw [← hz16r, gapF_sp (by omega) h32]) (hfr55) hP hD hS (lv_sub hl [0, 2, 3, 4] rfl)
                · have hn32 : ¬ T a1 = 32 := fun z => hb49 (hTk.trans z)
                  refine lv_iload_n Bx.1 Bx.2.1 d_Rd_readGap_102 rfl (lv_at hl 2 rfl) ?_
                  refine lv_if_ne Bx.1 Bx.2.1 d_Rd_readGap_103 rfl (fun hb57 => ?_) (fun hb57 => ?_)
                  · exact absurd hb57 (by decide)
                  · refine lv_goto Bx.1 Bx.2.1 d_Rd_readGap_106 rfl ?_
                    have hga : gapF T Z a = a1 := by rw [← hz16r]; exact gapF_no (fun z => hn32 z.2) (fun z => hn59 z.2) (fun z => hn10 z.2)
                    refine lv_aload_n Bx.1 Bx.2.1 d_Rd_readGap_125 rfl (lv_at hl 4 rfl) ?_
                    refine f_get Bx hP (by omega) h9_21 rfl inRd 2 (by decide) kw_146 rfl rfl d_Rd_readGap_126 ?_
                    refine lv_iload_n Bx.1 Bx.2.1 d_Rd_readGap_129 rfl (lv_at hl 3 rfl) ?_
                    refine lv_icmp_le Bx.1 Bx.2.1 d_Rd_readGap_130 rfl (fun hb58 => ?_) (fun hb58 => ?_)
                    · have hN59 : a1 ≤ a := (nI_leI (by omega) (by omega)).mp (show nI (a1) ≤ nI (a) from hb58)
                      refine lv_iconst (v := 0) Bx.1 Bx.2.1 d_Rd_readGap_137 (by decide) ?_
                      exact W.zret (v := 0) hx hb hr rfl (fun t ht hW => ⟨⟨0, mem9, rfl, ⟨by rw [hga]; exact hz14, Or.inr ⟨rfl, by omega⟩, hz17⟩, by show va_P _ _ _ t.heap; rw [ht]; exact hP⟩, hS.F ht⟩) hS.2.2 d_Rd_readGap_138
                    · have hN60 : ¬ a1 ≤ a := fun q9 => hb58 (show nI (a1) ≤ nI (a) from (nI_leI (by omega) (by omega)).mpr q9)
                      refine lv_iconst (v := 1) Bx.1 Bx.2.1 d_Rd_readGap_133 (by decide) ?_
                      refine lv_goto Bx.1 Bx.2.1 d_Rd_readGap_134 rfl ?_
                      exact W.zret (v := 1) hx hb hr rfl (fun t ht hW => ⟨⟨1, mem9, rfl, ⟨by rw [hga]; exact hz14, Or.inl ⟨rfl, by omega⟩, hz17⟩, by show va_P _ _ _ t.heap; rw [ht]; exact hP⟩, hS.F ht⟩) hS.2.2 d_Rd_readGap_138
              · have hlt61 := hereF_lt (by rw [hb48]; decide)
                have h59 : T a1 = 59 := hTk.symm.trans hb48
                refine lv_iconst (v := 1) Bx.1 Bx.2.1 d_Rd_readGap_90 (by decide) ?_
                refine lv_istore_n (lv' := [(2, .int (1)), (4, .int (hereF Z T (a1))), (3, .int (nI k)), (1, .int (nI a)), (0, .ref (ad 222))]) Bx.1 Bx.2.1 d_Rd_readGap_91 rfl hl (by decide) rfl (fun ls hl => ?_)
                refine lv_goto Bx.1 Bx.2.1 d_Rd_readGap_92 rfl ?_
                refine lv_aload_n Bx.1 Bx.2.1 d_Rd_readGap_109 rfl (lv_at hl 4 rfl) ?_
                refine lv_dup Bx.1 Bx.2.1 d_Rd_readGap_110 rfl ?_
                refine f_get Bx hP (by omega) h9_21 rfl inRd 2 (by decide) kw_146 rfl rfl d_Rd_readGap_111 ?_
                refine lv_iconst (v := 1) Bx.1 Bx.2.1 d_Rd_readGap_114 (by decide) ?_
                refine lv_iadd Bx.1 Bx.2.1 d_Rd_readGap_115 ?_
                rw [show nI a1 + 1 = nI (a1 + 1) from nI_add (a1) (1)]
                refine f_put Bx hP hD hS (by omega) h9_21 rfl inRd tyRd okRd nmRd 2 (by decide) kw_146 rfl rfl rfl rfl (Nat.le_of_ble_eq_true rfl) d_Rd_readGap_116 (fun H locs hP hS => ?_)
                obtain ⟨mem62, e_mem62⟩ : ∃ z, z = va_up mem9 (222) (.inr (4, [.ref (ad 1), .ref (ad 5), .int (nI (a1 + 1)), .int (ft20)])) := ⟨_, rfl⟩
                have hP : va_P D vcl (fw n ad mem62) H := by rw [e_mem62]; exact hP
                have hD : va_D (Az sz) (fw n ad mem62) := fw_D hD
                have h_mem62 : mem62 (222) = .inr (4, [.ref (ad 1), .ref (ad 5), .int (nI (a1 + 1)), .int (ft20)]) := by rw [e_mem62, va_up_self]
                have hh63 := (va_up_ne mem9 (.inr (4, [.ref (ad 1), .ref (ad 5), .int (nI (a1 + 1)), .int (ft20)])) (show (1 : Nat) ≠ 222 by first | decide | assumption | omega)).trans h1_22
                rw [← e_mem62] at hh63
                have hh64 := (va_up_ne mem9 (.inr (4, [.ref (ad 1), .ref (ad 5), .int (nI (a1 + 1)), .int (ft20)])) (show (5 : Nat) ≠ 222 by first | decide | assumption | omega)).trans h5_24
                rw [← e_mem62] at hh64
                have hh65 := (va_up_ne mem9 (.inr (4, [.ref (ad 1), .ref (ad 5), .int (nI (a1 + 1)), .int (ft20)])) (show (220 : Nat) ≠ 222 by first | decide | assumption | omega)).trans h220_28
                rw [← e_mem62] at hh65
                have hfr66 : ∀ i, i ≠ 222 → mem62 i = mem i := fun i q => (show mem62 i = mem9 i by rw [e_mem62]; exact va_up_ne _ _ (by omega)).trans (hz17 i q)
                have hRX67 : RX cy ad lim (a1 + 1) (R) (Ec) (to) (nm) m0 mem62 := by rw [e_mem62]; exact hz14.at
                refine lv_iinc (lv' := [(3, .int ((nI k + (1)))), (2, .int (1)), (4, .int (hereF Z T (a1))), (1, .int (nI a)), (0, .ref (ad 222))]) Bx.1 Bx.2.1 d_Rd_readGap_119 hl (k := 2) rfl rfl (by decide) rfl (fun ls hl => ?_)
                rw [show (nI k + (1) : Int32) = nI (k + 1) from nI_1 (k)] at hl
                refine lv_goto Bx.1 Bx.2.1 d_Rd_readGap_122 rfl ?_
                exact ih18 mem62 (a1 + 1) (k + 1) (true) _ _ _ (by have := hmeas19; omega) (hRX67) (⟨by omega, by omega, by omega, by omega⟩) (by show gapC T Z _ = _; rw [← hz16r, gapF_co (by omega) h59]) (hfr66) hP hD hS (lv_sub hl [0, 1, 3, 4] rfl)
            · have hlt68 := hereF_lt (by rw [hb47]; decide)
              have h10 : T a1 = 10 := hTk.symm.trans hb47
              refine lv_aload_n Bx.1 Bx.2.1 d_Rd_readGap_43 rfl (lv_at hl 4 rfl) ?_
              refine lv_aload_n Bx.1 Bx.2.1 d_Rd_readGap_44 rfl (lv_at hl 4 rfl) ?_
              refine f_get Bx hP (by omega) h9_21 rfl inRd 2 (by decide) kw_146 rfl rfl d_Rd_readGap_45 ?_
              refine lv_iconst (v := 1) Bx.1 Bx.2.1 d_Rd_readGap_48 (by decide) ?_
              refine lv_iadd Bx.1 Bx.2.1 d_Rd_readGap_49 ?_
              rw [show nI a1 + 1 = nI (a1 + 1) from nI_add (a1) (1)]
              refine f_callVi (na := 1) (As := [.int (nI (a1 + 1))]) (rest := []) Bx hml E hP hD hS (by omega) h9_21 rfl (m_Rd_fullLineFromX l hn hT hf hz14 (k0 := a1 + 1) (by omega)) kw_337 kw_339 sel_Rd_fullLineFrom kw_6 kw_340 (by decide +kernel) ⟨rfl, rfl⟩ ⟨Nat.le_of_ble_eq_true rfl, Nat.le_of_ble_eq_true rfl⟩ rfl hl.1 (Nat.le_of_ble_eq_true rfl) d_Rd_readGap_50 ⟨Nat.le_of_ble_eq_true rfl, Nat.le_of_ble_eq_true rfl⟩ (fun r70 mem71 H locs hq hP hS => ?_)
              have hD : va_D (Az sz) (fw n ad mem71) := fw_D hD
              obtain ⟨hqe, hfl69⟩ := hq
              rw [hqe] at hP hD
              obtain ⟨li73, ea74⟩ : ∃ z, z = lineF T Z (a1 + 1) := ⟨_, rfl⟩
              rw [← ea74] at hfl69
              subst hfl69
              have hb75 : li73 ≤ Z := by rw [ea74]; exact lineF_le T Z _
              refine lv_istore (lv' := [(5, .int (nI li73)), (4, .int (hereF Z T (a1))), (3, .int (nI k)), (2, .int (0)), (1, .int (nI a)), (0, .ref (ad 222))]) Bx.1 Bx.2.1 d_Rd_readGap_53 hl (by decide) rfl (fun ls hl => ?_)
              refine lv_aload_n Bx.1 Bx.2.1 d_Rd_readGap_55 rfl (lv_at hl 5 rfl) ?_
              refine f_get Bx hP (by omega) h9_21 rfl inRd 0 (by decide) kw_144 rfl rfl d_Rd_readGap_56 ?_
              refine lv_iload Bx.1 Bx.2.1 d_Rd_readGap_59 (lv_at hl 0 rfl) ?_
              refine f_callVi (na := 1) (As := [.int (nI li73)]) (rest := []) Bx hml E hP hD hS (by omega) h1_22 rfl (m_Ch_codeAt l (by omega) h1_22 (by omega) h2_23 (by rw [nI_toInt (by omega)]; omega)) kw_341 kw_342 kw_343 kw_2 kw_344 (by decide +kernel) ⟨rfl, rfl⟩ ⟨Nat.le_of_ble_eq_true rfl, Nat.le_of_ble_eq_true rfl⟩ rfl hl.1 (Nat.le_of_ble_eq_true rfl) d_Rd_readGap_61 ⟨Nat.le_of_ble_eq_true rfl, Nat.le_of_ble_eq_true rfl⟩ (fun r76 mem77 H locs hq hP hS => ?_)
              have hD : va_D (Az sz) (fw n ad mem77) := fw_D hD
              obtain ⟨hco78, hqe⟩ := hq
              rw [hqe] at hP hD
              rw [code_here hf hT.2.1 (k := li73) (by omega)] at hco78
              subst hco78
              refine lv_bipush (v := 32) Bx.1 Bx.2.1 d_Rd_readGap_64 (by decide) ?_
              refine lv_icmp_eq Bx.1 Bx.2.1 d_Rd_readGap_66 rfl (fun hb79 => ?_) (fun hb79 => ?_)
              · have hlt80 := hereF_lt (by rw [hb79]; decide)
                obtain ⟨hll, hgy⟩ := gapF_lfy (by omega) h10 (show hereF Z T (lineF T Z (a1 + 1)) = 32 by rw [← ea74]; exact hb79)
                rw [← ea74] at hll hgy
                have hge : a1 + 1 ≤ li73 := by rw [ea74]; exact lineF_ge T (by omega)
                refine lv_aload_n Bx.1 Bx.2.1 d_Rd_readGap_72 rfl (lv_at hl 5 rfl) ?_
                refine lv_iload Bx.1 Bx.2.1 d_Rd_readGap_73 (lv_at hl 0 rfl) ?_
                refine f_put Bx hP hD hS (by omega) h9_21 rfl inRd tyRd okRd nmRd 2 (by decide) kw_146 rfl rfl rfl rfl (Nat.le_of_ble_eq_true rfl) d_Rd_readGap_75 (fun H locs hP hS => ?_)
                obtain ⟨mem81, e_mem81⟩ : ∃ z, z = va_up mem9 (222) (.inr (4, [.ref (ad 1), .ref (ad 5), .int (nI li73), .int (ft20)])) := ⟨_, rfl⟩
                have hP : va_P D vcl (fw n ad mem81) H := by rw [e_mem81]; exact hP
                have hD : va_D (Az sz) (fw n ad mem81) := fw_D hD
                have h_mem81 : mem81 (222) = .inr (4, [.ref (ad 1), .ref (ad 5), .int (nI li73), .int (ft20)]) := by rw [e_mem81, va_up_self]
                have hh82 := (va_up_ne mem9 (.inr (4, [.ref (ad 1), .ref (ad 5), .int (nI li73), .int (ft20)])) (show (1 : Nat) ≠ 222 by first | decide | assumption | omega)).trans h1_22
                rw [← e_mem81] at hh82
                have hh83 := (va_up_ne mem9 (.inr (4, [.ref (ad 1), .ref (ad 5), .int (nI li73), .int (ft20)])) (show (5 : Nat) ≠ 222 by first | decide | assumption | omega)).trans h5_24
                rw [← e_mem81] at hh83
                have hh84 := (va_up_ne mem9 (.inr (4, [.ref (ad 1), .ref (ad 5), .int (nI li73), .int (ft20)])) (show (220 : Nat) ≠ 222 by first | decide | assumption | omega)).trans h220_28
                rw [← e_mem81] at hh84
                have hfr85 : ∀ i, i ≠ 222 → mem81 i = mem i := fun i q => (show mem81 i = mem9 i by rw [e_mem81]; exact va_up_ne _ _ (by omega)).trans (hz17 i q)
                have hRX86 : RX cy ad lim (li73) (R) (Ec) (to) (nm) m0 mem81 := by rw [e_mem81]; exact hz14.at
                refine lv_iconst (v := 0) Bx.1 Bx.2.1 d_Rd_readGap_78 (by decide) ?_
                refine lv_istore_n (lv' := [(2, .int (0)), (5, .int (nI li73)), (4, .int (hereF Z T (a1))), (3, .int (nI k)), (1, .int (nI a)), (0, .ref (ad 222))]) Bx.1 Bx.2.1 d_Rd_readGap_79 rfl hl (by decide) rfl (fun ls hl => ?_)
                refine lv_goto Bx.1 Bx.2.1 d_Rd_readGap_80 rfl ?_
                refine lv_aload_n Bx.1 Bx.2.1 d_Rd_readGap_109 rfl (lv_at hl 5 rfl) ?_
                refine lv_dup Bx.1 Bx.2.1 d_Rd_readGap_110 rfl ?_
                refine f_get Bx hP (by omega) h_mem81 rfl inRd 2 (by decide) kw_146 rfl rfl d_Rd_readGap_111 ?_
                refine lv_iconst (v := 1) Bx.1 Bx.2.1 d_Rd_readGap_114 (by decide) ?_
                refine lv_iadd Bx.1 Bx.2.1 d_Rd_readGap_115 ?_
                rw [show nI li73 + 1 = nI (li73 + 1) from nI_add (li73) (1)]
                refine f_put Bx hP hD hS (by omega) h_mem81 rfl inRd tyRd okRd nmRd 2 (by decide) kw_146 rfl rfl rfl rfl (Nat.le_of_ble_eq_true rfl) d_Rd_readGap_116 (fun H locs hP hS => ?_)
                obtain ⟨mem87, e_mem87⟩ : ∃ z, z = va_up mem81 (222) (.inr (4, [.ref (ad 1), .ref (ad 5), .int (nI (li73 + 1)), .int (ft20)])) := ⟨_, rfl⟩
                have hP : va_P D vcl (fw n ad mem87) H := by rw [e_mem87]; exact hP
                have hD : va_D (Az sz) (fw n ad mem87) := fw_D hD
                have h_mem87 : mem87 (222) = .inr (4, [.ref (ad 1), .ref (ad 5), .int (nI (li73 + 1)), .int (ft20)]) := by rw [e_mem87, va_up_self]
                have hh88 := (va_up_ne mem81 (.inr (4, [.ref (ad 1), .ref (ad 5), .int (nI (li73 + 1)), .int (ft20)])) (show (1 : Nat) ≠ 222 by first | decide | assumption | omega)).trans hh82
                rw [← e_mem87] at hh88
                have hh89 := (va_up_ne mem81 (.inr (4, [.ref (ad 1), .ref (ad 5), .int (nI (li73 + 1)), .int (ft20)])) (show (5 : Nat) ≠ 222 by first | decide | assumption | omega)).trans hh83
                rw [← e_mem87] at hh89
                have hh90 := (va_up_ne mem81 (.inr (4, [.ref (ad 1), .ref (ad 5), .int (nI (li73 + 1)), .int (ft20)])) (show (220 : Nat) ≠ 222 by first | decide | assumption | omega)).trans hh84
                rw [← e_mem87] at hh90
                have hfr91 : ∀ i, i ≠ 222 → mem87 i = mem i := fun i q => (show mem87 i = mem81 i by rw [e_mem87]; exact va_up_ne _ _ (by omega)).trans (hfr85 i q)
                have hRX92 : RX cy ad lim (li73 + 1) (R) (Ec) (to) (nm) m0 mem87 := by rw [e_mem87]; exact hRX86.at
                refine lv_iinc (lv' := [(3, .int ((nI k + (1)))), (2, .int (0)), (5, .int (nI li73)), (4, .int (hereF Z T (a1))), (1, .int (nI a)), (0, .ref (ad 222))]) Bx.1 Bx.2.1 d_Rd_readGap_119 hl (k := 3) rfl rfl (by decide) rfl (fun ls hl => ?_)
                rw [show (nI k + (1) : Int32) = nI (k + 1) from nI_1 (k)] at hl
                refine lv_goto Bx.1 Bx.2.1 d_Rd_readGap_122 rfl ?_
                exact ih18 mem87 (li73 + 1) (k + 1) (false) _ _ _ (by have := hmeas19; omega) (hRX92) (⟨by omega, by omega, by omega, by omega⟩) (by show gapF T Z _ = _; rw [← hz16r, hgy]) (hfr91) hP hD hS (lv_sub hl [0, 1, 4, 5] rfl)
              · refine lv_goto Bx.1 Bx.2.1 d_Rd_readGap_69 rfl ?_
                have hga : gapF T Z a = a1 := by rw [← hz16r]; exact gapF_lfn (by omega) h10 (by rw [← ea74]; exact hb79)
                refine lv_aload_n Bx.1 Bx.2.1 d_Rd_readGap_125 rfl (lv_at hl 5 rfl) ?_
                refine f_get Bx hP (by omega) h9_21 rfl inRd 2 (by decide) kw_146 rfl rfl d_Rd_readGap_126 ?_
                refine lv_iload_n Bx.1 Bx.2.1 d_Rd_readGap_129 rfl (lv_at hl 4 rfl) ?_
                refine lv_icmp_le Bx.1 Bx.2.1 d_Rd_readGap_130 rfl (fun hb93 => ?_) (fun hb93 => ?_)
                · have hN94 : a1 ≤ a := (nI_leI (by omega) (by omega)).mp (show nI (a1) ≤ nI (a) from hb93)
                  refine lv_iconst (v := 0) Bx.1 Bx.2.1 d_Rd_readGap_137 (by decide) ?_
                  exact W.zret (v := 0) hx hb hr rfl (fun t ht hW => ⟨⟨0, mem9, rfl, ⟨by rw [hga]; exact hz14, Or.inr ⟨rfl, by omega⟩, hz17⟩, by show va_P _ _ _ t.heap; rw [ht]; exact hP⟩, hS.F ht⟩) hS.2.2 d_Rd_readGap_138
                · have hN95 : ¬ a1 ≤ a := fun q9 => hb93 (show nI (a1) ≤ nI (a) from (nI_leI (by omega) (by omega)).mpr q9)
                  refine lv_iconst (v := 1) Bx.1 Bx.2.1 d_Rd_readGap_133 (by decide) ?_
                  refine lv_goto Bx.1 Bx.2.1 d_Rd_readGap_134 rfl ?_
                  exact W.zret (v := 1) hx hb hr rfl (fun t ht hW => ⟨⟨1, mem9, rfl, ⟨by rw [hga]; exact hz14, Or.inl ⟨rfl, by omega⟩, hz17⟩, by show va_P _ _ _ t.heap; rw [ht]; exact hP⟩, hS.F ht⟩) hS.2.2 d_Rd_readGap_138
      | true =>
        have hz16r : gapC T Z a1 = gapF T Z a := hz16
        have hl : lv_has ls 6 [(3, .int (nI k)), (2, .int (1)), (1, .int (nI a)), (0, .ref (ad 222))] := hl
        refine lv_iload_n Bx.1 Bx.2.1 d_Rd_readGap_9 rfl (lv_at hl 0 rfl) ?_
        refine lv_sipush (v := 240) Bx.1 Bx.2.1 d_Rd_readGap_10 (by decide) ?_
        refine lv_icmp_ge Bx.1 Bx.2.1 d_Rd_readGap_13 rfl (fun hb96 => ?_) (fun hb96 => ?_)
        · have hN97 : 240 ≤ k := (nI_leI (by omega) (by omega)).mp (show nI (240) ≤ nI (k) from hb96)
          have hga : gapF T Z a = a1 := by rw [← hz16r]; exact gapC_end (by omega)
          refine lv_aload_n Bx.1 Bx.2.1 d_Rd_readGap_125 rfl (lv_at hl 3 rfl) ?_
          refine f_get Bx hP (by omega) h9_21 rfl inRd 2 (by decide) kw_146 rfl rfl d_Rd_readGap_126 ?_
          refine lv_iload_n Bx.1 Bx.2.1 d_Rd_readGap_129 rfl (lv_at hl 2 rfl) ?_
          refine lv_icmp_le Bx.1 Bx.2.1 d_Rd_readGap_130 rfl (fun hb98 => ?_) (fun hb98 => ?_)
          · have hN99 : a1 ≤ a := (nI_leI (by omega) (by omega)).mp (show nI (a1) ≤ nI (a) from hb98)
            refine lv_iconst (v := 0) Bx.1 Bx.2.1 d_Rd_readGap_137 (by decide) ?_
            exact W.zret (v := 0) hx hb hr rfl (fun t ht hW => ⟨⟨0, mem9, rfl, ⟨by rw [hga]; exact hz14, Or.inr ⟨rfl, by omega⟩, hz17⟩, by show va_P _ _ _ t.heap; rw [ht]; exact hP⟩, hS.F ht⟩) hS.2.2 d_Rd_readGap_138
          · have hN100 : ¬ a1 ≤ a := fun q9 => hb98 (show nI (a1) ≤ nI (a) from (nI_leI (by omega) (by omega)).mpr q9)
            refine lv_iconst (v := 1) Bx.1 Bx.2.1 d_Rd_readGap_133 (by decide) ?_
            refine lv_goto Bx.1 Bx.2.1 d_Rd_readGap_134 rfl ?_
            exact W.zret (v := 1) hx hb hr rfl (fun t ht hW => ⟨⟨1, mem9, rfl, ⟨by rw [hga]; exact hz14, Or.inl ⟨rfl, by omega⟩, hz17⟩, by show va_P _ _ _ t.heap; rw [ht]; exact hP⟩, hS.F ht⟩) hS.2.2 d_Rd_readGap_138
        · have hN101 : ¬ 240 ≤ k := fun q9 => hb96 (show nI (240) ≤ nI (k) from (nI_leI (by omega) (by omega)).mpr q9)
          refine lv_aload_n Bx.1 Bx.2.1 d_Rd_readGap_16 rfl (lv_at hl 3 rfl) ?_
          refine f_get Bx hP (by omega) h9_21 rfl inRd 2 (by decide) kw_146 rfl rfl d_Rd_readGap_17 ?_
          refine lv_aload_n Bx.1 Bx.2.1 d_Rd_readGap_20 rfl (lv_at hl 3 rfl) ?_
          refine f_get Bx hP (by omega) h9_21 rfl inRd 0 (by decide) kw_144 rfl rfl d_Rd_readGap_21 ?_
          refine f_getN Bx hP (by omega) h1_22 rfl inCh 1 (by decide) kw_33 rfl rfl d_Rd_readGap_24 ?_
          refine lv_icmp_ge Bx.1 Bx.2.1 d_Rd_readGap_27 rfl (fun hb102 => ?_) (fun hb102 => ?_)
          · have hN103 : Z ≤ a1 := (nI_leI (by omega) (by omega)).mp (show nI (Z) ≤ nI (a1) from hb102)
            have hga : gapF T Z a = a1 := by rw [← hz16r]; exact gapC_end (by omega)
            refine lv_aload_n Bx.1 Bx.2.1 d_Rd_readGap_125 rfl (lv_at hl 3 rfl) ?_
            refine f_get Bx hP (by omega) h9_21 rfl inRd 2 (by decide) kw_146 rfl rfl d_Rd_readGap_126 ?_
            refine lv_iload_n Bx.1 Bx.2.1 d_Rd_readGap_129 rfl (lv_at hl 2 rfl) ?_
            refine lv_icmp_le Bx.1 Bx.2.1 d_Rd_readGap_130 rfl (fun hb104 => ?_) (fun hb104 => ?_)
            · have hN105 : a1 ≤ a := (nI_leI (by omega) (by omega)).mp (show nI (a1) ≤ nI (a) from hb104)
              refine lv_iconst (v := 0) Bx.1 Bx.2.1 d_Rd_readGap_137 (by decide) ?_
              exact W.zret (v := 0) hx hb hr rfl (fun t ht hW => ⟨⟨0, mem9, rfl, ⟨by rw [hga]; exact hz14, Or.inr ⟨rfl, by omega⟩, hz17⟩, by show va_P _ _ _ t.heap; rw [ht]; exact hP⟩, hS.F ht⟩) hS.2.2 d_Rd_readGap_138
            · have hN106 : ¬ a1 ≤ a := fun q9 => hb104 (show nI (a1) ≤ nI (a) from (nI_leI (by omega) (by omega)).mpr q9)
              refine lv_iconst (v := 1) Bx.1 Bx.2.1 d_Rd_readGap_133 (by decide) ?_
              refine lv_goto Bx.1 Bx.2.1 d_Rd_readGap_134 rfl ?_
              exact W.zret (v := 1) hx hb hr rfl (fun t ht hW => ⟨⟨1, mem9, rfl, ⟨by rw [hga]; exact hz14, Or.inl ⟨rfl, by omega⟩, hz17⟩, by show va_P _ _ _ t.heap; rw [ht]; exact hP⟩, hS.F ht⟩) hS.2.2 d_Rd_readGap_138
          · have hN107 : ¬ Z ≤ a1 := fun q9 => hb102 (show nI (Z) ≤ nI (a1) from (nI_leI (by omega) (by omega)).mpr q9)
            refine lv_aload_n Bx.1 Bx.2.1 d_Rd_readGap_30 rfl (lv_at hl 3 rfl) ?_
            refine f_callVi (na := 0) (As := []) (rest := []) Bx hml E hP hD hS (by omega) h9_21 rfl (m_Rd_peekX l hn hT hf hz14 (by omega)) kw_353 kw_355 sel_Rd_peek kw_6 kw_356 (by decide +kernel) ⟨rfl, rfl⟩ ⟨Nat.le_of_ble_eq_true rfl, Nat.le_of_ble_eq_true rfl⟩ rfl hl.1 (Nat.le_of_ble_eq_true rfl) d_Rd_readGap_31 ⟨Nat.le_of_ble_eq_true rfl, Nat.le_of_ble_eq_true rfl⟩ (fun r109 mem110 H locs hq hP hS => ?_)
            have hD : va_D (Az sz) (fw n ad mem110) := fw_D hD
            obtain ⟨hqe, hpk108⟩ := hq
            rw [hqe] at hP hD
            subst hpk108
            have hTk : hereF Z T (a1) = T a1 := hereF_at (by omega)
            refine lv_istore (lv' := [(4, .int (hereF Z T (a1))), (3, .int (nI k)), (2, .int (1)), (1, .int (nI a)), (0, .ref (ad 222))]) Bx.1 Bx.2.1 d_Rd_readGap_34 hl (by decide) rfl (fun ls hl => ?_)
            refine lv_iload Bx.1 Bx.2.1 d_Rd_readGap_36 (lv_at hl 0 rfl) ?_
            refine lv_bipush (v := 10) Bx.1 Bx.2.1 d_Rd_readGap_38 (by decide) ?_
            refine lv_icmp_ne Bx.1 Bx.2.1 d_Rd_readGap_40 rfl (fun hb112 => ?_) (fun hb112 => ?_)
            · have hn10 : ¬ T a1 = 10 := fun z => hb112 (hTk.trans z)
              refine lv_iload Bx.1 Bx.2.1 d_Rd_readGap_83 (lv_at hl 0 rfl) ?_
              refine lv_bipush (v := 59) Bx.1 Bx.2.1 d_Rd_readGap_85 (by decide) ?_
              refine lv_icmp_ne Bx.1 Bx.2.1 d_Rd_readGap_87 rfl (fun hb113 => ?_) (fun hb113 => ?_)
              · have hn59 : ¬ T a1 = 59 := fun z => hb113 (hTk.trans z)
                refine lv_iload Bx.1 Bx.2.1 d_Rd_readGap_95 (lv_at hl 0 rfl) ?_
                refine lv_bipush (v := 32) Bx.1 Bx.2.1 d_Rd_readGap_97 (by decide) ?_
                refine lv_icmp_eq Bx.1 Bx.2.1 d_Rd_readGap_99 rfl (fun hb114 => ?_) (fun hb114 => ?_)
                · have hlt115 := hereF_lt (by rw [hb114]; decide)
                  have h32 : T a1 = 32 := hTk.symm.trans hb114
                  refine lv_aload_n Bx.1 Bx.2.1 d_Rd_readGap_109 rfl (lv_at hl 4 rfl) ?_
                  refine lv_dup Bx.1 Bx.2.1 d_Rd_readGap_110 rfl ?_
                  refine f_get Bx hP (by omega) h9_21 rfl inRd 2 (by decide) kw_146 rfl rfl d_Rd_readGap_111 ?_
                  refine lv_iconst (v := 1) Bx.1 Bx.2.1 d_Rd_readGap_114 (by decide) ?_
                  refine lv_iadd Bx.1 Bx.2.1 d_Rd_readGap_115 ?_
                  rw [show nI a1 + 1 = nI (a1 + 1) from nI_add (a1) (1)]
                  refine f_put Bx hP hD hS (by omega) h9_21 rfl inRd tyRd okRd nmRd 2 (by decide) kw_146 rfl rfl rfl rfl (Nat.le_of_ble_eq_true rfl) d_Rd_readGap_116 (fun H locs hP hS => ?_)
                  obtain ⟨mem116, e_mem116⟩ : ∃ z, z = va_up mem9 (222) (.inr (4, [.ref (ad 1), .ref (ad 5), .int (nI (a1 + 1)), .int (ft20)])) := ⟨_, rfl⟩
                  have hP : va_P D vcl (fw n ad mem116) H := by rw [e_mem116]; exact hP
                  have hD : va_D (Az sz) (fw n ad mem116) := fw_D hD
                  have h_mem116 : mem116 (222) = .inr (4, [.ref (ad 1), .ref (ad 5), .int (nI (a1 + 1)), .int (ft20)]) := by rw [e_mem116, va_up_self]
                  have hh117 := (va_up_ne mem9 (.inr (4, [.ref (ad 1), .ref (ad 5), .int (nI (a1 + 1)), .int (ft20)])) (show (1 : Nat) ≠ 222 by first | decide | assumption | omega)).trans h1_22
                  rw [← e_mem116] at hh117
                  have hh118 := (va_up_ne mem9 (.inr (4, [.ref (ad 1), .ref (ad 5), .int (nI (a1 + 1)), .int (ft20)])) (show (5 : Nat) ≠ 222 by first | decide | assumption | omega)).trans h5_24
                  rw [← e_mem116] at hh118
                  have hh119 := (va_up_ne mem9 (.inr (4, [.ref (ad 1), .ref (ad 5), .int (nI (a1 + 1)), .int (ft20)])) (show (220 : Nat) ≠ 222 by first | decide | assumption | omega)).trans h220_28
                  rw [← e_mem116] at hh119
                  have hfr120 : ∀ i, i ≠ 222 → mem116 i = mem i := fun i q => (show mem116 i = mem9 i by rw [e_mem116]; exact va_up_ne _ _ (by omega)).trans (hz17 i q)
                  have hRX121 : RX cy ad lim (a1 + 1) (R) (Ec) (to) (nm) m0 mem116 := by rw [e_mem116]; exact hz14.at
                  refine lv_iinc (lv' := [(3, .int ((nI k + (1)))), (4, .int (hereF Z T (a1))), (2, .int (1)), (1, .int (nI a)), (0, .ref (ad 222))]) Bx.1 Bx.2.1 d_Rd_readGap_119 hl (k := 1) rfl rfl (by decide) rfl (fun ls hl => ?_)
                  rw [show (nI k + (1) : Int32) = nI (k + 1) from nI_1 (k)] at hl
                  refine lv_goto Bx.1 Bx.2.1 d_Rd_readGap_122 rfl ?_
                  exact ih18 mem116 (a1 + 1) (k + 1) (true) _ _ _ (by have := hmeas19; omega) (hRX121) (⟨by omega, by omega, by omega, by omega⟩) (by show gapC T Z _ = _; rw [← hz16r, gapC_on (by omega) hn10]) (hfr120) hP hD hS (lv_sub hl [0, 2, 3, 4] rfl)
                · have hn32 : ¬ T a1 = 32 := fun z => hb114 (hTk.trans z)
                  refine lv_iload_n Bx.1 Bx.2.1 d_Rd_readGap_102 rfl (lv_at hl 2 rfl) ?_
                  refine lv_if_ne Bx.1 Bx.2.1 d_Rd_readGap_103 rfl (fun hb122 => ?_) (fun hb122 => ?_)
                  · refine lv_aload_n Bx.1 Bx.2.1 d_Rd_readGap_109 rfl (lv_at hl 4 rfl) ?_
                    refine lv_dup Bx.1 Bx.2.1 d_Rd_readGap_110 rfl ?_
                    refine f_get Bx hP (by omega) h9_21 rfl inRd 2 (by decide) kw_146 rfl rfl d_Rd_readGap_111 ?_
                    refine lv_iconst (v := 1) Bx.1 Bx.2.1 d_Rd_readGap_114 (by decide) ?_
                    refine lv_iadd Bx.1 Bx.2.1 d_Rd_readGap_115 ?_
                    rw [show nI a1 + 1 = nI (a1 + 1) from nI_add (a1) (1)]
                    refine f_put Bx hP hD hS (by omega) h9_21 rfl inRd tyRd okRd nmRd 2 (by decide) kw_146 rfl rfl rfl rfl (Nat.le_of_ble_eq_true rfl) d_Rd_readGap_116 (fun H locs hP hS => ?_)
                    obtain ⟨mem123, e_mem123⟩ : ∃ z, z = va_up mem9 (222) (.inr (4, [.ref (ad 1), .ref (ad 5), .int (nI (a1 + 1)), .int (ft20)])) := ⟨_, rfl⟩
                    have hP : va_P D vcl (fw n ad mem123) H := by rw [e_mem123]; exact hP
                    have hD : va_D (Az sz) (fw n ad mem123) := fw_D hD
                    have h_mem123 : mem123 (222) = .inr (4, [.ref (ad 1), .ref (ad 5), .int (nI (a1 + 1)), .int (ft20)]) := by rw [e_mem123, va_up_self]
                    have hh124 := (va_up_ne mem9 (.inr (4, [.ref (ad 1), .ref (ad 5), .int (nI (a1 + 1)), .int (ft20)])) (show (1 : Nat) ≠ 222 by first | decide | assumption | omega)).trans h1_22
                    rw [← e_mem123] at hh124
                    have hh125 := (va_up_ne mem9 (.inr (4, [.ref (ad 1), .ref (ad 5), .int (nI (a1 + 1)), .int (ft20)])) (show (5 : Nat) ≠ 222 by first | decide | assumption | omega)).trans h5_24
                    rw [← e_mem123] at hh125
                    have hh126 := (va_up_ne mem9 (.inr (4, [.ref (ad 1), .ref (ad 5), .int (nI (a1 + 1)), .int (ft20)])) (show (220 : Nat) ≠ 222 by first | decide | assumption | omega)).trans h220_28
                    rw [← e_mem123] at hh126
                    have hfr127 : ∀ i, i ≠ 222 → mem123 i = mem i := fun i q => (show mem123 i = mem9 i by rw [e_mem123]; exact va_up_ne _ _ (by omega)).trans (hz17 i q)
                    have hRX128 : RX cy ad lim (a1 + 1) (R) (Ec) (to) (nm) m0 mem123 := by rw [e_mem123]; exact hz14.at
                    refine lv_iinc (lv' := [(3, .int ((nI k + (1)))), (4, .int (hereF Z T (a1))), (2, .int (1)), (1, .int (nI a)), (0, .ref (ad 222))]) Bx.1 Bx.2.1 d_Rd_readGap_119 hl (k := 1) rfl rfl (by decide) rfl (fun ls hl => ?_)
                    rw [show (nI k + (1) : Int32) = nI (k + 1) from nI_1 (k)] at hl
                    refine lv_goto Bx.1 Bx.2.1 d_Rd_readGap_122 rfl ?_
                    exact ih18 mem123 (a1 + 1) (k + 1) (true) _ _ _ (by have := hmeas19; omega) (hRX128) (⟨by omega, by omega, by omega, by omega⟩) (by show gapC T Z _ = _; rw [← hz16r, gapC_on (by omega) hn10]) (hfr127) hP hD hS (lv_sub hl [0, 2, 3, 4] rfl)
                  · exact absurd hb122 (by decide)
              · have hlt129 := hereF_lt (by rw [hb113]; decide)
                have h59 : T a1 = 59 := hTk.symm.trans hb113
                refine lv_iconst (v := 1) Bx.1 Bx.2.1 d_Rd_readGap_90 (by decide) ?_
                refine lv_istore_n (lv' := [(2, .int (1)), (4, .int (hereF Z T (a1))), (3, .int (nI k)), (1, .int (nI a)), (0, .ref (ad 222))]) Bx.1 Bx.2.1 d_Rd_readGap_91 rfl hl (by decide) rfl (fun ls hl => ?_)
                refine lv_goto Bx.1 Bx.2.1 d_Rd_readGap_92 rfl ?_
                refine lv_aload_n Bx.1 Bx.2.1 d_Rd_readGap_109 rfl (lv_at hl 4 rfl) ?_
                refine lv_dup Bx.1 Bx.2.1 d_Rd_readGap_110 rfl ?_
                refine f_get Bx hP (by omega) h9_21 rfl inRd 2 (by decide) kw_146 rfl rfl d_Rd_readGap_111 ?_
                refine lv_iconst (v := 1) Bx.1 Bx.2.1 d_Rd_readGap_114 (by decide) ?_
                refine lv_iadd Bx.1 Bx.2.1 d_Rd_readGap_115 ?_
                rw [show nI a1 + 1 = nI (a1 + 1) from nI_add (a1) (1)]
                refine f_put Bx hP hD hS (by omega) h9_21 rfl inRd tyRd okRd nmRd 2 (by decide) kw_146 rfl rfl rfl rfl (Nat.le_of_ble_eq_true rfl) d_Rd_readGap_116 (fun H locs hP hS => ?_)
                obtain ⟨mem130, e_mem130⟩ : ∃ z, z = va_up mem9 (222) (.inr (4, [.ref (ad 1), .ref (ad 5), .int (nI (a1 + 1)), .int (ft20)])) := ⟨_, rfl⟩
                have hP : va_P D vcl (fw n ad mem130) H := by rw [e_mem130]; exact hP
                have hD : va_D (Az sz) (fw n ad mem130) := fw_D hD
                have h_mem130 : mem130 (222) = .inr (4, [.ref (ad 1), .ref (ad 5), .int (nI (a1 + 1)), .int (ft20)]) := by rw [e_mem130, va_up_self]
                have hh131 := (va_up_ne mem9 (.inr (4, [.ref (ad 1), .ref (ad 5), .int (nI (a1 + 1)), .int (ft20)])) (show (1 : Nat) ≠ 222 by first | decide | assumption | omega)).trans h1_22
                rw [← e_mem130] at hh131
                have hh132 := (va_up_ne mem9 (.inr (4, [.ref (ad 1), .ref (ad 5), .int (nI (a1 + 1)), .int (ft20)])) (show (5 : Nat) ≠ 222 by first | decide | assumption | omega)).trans h5_24
                rw [← e_mem130] at hh132
                have hh133 := (va_up_ne mem9 (.inr (4, [.ref (ad 1), .ref (ad 5), .int (nI (a1 + 1)), .int (ft20)])) (show (220 : Nat) ≠ 222 by first | decide | assumption | omega)).trans h220_28
                rw [← e_mem130] at hh133
                have hfr134 : ∀ i, i ≠ 222 → mem130 i = mem i := fun i q => (show mem130 i = mem9 i by rw [e_mem130]; exact va_up_ne _ _ (by omega)).trans (hz17 i q)
                have hRX135 : RX cy ad lim (a1 + 1) (R) (Ec) (to) (nm) m0 mem130 := by rw [e_mem130]; exact hz14.at
                refine lv_iinc (lv' := [(3, .int ((nI k + (1)))), (2, .int (1)), (4, .int (hereF Z T (a1))), (1, .int (nI a)), (0, .ref (ad 222))]) Bx.1 Bx.2.1 d_Rd_readGap_119 hl (k := 2) rfl rfl (by decide) rfl (fun ls hl => ?_)
                rw [show (nI k + (1) : Int32) = nI (k + 1) from nI_1 (k)] at hl
                refine lv_goto Bx.1 Bx.2.1 d_Rd_readGap_122 rfl ?_
                exact ih18 mem130 (a1 + 1) (k + 1) (true) _ _ _ (by have := hmeas19; omega) (hRX135) (⟨by omega, by omega, by omega, by omega⟩) (by show gapC T Z _ = _; rw [← hz16r, gapC_on (by omega) hn10]) (hfr134) hP hD hS (lv_sub hl [0, 1, 3, 4] rfl)
            · have hlt136 := hereF_lt (by rw [hb112]; decide)
              have h10 : T a1 = 10 := hTk.symm.trans hb112
              refine lv_aload_n Bx.1 Bx.2.1 d_Rd_readGap_43 rfl (lv_at hl 4 rfl) ?_
              refine lv_aload_n Bx.1 Bx.2.1 d_Rd_readGap_44 rfl (lv_at hl 4 rfl) ?_
              refine f_get Bx hP (by omega) h9_21 rfl inRd 2 (by decide) kw_146 rfl rfl d_Rd_readGap_45 ?_
              refine lv_iconst (v := 1) Bx.1 Bx.2.1 d_Rd_readGap_48 (by decide) ?_
              refine lv_iadd Bx.1 Bx.2.1 d_Rd_readGap_49 ?_
              rw [show nI a1 + 1 = nI (a1 + 1) from nI_add (a1) (1)]
              refine f_callVi (na := 1) (As := [.int (nI (a1 + 1))]) (rest := []) Bx hml E hP hD hS (by omega) h9_21 rfl (m_Rd_fullLineFromX l hn hT hf hz14 (k0 := a1 + 1) (by omega)) kw_337 kw_339 sel_Rd_fullLineFrom kw_6 kw_340 (by decide +kernel) ⟨rfl, rfl⟩ ⟨Nat.le_of_ble_eq_true rfl, Nat.le_of_ble_eq_true rfl⟩ rfl hl.1 (Nat.le_of_ble_eq_true rfl) d_Rd_readGap_50 ⟨Nat.le_of_ble_eq_true rfl, Nat.le_of_ble_eq_true rfl⟩ (fun r138 mem139 H locs hq hP hS => ?_)
              have hD : va_D (Az sz) (fw n ad mem139) := fw_D hD
              obtain ⟨hqe, hfl137⟩ := hq
              rw [hqe] at hP hD
              obtain ⟨li141, ea142⟩ : ∃ z, z = lineF T Z (a1 + 1) := ⟨_, rfl⟩
              rw [← ea142] at hfl137
              subst hfl137
              have hb143 : li141 ≤ Z := by rw [ea142]; exact lineF_le T Z _
              refine lv_istore (lv' := [(5, .int (nI li141)), (4, .int (hereF Z T (a1))), (3, .int (nI k)), (2, .int (1)), (1, .int (nI a)), (0, .ref (ad 222))]) Bx.1 Bx.2.1 d_Rd_readGap_53 hl (by decide) rfl (fun ls hl => ?_)
              refine lv_aload_n Bx.1 Bx.2.1 d_Rd_readGap_55 rfl (lv_at hl 5 rfl) ?_
              refine f_get Bx hP (by omega) h9_21 rfl inRd 0 (by decide) kw_144 rfl rfl d_Rd_readGap_56 ?_
              refine lv_iload Bx.1 Bx.2.1 d_Rd_readGap_59 (lv_at hl 0 rfl) ?_
              refine f_callVi (na := 1) (As := [.int (nI li141)]) (rest := []) Bx hml E hP hD hS (by omega) h1_22 rfl (m_Ch_codeAt l (by omega) h1_22 (by omega) h2_23 (by rw [nI_toInt (by omega)]; omega)) kw_341 kw_342 kw_343 kw_2 kw_344 (by decide +kernel) ⟨rfl, rfl⟩ ⟨Nat.le_of_ble_eq_true rfl, Nat.le_of_ble_eq_true rfl⟩ rfl hl.1 (Nat.le_of_ble_eq_true rfl) d_Rd_readGap_61 ⟨Nat.le_of_ble_eq_true rfl, Nat.le_of_ble_eq_true rfl⟩ (fun r144 mem145 H locs hq hP hS => ?_)
              have hD : va_D (Az sz) (fw n ad mem145) := fw_D hD
              obtain ⟨hco146, hqe⟩ := hq
              rw [hqe] at hP hD
              rw [code_here hf hT.2.1 (k := li141) (by omega)] at hco146
              subst hco146
              refine lv_bipush (v := 32) Bx.1 Bx.2.1 d_Rd_readGap_64 (by decide) ?_
              refine lv_icmp_eq Bx.1 Bx.2.1 d_Rd_readGap_66 rfl (fun hb147 => ?_) (fun hb147 => ?_)
              · have hlt148 := hereF_lt (by rw [hb147]; decide)
                obtain ⟨hll, hgy⟩ := gapF_lfy (by omega) h10 (show hereF Z T (lineF T Z (a1 + 1)) = 32 by rw [← ea142]; exact hb147)
                rw [← ea142] at hll hgy
                have hge : a1 + 1 ≤ li141 := by rw [ea142]; exact lineF_ge T (by omega)
                refine lv_aload_n Bx.1 Bx.2.1 d_Rd_readGap_72 rfl (lv_at hl 5 rfl) ?_
                refine lv_iload Bx.1 Bx.2.1 d_Rd_readGap_73 (lv_at hl 0 rfl) ?_
                refine f_put Bx hP hD hS (by omega) h9_21 rfl inRd tyRd okRd nmRd 2 (by decide) kw_146 rfl rfl rfl rfl (Nat.le_of_ble_eq_true rfl) d_Rd_readGap_75 (fun H locs hP hS => ?_)
                obtain ⟨mem149, e_mem149⟩ : ∃ z, z = va_up mem9 (222) (.inr (4, [.ref (ad 1), .ref (ad 5), .int (nI li141), .int (ft20)])) := ⟨_, rfl⟩
                have hP : va_P D vcl (fw n ad mem149) H := by rw [e_mem149]; exact hP
                have hD : va_D (Az sz) (fw n ad mem149) := fw_D hD
                have h_mem149 : mem149 (222) = .inr (4, [.ref (ad 1), .ref (ad 5), .int (nI li141), .int (ft20)]) := by rw [e_mem149, va_up_self]
                have hh150 := (va_up_ne mem9 (.inr (4, [.ref (ad 1), .ref (ad 5), .int (nI li141), .int (ft20)])) (show (1 : Nat) ≠ 222 by first | decide | assumption | omega)).trans h1_22
                rw [← e_mem149] at hh150
                have hh151 := (va_up_ne mem9 (.inr (4, [.ref (ad 1), .ref (ad 5), .int (nI li141), .int (ft20)])) (show (5 : Nat) ≠ 222 by first | decide | assumption | omega)).trans h5_24
                rw [← e_mem149] at hh151
                have hh152 := (va_up_ne mem9 (.inr (4, [.ref (ad 1), .ref (ad 5), .int (nI li141), .int (ft20)])) (show (220 : Nat) ≠ 222 by first | decide | assumption | omega)).trans h220_28
                rw [← e_mem149] at hh152
                have hfr153 : ∀ i, i ≠ 222 → mem149 i = mem i := fun i q => (show mem149 i = mem9 i by rw [e_mem149]; exact va_up_ne _ _ (by omega)).trans (hz17 i q)
                have hRX154 : RX cy ad lim (li141) (R) (Ec) (to) (nm) m0 mem149 := by rw [e_mem149]; exact hz14.at
                refine lv_iconst (v := 0) Bx.1 Bx.2.1 d_Rd_readGap_78 (by decide) ?_
                refine lv_istore_n (lv' := [(2, .int (0)), (5, .int (nI li141)), (4, .int (hereF Z T (a1))), (3, .int (nI k)), (1, .int (nI a)), (0, .ref (ad 222))]) Bx.1 Bx.2.1 d_Rd_readGap_79 rfl hl (by decide) rfl (fun ls hl => ?_)
                refine lv_goto Bx.1 Bx.2.1 d_Rd_readGap_80 rfl ?_
                refine lv_aload_n Bx.1 Bx.2.1 d_Rd_readGap_109 rfl (lv_at hl 5 rfl) ?_
                refine lv_dup Bx.1 Bx.2.1 d_Rd_readGap_110 rfl ?_
                refine f_get Bx hP (by omega) h_mem149 rfl inRd 2 (by decide) kw_146 rfl rfl d_Rd_readGap_111 ?_
                refine lv_iconst (v := 1) Bx.1 Bx.2.1 d_Rd_readGap_114 (by decide) ?_
                refine lv_iadd Bx.1 Bx.2.1 d_Rd_readGap_115 ?_
                rw [show nI li141 + 1 = nI (li141 + 1) from nI_add (li141) (1)]
                refine f_put Bx hP hD hS (by omega) h_mem149 rfl inRd tyRd okRd nmRd 2 (by decide) kw_146 rfl rfl rfl rfl (Nat.le_of_ble_eq_true rfl) d_Rd_readGap_116 (fun H locs hP hS => ?_)
                obtain ⟨mem155, e_mem155⟩ : ∃ z, z = va_up mem149 (222) (.inr (4, [.ref (ad 1), .ref (ad 5), .int (nI (li141 + 1)), .int (ft20)])) := ⟨_, rfl⟩
                have hP : va_P D vcl (fw n ad mem155) H := by rw [e_mem155]; exact hP
                have hD : va_D (Az sz) (fw n ad mem155) := fw_D hD
                have h_mem155 : mem155 (222) = .inr (4, [.ref (ad 1), .ref (ad 5), .int (nI (li141 + 1)), .int (ft20)]) := by rw [e_mem155, va_up_self]
                have hh156 := (va_up_ne mem149 (.inr (4, [.ref (ad 1), .ref (ad 5), .int (nI (li141 + 1)), .int (ft20)])) (show (1 : Nat) ≠ 222 by first | decide | assumption | omega)).trans hh150
                rw [← e_mem155] at hh156
                have hh157 := (va_up_ne mem149 (.inr (4, [.ref (ad 1), .ref (ad 5), .int (nI (li141 + 1)), .int (ft20)])) (show (5 : Nat) ≠ 222 by first | decide | assumption | omega)).trans hh151
                rw [← e_mem155] at hh157
                have hh158 := (va_up_ne mem149 (.inr (4, [.ref (ad 1), .ref (ad 5), .int (nI (li141 + 1)), .int (ft20)])) (show (220 : Nat) ≠ 222 by first | decide | assumption | omega)).trans hh152
                rw [← e_mem155] at hh158
                have hfr159 : ∀ i, i ≠ 222 → mem155 i = mem i := fun i q => (show mem155 i = mem149 i by rw [e_mem155]; exact va_up_ne _ _ (by omega)).trans (hfr153 i q)
                have hRX160 : RX cy ad lim (li141 + 1) (R) (Ec) (to) (nm) m0 mem155 := by rw [e_mem155]; exact hRX154.at
                refine lv_iinc (lv' := [(3, .int ((nI k + (1)))), (2, .int (0)), (5, .int (nI li141)), (4, .int (hereF Z T (a1))), (1, .int (nI a)), (0, .ref (ad 222))]) Bx.1 Bx.2.1 d_Rd_readGap_119 hl (k := 3) rfl rfl (by decide) rfl (fun ls hl => ?_)
                rw [show (nI k + (1) : Int32) = nI (k + 1) from nI_1 (k)] at hl
                refine lv_goto Bx.1 Bx.2.1 d_Rd_readGap_122 rfl ?_
                exact ih18 mem155 (li141 + 1) (k + 1) (false) _ _ _ (by have := hmeas19; omega) (hRX160) (⟨by omega, by omega, by omega, by omega⟩) (by show gapF T Z _ = _; rw [← hz16r, gapC_lf (by omega) h10, hgy]) (hfr159) hP hD hS (lv_sub hl [0, 1, 4, 5] rfl)
              · refine lv_goto Bx.1 Bx.2.1 d_Rd_readGap_69 rfl ?_
                have hga : gapF T Z a = a1 := by rw [← hz16r]; exact (gapC_lf (by omega) h10).trans (gapF_lfn (by omega) h10 (by rw [← ea142]; exact hb147))
                refine lv_aload_n Bx.1 Bx.2.1 d_Rd_readGap_125 rfl (lv_at hl 5 rfl) ?_
                refine f_get Bx hP (by omega) h9_21 rfl inRd 2 (by decide) kw_146 rfl rfl d_Rd_readGap_126 ?_
                refine lv_iload_n Bx.1 Bx.2.1 d_Rd_readGap_129 rfl (lv_at hl 4 rfl) ?_
                refine lv_icmp_le Bx.1 Bx.2.1 d_Rd_readGap_130 rfl (fun hb161 => ?_) (fun hb161 => ?_)
                · have hN162 : a1 ≤ a := (nI_leI (by omega) (by omega)).mp (show nI (a1) ≤ nI (a) from hb161)
                  refine lv_iconst (v := 0) Bx.1 Bx.2.1 d_Rd_readGap_137 (by decide) ?_
                  exact W.zret (v := 0) hx hb hr rfl (fun t ht hW => ⟨⟨0, mem9, rfl, ⟨by rw [hga]; exact hz14, Or.inr ⟨rfl, by omega⟩, hz17⟩, by show va_P _ _ _ t.heap; rw [ht]; exact hP⟩, hS.F ht⟩) hS.2.2 d_Rd_readGap_138
                · have hN163 : ¬ a1 ≤ a := fun q9 => hb161 (show nI (a1) ≤ nI (a) from (nI_leI (by omega) (by omega)).mpr q9)
                  refine lv_iconst (v := 1) Bx.1 Bx.2.1 d_Rd_readGap_133 (by decide) ?_
                  refine lv_goto Bx.1 Bx.2.1 d_Rd_readGap_134 rfl ?_
                  exact W.zret (v := 1) hx hb hr rfl (fun t ht hW => ⟨⟨1, mem9, rfl, ⟨by rw [hga]; exact hz14, Or.inl ⟨rfl, by omega⟩, hz17⟩, by show va_P _ _ _ t.heap; rw [ht]; exact hP⟩, hS.F ht⟩) hS.2.2 d_Rd_readGap_138
  exact loop12 _ mem (a) (0) (false) _ _ _ (Nat.lt_succ_self _) (hRX) (⟨by omega, by omega, by omega, by omega⟩) (rfl) (hfr0) hP hD hS (lv_sub hl [0, 1, 2, 3] rfl)
set_option maxHeartbeats 4000000 in
set_option maxRecDepth 100000 in
theorem m_Rd_readNameY (l : Launch) {D : va_G} {cy : Nat → ClassId} {sz n : Nat} {ad : Nat → Nat} {mem : Nat → va_E} {Z a R Ec lim : Nat} {f T : Nat → Int32} {to : Nat → Int32} {nm : Nat → Int64} {m0 : Nat → va_E} {A : Ro} (hlt : l.stackTraces = false) (hn : 224 ≤ n) (hT : TX cy ad Z f m0) (hf : ∀ k, k < Z → f k = T k) (hRX : RX cy ad lim a R Ec to nm m0 mem) (haB : a ≤ 300) (haZ : a ≤ Z) : NXr l D cy sz n ad y_Rd_readName c_Rd_readName 5 (some (.object "AbnfChart$Rule")) ({ frames := 8, cells := 1, slots := 6, locals := 160 } : Room) mem [.ref (ad 222)] (fun r mem' => ∃ i a' R' A' nm', nameS T Z a R A nm = some (i, a', R', A', nm') ∧ r = ad (7 + i) ∧ i < R' ∧ R ≤ R' ∧ a < a' ∧ a' ≤ Z ∧ (∀ j, j ≠ 227 → A' j = A j) ∧ TOK R R' (A 227) (A' 227) ∧ (∃ to', TOK R R' to to' ∧ RX cy ad lim a' R' Ec to' nm' m0 mem') ∧ ¬ ltF (hereF Z T a) = 0 ∧ ∀ i, 7 ≤ i ∧ i < 222 ∧ (i < 7 + R ∨ 19 ≤ i) → mem' i = mem i) (fun X mem' => ((X = cIA ∨ X = cIS) ∧ ∃ rc' ec' : Nat, RS cy ad lim rc' ec' m0 mem') ∧ (ltF (hereF Z T a) = 0 ∨ nameS T Z a R A nm = none)) := by
  refine vx_ofW (cc := c_Rd_readName) (maxL := 5) (ret := (some (.object "AbnfChart$Rule"))) (by decide) rfl ?_
  intro p e s m args below meth c s₁ B hml hno hv
  obtain ⟨rfl, E, hP, hD⟩ := hv
  have hx := B.exec
  have hb := B.bytes
  have hr := B.returns
  have hlocks := B.notSynchronized
  have Bx : MB p s m [.ref (ad 222)].toArray c c_Rd_readName "AbnfChart$Reader" D cy := ⟨hx, hb, tb_all (atoms_spec B.pre) E.2.1, findClass_of_methodNamed B.named, E.1⟩
  have hS : va_S (Az sz) s.heap s.heap [] := va_S.rf
  have hl := lv_entry ([.ref (ad 222)]) (n := 5) (Nat.le_of_ble_eq_true rfl)
  rw [lg_entry_eq]
  generalize (lg_sl ([.ref (ad 222)]) ++ List.replicate (5 - (lg_sl ([.ref (ad 222)])).length) Slot.unset).toArray = ls at hl ⊢
  have hl : lv_has ls 5 [(0, .ref (ad 222))] := hl
  have hZ9 := hT.2.1
  have hbd9 := hRX.1.1.1
  have hfr0 : ∀ i, 7 ≤ i ∧ i < 222 ∧ (i < 7 + R ∨ 19 ≤ i) → mem i = mem i := fun _ _ => rfl
  obtain ⟨ft1, h9_2⟩ := hRX.2.1
  have h1_3 : mem 1 = .inr (0, [.ref (ad 2), .int (nI Z)]) := (hRX.1.2.2 1 (by omega)).trans hT.1
  have h2_4 : mem 2 = .inl (cy 0, 240, .inl f) := (hRX.1.2.2 2 (by omega)).trans hT.2.2
  have h5_5 := hRX.1.1.2.1
  have hbd11 := hRX.1.1.1
  obtain ⟨S6, g7, hS_8, h220_9, h221_10⟩ := hRX.1.1.2.2.2.2.2.2
  refine lv_aload_n Bx.1 Bx.2.1 d_Rd_readName_0 rfl (lv_at hl 0 rfl) ?_
  refine f_get Bx hP (by omega) h9_2 rfl inRd 2 (by decide) kw_146 rfl rfl d_Rd_readName_1 ?_
  refine lv_istore_n (lv' := [(1, .int (nI a)), (0, .ref (ad 222))]) Bx.1 Bx.2.1 d_Rd_readName_4 rfl hl (by decide) rfl (fun ls hl => ?_)
  refine lv_lconst (v := 0) Bx.1 Bx.2.1 d_Rd_readName_5 (by decide) ?_
  refine lv_lstore_n (lv' := [(2, .long (0)), (1, .int (nI a)), (0, .ref (ad 222))]) Bx.1 Bx.2.1 d_Rd_readName_6 rfl hl (by decide) rfl (fun ls hl => ?_)
  refine lv_aload_n Bx.1 Bx.2.1 d_Rd_readName_7 rfl (lv_at hl 2 rfl) ?_
  refine lv_aload_n Bx.1 Bx.2.1 d_Rd_readName_8 rfl (lv_at hl 2 rfl) ?_
  refine f_callVi (na := 0) (As := []) (rest := [.ref (ad 222)]) Bx hml E hP hD hS (by omega) h9_2 rfl (m_Rd_peekX l hn hT hf hRX (by omega)) kw_353 kw_355 sel_Rd_peek kw_6 kw_356 (by decide +kernel) ⟨rfl, rfl⟩ ⟨Nat.le_of_ble_eq_true rfl, Nat.le_of_ble_eq_true rfl⟩ rfl hl.1 (Nat.le_of_ble_eq_true rfl) d_Rd_readName_9 ⟨Nat.le_of_ble_eq_true rfl, Nat.le_of_ble_eq_true rfl⟩ (fun r13 mem14 H locs hq hP hS => ?_)
  have hD : va_D (Az sz) (fw n ad mem14) := fw_D hD
  obtain ⟨hqe, hpk12⟩ := hq
  rw [hqe] at hP hD
  subst hpk12
  refine f_callSNi (na := 1) (As := [.int (hereF Z T (a))]) (rest := [.ref (ad 222)]) Bx hml E.2.1 (m_Ab_isLetterX l (hereF Z T (a))) kw_357 kw_358 kw_1 kw_359 (by decide +kernel) ⟨rfl, rfl⟩ ⟨Nat.le_of_ble_eq_true rfl, Nat.le_of_ble_eq_true rfl⟩ rfl hl.1 (Nat.le_of_ble_eq_true rfl) d_Rd_readName_12 ⟨Nat.le_of_ble_eq_true rfl, Nat.le_of_ble_eq_true rfl⟩ (fun r17 hs16 => ?_)
  subst hs16
  refine lv_aload_n Bx.1 Bx.2.1 d_Rd_readName_15 rfl (lv_at hl 2 rfl) ?_
  refine f_get Bx hP (by omega) h9_2 rfl inRd 2 (by decide) kw_146 rfl rfl d_Rd_readName_16 ?_
  refine f_xVv (na := 2) (As := [.int (ltF (hereF Z T (a))), .int (nI a)]) (rest := []) Bx hml E hP hD hS (by omega) h9_2 rfl (m_Rd_needReadableX l hlt hn hT hf hRX (by omega)) kw_360 kw_362 sel_Rd_needReadable kw_6 kw_363 (by decide +kernel) ⟨rfl, rfl⟩ ⟨Nat.le_of_ble_eq_true rfl, Nat.le_of_ble_eq_true rfl⟩ rfl hl.1 (Nat.le_of_ble_eq_true rfl) d_Rd_readName_19 ⟨Nat.le_of_ble_eq_true rfl, Nat.le_of_ble_eq_true rfl⟩ (fun X ce q9 memx H locs hx9 hP hS g1 g2 g3 => f_out hlocks hno hP hS g1 g2 g3 ⟨Nat.le_of_ble_eq_true rfl, Nat.le_of_ble_eq_true rfl⟩ ⟨hx9.1, Or.inl hx9.2⟩) (fun mem19 H locs hq hP hS => ?_)
  have hD : va_D (Az sz) (fw n ad mem19) := fw_D hD
  obtain ⟨hqe, hg20⟩ := hq
  rw [hqe] at hP hD
  refine lv_iconst (v := 0) Bx.1 Bx.2.1 d_Rd_readName_22 (by decide) ?_
  refine lv_istore (lv' := [(4, .int (0)), (2, .long (0)), (1, .int (nI a)), (0, .ref (ad 222))]) Bx.1 Bx.2.1 d_Rd_readName_23 hl (by decide) rfl (fun ls hl => ?_)
  have hlet := hg20
  have loop21 : ∀ (d22 : Nat) (mem9 : Nat → va_E) (a1 : Nat) (k : Nat) (v : Int64) (ls : Array Slot) (H : Heap) (locs : List Loc), (6 - k < d22) → (RX cy ad lim a1 R Ec to nm m0 mem9) → (a1 = a + k ∧ a1 ≤ Z ∧ k ≤ 6) → (nmF T Z (6 - k) k a1 v = nmF T Z 6 0 a 0) → (∀ i, 7 ≤ i ∧ i < 222 ∧ (i < 7 + R ∨ 19 ≤ i) → mem9 i = mem i) → (va_P D vcl (fw n ad mem9) H) → (va_D (Az sz) (fw n ad mem9)) → (va_S (Az sz) s.heap H locs) → (lv_has ls 5 [(4, .int (nI k)), (2, .long (v)), (1, .int (nI a)), (0, .ref (ad 222))]) → W p l e (headSpec (Cond.code y_Rd_readName c_Rd_readName 5 (some (.object "AbnfChart$Rule")) :: tg) ({ frames := 8, cells := 1, slots := 6, locals := 160 } : Room)).room s m [.ref (ad 222)].toArray below meth c H locs 0 0 (vx_MQ below (QX (QR (fun r mem' => ∃ i a' R' A' nm', nameS T Z a R A nm = some (i, a', R', A', nm') ∧ r = ad (7 + i) ∧ i < R' ∧ R ≤ R' ∧ a < a' ∧ a' ≤ Z ∧ (∀ j, j ≠ 227 → A' j = A j) ∧ TOK R R' (A 227) (A' 227) ∧ (∃ to', TOK R R' to to' ∧ RX cy ad lim a' R' Ec to' nm' m0 mem') ∧ ¬ ltF (hereF Z T a) = 0 ∧ ∀ i, 7 ≤ i ∧ i < 222 ∧ (i < 7 + R ∨ 19 ≤ i) → mem' i = mem i) (PP D n ad) (Az sz))) (XQ D sz n ad (fun X mem' => ((X = cIA ∨ X = cIS) ∧ ∃ rc' ec' : Nat, RS cy ad lim rc' ec' m0 mem') ∧ (ltF (hereF Z T a) = 0 ∨ nameS T Z a R A nm = none))) [.ref (ad 222)].toArray s 1 6 (Az sz)) (F0 m 25 ls []) := by
    intro d22
    induction d22 with
    | zero => intro mem9 a1 k v ls H locs hmeas28; exact absurd hmeas28 (Nat.not_lt_zero _)
    | succ d22 ih27 =>
      intro mem9 a1 k v ls H locs hmeas28 hz23 hz24 hz25 hz26 hP hD hS hl
      obtain ⟨ft29, h9_30⟩ := hz23.2.1
      have h1_31 : mem9 1 = .inr (0, [.ref (ad 2), .int (nI Z)]) := (hz23.1.2.2 1 (by omega)).trans hT.1
      have h2_32 : mem9 2 = .inl (cy 0, 240, .inl f) := (hz23.1.2.2 2 (by omega)).trans hT.2.2
      have h5_33 := hz23.1.1.2.1
      have hbd39 := hz23.1.1.1
      obtain ⟨S34, g35, hS_36, h220_37, h221_38⟩ := hz23.1.1.2.2.2.2.2.2
      have hbd8 := hz24
      refine lv_iload Bx.1 Bx.2.1 d_Rd_readName_25 (lv_at hl 0 rfl) ?_
      refine lv_bipush (v := 6) Bx.1 Bx.2.1 d_Rd_readName_27 (by decide) ?_
      refine lv_icmp_ge Bx.1 Bx.2.1 d_Rd_readName_29 rfl (fun hb40 => ?_) (fun hb40 => ?_)
      · have hN41 : 6 ≤ k := (nI_leI (by omega) (by omega)).mp (show nI (6) ≤ nI (k) from hb40)
        have hk1 : 1 ≤ k := by first | omega | exact Nat.pos_of_ne_zero (fun q9 => by subst q9; obtain rfl : a1 = a := (by omega); exact trivial)
        have hnm : nmF T Z 6 0 a 0 = (v, a1) := by
          rw [← hz25, show 6 - k = 0 by omega]
          rfl
        have hn2 : (nmF T Z 6 0 a 0).2 = a1 := by rw [hnm]
        have hnv : (nmF T Z 6 0 a 0).1 = v := by rw [hnm]
        refine lv_aload_n Bx.1 Bx.2.1 d_Rd_readName_75 rfl (lv_at hl 3 rfl) ?_
        refine f_get Bx hP (by omega) h9_30 rfl inRd 1 (by decide) kw_145 rfl rfl d_Rd_readName_76 ?_
        refine lv_lload_n Bx.1 Bx.2.1 d_Rd_readName_79 rfl (lv_at hl 1 rfl) ?_
        refine f_callVi (na := 1) (As := [.long (v)]) (rest := []) Bx hml E hP hD hS (by omega) h5_33 rfl (m_Gr_findX l hn hT hf hz23 (by omega)) kw_375 kw_376 kw_377 kw_3 kw_378 (by decide +kernel) ⟨rfl, rfl⟩ ⟨Nat.le_of_ble_eq_true rfl, Nat.le_of_ble_eq_true rfl⟩ rfl hl.1 (Nat.le_of_ble_eq_true rfl) d_Rd_readName_80 ⟨Nat.le_of_ble_eq_true rfl, Nat.le_of_ble_eq_true rfl⟩ (fun r42 mem43 H locs hq hP hS => ?_)
        have hD : va_D (Az sz) (fw n ad mem43) := fw_D hD
        obtain ⟨hqe, hfi⟩ := hq
        rw [hqe] at hP hD
        rcases hfi with ⟨hfn, hre⟩ | ⟨i, hfs, hi, hre⟩
        · subst hre
          refine lv_istore (lv' := [(4, .int ((-1))), (2, .long (v)), (1, .int (nI a)), (0, .ref (ad 222))]) Bx.1 Bx.2.1 d_Rd_readName_83 hl (by decide) rfl (fun ls hl => ?_)
          refine lv_iload Bx.1 Bx.2.1 d_Rd_readName_85 (lv_at hl 0 rfl) ?_
          refine lv_iconst (v := -1) Bx.1 Bx.2.1 d_Rd_readName_87 (by decide) ?_
          refine lv_icmp_eq Bx.1 Bx.2.1 d_Rd_readName_88 rfl (fun hb45 => ?_) (fun hb45 => ?_)
          · refine lv_aload_n Bx.1 Bx.2.1 d_Rd_readName_102 rfl (lv_at hl 3 rfl) ?_
            refine lv_aload_n Bx.1 Bx.2.1 d_Rd_readName_103 rfl (lv_at hl 3 rfl) ?_
            refine f_get Bx hP (by omega) h9_30 rfl inRd 1 (by decide) kw_145 rfl rfl d_Rd_readName_104 ?_
            refine f_callVi (na := 0) (As := []) (rest := [.ref (ad 222)]) Bx hml E hP hD hS (by omega) h5_33 rfl (m_Gr_hasRoomForRuleX l hn hT hf hz23 (by omega)) kw_379 kw_380 kw_381 kw_3 kw_382 (by decide +kernel) ⟨rfl, rfl⟩ ⟨Nat.le_of_ble_eq_true rfl, Nat.le_of_ble_eq_true rfl⟩ rfl hl.1 (Nat.le_of_ble_eq_true rfl) d_Rd_readName_107 ⟨Nat.le_of_ble_eq_true rfl, Nat.le_of_ble_eq_true rfl⟩ (fun r46 mem47 H locs hq hP hS => ?_)
            have hD : va_D (Az sz) (fw n ad mem47) := fw_D hD
            obtain ⟨hqe, hro⟩ := hq
            rw [hqe] at hP hD
            rcases hro with ⟨hr0, hE⟩ | ⟨hr0, hE⟩
            · subst hr0
              refine lv_iload_n Bx.1 Bx.2.1 d_Rd_readName_110 rfl (lv_at hl 2 rfl) ?_
              refine f_xVv (na := 2) (As := [.int (0), .int (nI a)]) (rest := []) Bx hml E hP hD hS (by omega) h9_30 rfl (m_Rd_needRoomX l hlt hn hT hf hz23 (by omega)) kw_383 kw_385 sel_Rd_needRoom kw_6 kw_386 (by decide +kernel) ⟨rfl, rfl⟩ ⟨Nat.le_of_ble_eq_true rfl, Nat.le_of_ble_eq_true rfl⟩ rfl hl.1 (Nat.le_of_ble_eq_true rfl) d_Rd_readName_111 ⟨Nat.le_of_ble_eq_true rfl, Nat.le_of_ble_eq_true rfl⟩ (fun X ce q9 memx H locs hx9 hP hS g1 g2 g3 => f_out hlocks hno hP hS g1 g2 g3 ⟨Nat.le_of_ble_eq_true rfl, Nat.le_of_ble_eq_true rfl⟩ ⟨hx9.1, Or.inr (by unfold nameS; rw [hnv, hfn]; simp only []; rw [if_pos hE])⟩) (fun mem50 H locs hq hP hS => ?_)
              have hD : va_D (Az sz) (fw n ad mem50) := fw_D hD
              obtain ⟨hqe, hg51⟩ := hq
              rw [hqe] at hP hD
              exact absurd rfl hg51
            · subst hr0
              refine lv_iload_n Bx.1 Bx.2.1 d_Rd_readName_110 rfl (lv_at hl 2 rfl) ?_
              refine f_xVv (na := 2) (As := [.int (1), .int (nI a)]) (rest := []) Bx hml E hP hD hS (by omega) h9_30 rfl (m_Rd_needRoomX l hlt hn hT hf hz23 (by omega)) kw_383 kw_385 sel_Rd_needRoom kw_6 kw_386 (by decide +kernel) ⟨rfl, rfl⟩ ⟨Nat.le_of_ble_eq_true rfl, Nat.le_of_ble_eq_true rfl⟩ rfl hl.1 (Nat.le_of_ble_eq_true rfl) d_Rd_readName_111 ⟨Nat.le_of_ble_eq_true rfl, Nat.le_of_ble_eq_true rfl⟩ (fun X ce q9 memx H locs hx9 hP hS g1 g2 g3 => f_out hlocks hno hP hS g1 g2 g3 ⟨Nat.le_of_ble_eq_true rfl, Nat.le_of_ble_eq_true rfl⟩ ⟨hx9.1, absurd hx9.2 (by decide)⟩) (fun mem53 H locs hq hP hS => ?_)
              have hD : va_D (Az sz) (fw n ad mem53) := fw_D hD
              obtain ⟨hqe, hg54⟩ := hq
              rw [hqe] at hP hD
              refine lv_aload_n Bx.1 Bx.2.1 d_Rd_readName_114 rfl (lv_at hl 3 rfl) ?_
              refine f_get Bx hP (by omega) h9_30 rfl inRd 1 (by decide) kw_145 rfl rfl d_Rd_readName_115 ?_
              refine lv_lload_n Bx.1 Bx.2.1 d_Rd_readName_118 rfl (lv_at hl 1 rfl) ?_
              refine f_callVr (na := 1) (As := [.long (v)]) (rest := []) Bx hml E hP hD hS (by omega) h5_33 rfl (m_Gr_addRuleX l hn hT hz23.1 hE) kw_389 kw_390 kw_391 kw_3 kw_392 (by decide +kernel) ⟨rfl, rfl⟩ ⟨Nat.le_of_ble_eq_true rfl, Nat.le_of_ble_eq_true rfl⟩ rfl hl.1 (Nat.le_of_ble_eq_true rfl) d_Rd_readName_119 ⟨Nat.le_of_ble_eq_true rfl, Nat.le_of_ble_eq_true rfl⟩ (fun r55 mem56 H locs hq3 hP hS => ?_)
              have hD : va_D (Az sz) (fw n ad mem56) := fw_D hD
              exact x_aret hx hb hlocks hr (⟨R, a1, R + 1, va_up A 227 (upd (A 227) R (-1)), vp_updL nm R v, by unfold nameS; rw [hnv, hfn, hn2]; simp only []; rw [if_neg (by omega)], hq3.1, by omega, by omega, by omega, by omega, fun j hj => va_up_ne _ _ hj, by rw [va_up_self]; exact TOK.ru, ⟨_, TOK.ru, hz23.ru hq3.2.1 hq3.2.2.1 hq3.2.2.2⟩, hlet, fun i q => (hq3.2.2.2 i (by omega) (by omega)).trans (hz26 i q)⟩) hP hS d_Rd_readName_122
          · exact absurd hb45 (by decide)
        · subst hre
          refine lv_istore (lv' := [(4, .int (nI i)), (2, .long (v)), (1, .int (nI a)), (0, .ref (ad 222))]) Bx.1 Bx.2.1 d_Rd_readName_83 hl (by decide) rfl (fun ls hl => ?_)
          refine lv_iload Bx.1 Bx.2.1 d_Rd_readName_85 (lv_at hl 0 rfl) ?_
          refine lv_iconst (v := -1) Bx.1 Bx.2.1 d_Rd_readName_87 (by decide) ?_
          refine lv_icmp_eq Bx.1 Bx.2.1 d_Rd_readName_88 rfl (fun hb57 => ?_) (fun hb57 => ?_)
          · exact absurd hb57 (nI_m (by omega))
          · refine lv_aload_n Bx.1 Bx.2.1 d_Rd_readName_91 rfl (lv_at hl 3 rfl) ?_
            refine f_get Bx hP (by omega) h9_30 rfl inRd 1 (by decide) kw_145 rfl rfl d_Rd_readName_92 ?_
            refine f_getN Bx hP (by omega) h5_33 rfl inGr 0 (by decide) kw_115 rfl rfl d_Rd_readName_95 ?_
            refine lv_iload Bx.1 Bx.2.1 d_Rd_readName_98 (lv_at hl 0 rfl) ?_
            refine f_aald (t0 := 5) Bx hP (by omega) hz23.1.1.2.2.1 rfl i rfl (by omega) (by decide) (q := ad (7 + i)) (by unfold rfA; rw [if_pos (by omega), Nat.one_mul]) d_Rd_readName_100 ?_
            exact x_aret hx hb hlocks hr (⟨i, a1, R, A, nm, by unfold nameS; rw [hnv, hfs, hn2], rfl, hi, Nat.le_refl _, by omega, by omega, fun _ _ => rfl, TOK.of rfl, ⟨to, TOK.of rfl, hz23⟩, hlet, hz26⟩) hP hS d_Rd_readName_101
      · have hN58 : ¬ 6 ≤ k := fun q9 => hb40 (show nI (6) ≤ nI (k) from (nI_leI (by omega) (by omega)).mpr q9)
        refine lv_aload_n Bx.1 Bx.2.1 d_Rd_readName_32 rfl (lv_at hl 3 rfl) ?_
        refine f_callVi (na := 0) (As := []) (rest := []) Bx hml E hP hD hS (by omega) h9_30 rfl (m_Rd_peekX l hn hT hf hz23 (by omega)) kw_353 kw_355 sel_Rd_peek kw_6 kw_356 (by decide +kernel) ⟨rfl, rfl⟩ ⟨Nat.le_of_ble_eq_true rfl, Nat.le_of_ble_eq_true rfl⟩ rfl hl.1 (Nat.le_of_ble_eq_true rfl) d_Rd_readName_33 ⟨Nat.le_of_ble_eq_true rfl, Nat.le_of_ble_eq_true rfl⟩ (fun r60 mem61 H locs hq hP hS => ?_)
        have hD : va_D (Az sz) (fw n ad mem61) := fw_D hD
        obtain ⟨hqe, hpk59⟩ := hq
        rw [hqe] at hP hD
        subst hpk59
        refine f_callSi (na := 1) (As := [.int (hereF Z T (a1))]) (rest := []) Bx hml E.2.1 (m_Rd_isNameCodeX l (hereF Z T (a1))) kw_366 kw_367 kw_6 kw_368 (by decide +kernel) ⟨rfl, rfl⟩ ⟨Nat.le_of_ble_eq_true rfl, Nat.le_of_ble_eq_true rfl⟩ rfl hl.1 (Nat.le_of_ble_eq_true rfl) d_Rd_readName_36 ⟨Nat.le_of_ble_eq_true rfl, Nat.le_of_ble_eq_true rfl⟩ (fun r64 hs63 => ?_)
        subst hs63
        refine lv_if_eq Bx.1 Bx.2.1 d_Rd_readName_39 rfl (fun hb65 => ?_) (fun hb65 => ?_)
        · have hk1 : 1 ≤ k := by first | omega | exact Nat.pos_of_ne_zero (fun q9 => by subst q9; obtain rfl : a1 = a := (by omega); exact nmC_0 hb65 (Or.inl hlet))
          have hnm : nmF T Z 6 0 a 0 = (v, a1) := by
            rw [← hz25]
            obtain ⟨r6, hr6⟩ : ∃ r6, 6 - k = r6 + 1 := ⟨5 - k, by omega⟩
            rw [hr6, nmF, if_neg (fun z => nmC_0 hb65 (z.elim Or.inl (fun y => y.2.elim (fun u => Or.inr (Or.inl u)) (fun u => Or.inr (Or.inr u)))))]
          have hn2 : (nmF T Z 6 0 a 0).2 = a1 := by rw [hnm]
          have hnv : (nmF T Z 6 0 a 0).1 = v := by rw [hnm]
          refine lv_aload_n Bx.1 Bx.2.1 d_Rd_readName_75 rfl (lv_at hl 3 rfl) ?_
          refine f_get Bx hP (by omega) h9_30 rfl inRd 1 (by decide) kw_145 rfl rfl d_Rd_readName_76 ?_
          refine lv_lload_n Bx.1 Bx.2.1 d_Rd_readName_79 rfl (lv_at hl 1 rfl) ?_
          refine f_callVi (na := 1) (As := [.long (v)]) (rest := []) Bx hml E hP hD hS (by omega) h5_33 rfl (m_Gr_findX l hn hT hf hz23 (by omega)) kw_375 kw_376 kw_377 kw_3 kw_378 (by decide +kernel) ⟨rfl, rfl⟩ ⟨Nat.le_of_ble_eq_true rfl, Nat.le_of_ble_eq_true rfl⟩ rfl hl.1 (Nat.le_of_ble_eq_true rfl) d_Rd_readName_80 ⟨Nat.le_of_ble_eq_true rfl, Nat.le_of_ble_eq_true rfl⟩ (fun r66 mem67 H locs hq hP hS => ?_)
          have hD : va_D (Az sz) (fw n ad mem67) := fw_D hD
          obtain ⟨hqe, hfi⟩ := hq
          rw [hqe] at hP hD
          rcases hfi with ⟨hfn, hre⟩ | ⟨i, hfs, hi, hre⟩
          · subst hre
            refine lv_istore (lv' := [(4, .int ((-1))), (2, .long (v)), (1, .int (nI a)), (0, .ref (ad 222))]) Bx.1 Bx.2.1 d_Rd_readName_83 hl (by decide) rfl (fun ls hl => ?_)
            refine lv_iload Bx.1 Bx.2.1 d_Rd_readName_85 (lv_at hl 0 rfl) ?_
            refine lv_iconst (v := -1) Bx.1 Bx.2.1 d_Rd_readName_87 (by decide) ?_
            refine lv_icmp_eq Bx.1 Bx.2.1 d_Rd_readName_88 rfl (fun hb69 => ?_) (fun hb69 => ?_)
            · refine lv_aload_n Bx.1 Bx.2.1 d_Rd_readName_102 rfl (lv_at hl 3 rfl) ?_
              refine lv_aload_n Bx.1 Bx.2.1 d_Rd_readName_103 rfl (lv_at hl 3 rfl) ?_
              refine f_get Bx hP (by omega) h9_30 rfl inRd 1 (by decide) kw_145 rfl rfl d_Rd_readName_104 ?_
              refine f_callVi (na := 0) (As := []) (rest := [.ref (ad 222)]) Bx hml E hP hD hS (by omega) h5_33 rfl (m_Gr_hasRoomForRuleX l hn hT hf hz23 (by omega)) kw_379 kw_380 kw_381 kw_3 kw_382 (by decide +kernel) ⟨rfl, rfl⟩ ⟨Nat.le_of_ble_eq_true rfl, Nat.le_of_ble_eq_true rfl⟩ rfl hl.1 (Nat.le_of_ble_eq_true rfl) d_Rd_readName_107 ⟨Nat.le_of_ble_eq_true rfl, Nat.le_of_ble_eq_true rfl⟩ (fun r70 mem71 H locs hq hP hS => ?_)
              have hD : va_D (Az sz) (fw n ad mem71) := fw_D hD
              obtain ⟨hqe, hro⟩ := hq
              rw [hqe] at hP hD
              rcases hro with ⟨hr0, hE⟩ | ⟨hr0, hE⟩
              · subst hr0
                refine lv_iload_n Bx.1 Bx.2.1 d_Rd_readName_110 rfl (lv_at hl 2 rfl) ?_
                refine f_xVv (na := 2) (As := [.int (0), .int (nI a)]) (rest := []) Bx hml E hP hD hS (by omega) h9_30 rfl (m_Rd_needRoomX l hlt hn hT hf hz23 (by omega)) kw_383 kw_385 sel_Rd_needRoom kw_6 kw_386 (by decide +kernel) ⟨rfl, rfl⟩ ⟨Nat.le_of_ble_eq_true rfl, Nat.le_of_ble_eq_true rfl⟩ rfl hl.1 (Nat.le_of_ble_eq_true rfl) d_Rd_readName_111 ⟨Nat.le_of_ble_eq_true rfl, Nat.le_of_ble_eq_true rfl⟩ (fun X ce q9 memx H locs hx9 hP hS g1 g2 g3 => f_out hlocks hno hP hS g1 g2 g3 ⟨Nat.le_of_ble_eq_true rfl, Nat.le_of_ble_eq_true rfl⟩ ⟨hx9.1, Or.inr (by unfold nameS; rw [hnv, hfn]; simp only []; rw [if_pos hE])⟩) (fun mem74 H locs hq hP hS => ?_)
                have hD : va_D (Az sz) (fw n ad mem74) := fw_D hD
                obtain ⟨hqe, hg75⟩ := hq
                rw [hqe] at hP hD
                exact absurd rfl hg75
              · subst hr0
                refine lv_iload_n Bx.1 Bx.2.1 d_Rd_readName_110 rfl (lv_at hl 2 rfl) ?_
                refine f_xVv (na := 2) (As := [.int (1), .int (nI a)]) (rest := []) Bx hml E hP hD hS (by omega) h9_30 rfl (m_Rd_needRoomX l hlt hn hT hf hz23 (by omega)) kw_383 kw_385 sel_Rd_needRoom kw_6 kw_386 (by decide +kernel) ⟨rfl, rfl⟩ ⟨Nat.le_of_ble_eq_true rfl, Nat.le_of_ble_eq_true rfl⟩ rfl hl.1 (Nat.le_of_ble_eq_true rfl) d_Rd_readName_111 ⟨Nat.le_of_ble_eq_true rfl, Nat.le_of_ble_eq_true rfl⟩ (fun X ce q9 memx H locs hx9 hP hS g1 g2 g3 => f_out hlocks hno hP hS g1 g2 g3 ⟨Nat.le_of_ble_eq_true rfl, Nat.le_of_ble_eq_true rfl⟩ ⟨hx9.1, absurd hx9.2 (by decide)⟩) (fun mem77 H locs hq hP hS => ?_)
                have hD : va_D (Az sz) (fw n ad mem77) := fw_D hD
                obtain ⟨hqe, hg78⟩ := hq
                rw [hqe] at hP hD
                refine lv_aload_n Bx.1 Bx.2.1 d_Rd_readName_114 rfl (lv_at hl 3 rfl) ?_
                refine f_get Bx hP (by omega) h9_30 rfl inRd 1 (by decide) kw_145 rfl rfl d_Rd_readName_115 ?_
                refine lv_lload_n Bx.1 Bx.2.1 d_Rd_readName_118 rfl (lv_at hl 1 rfl) ?_
                refine f_callVr (na := 1) (As := [.long (v)]) (rest := []) Bx hml E hP hD hS (by omega) h5_33 rfl (m_Gr_addRuleX l hn hT hz23.1 hE) kw_389 kw_390 kw_391 kw_3 kw_392 (by decide +kernel) ⟨rfl, rfl⟩ ⟨Nat.le_of_ble_eq_true rfl, Nat.le_of_ble_eq_true rfl⟩ rfl hl.1 (Nat.le_of_ble_eq_true rfl) d_Rd_readName_119 ⟨Nat.le_of_ble_eq_true rfl, Nat.le_of_ble_eq_true rfl⟩ (fun r79 mem80 H locs hq3 hP hS => ?_)
                have hD : va_D (Az sz) (fw n ad mem80) := fw_D hD
                exact x_aret hx hb hlocks hr (⟨R, a1, R + 1, va_up A 227 (upd (A 227) R (-1)), vp_updL nm R v, by unfold nameS; rw [hnv, hfn, hn2]; simp only []; rw [if_neg (by omega)], hq3.1, by omega, by omega, by omega, by omega, fun j hj => va_up_ne _ _ hj, by rw [va_up_self]; exact TOK.ru, ⟨_, TOK.ru, hz23.ru hq3.2.1 hq3.2.2.1 hq3.2.2.2⟩, hlet, fun i q => (hq3.2.2.2 i (by omega) (by omega)).trans (hz26 i q)⟩) hP hS d_Rd_readName_122
            · exact absurd hb69 (by decide)
          · subst hre
            refine lv_istore (lv' := [(4, .int (nI i)), (2, .long (v)), (1, .int (nI a)), (0, .ref (ad 222))]) Bx.1 Bx.2.1 d_Rd_readName_83 hl (by decide) rfl (fun ls hl => ?_)
            refine lv_iload Bx.1 Bx.2.1 d_Rd_readName_85 (lv_at hl 0 rfl) ?_
            refine lv_iconst (v := -1) Bx.1 Bx.2.1 d_Rd_readName_87 (by decide) ?_
            refine lv_icmp_eq Bx.1 Bx.2.1 d_Rd_readName_88 rfl (fun hb81 => ?_) (fun hb81 => ?_)
            · exact absurd hb81 (nI_m (by omega))
            · refine lv_aload_n Bx.1 Bx.2.1 d_Rd_readName_91 rfl (lv_at hl 3 rfl) ?_
              refine f_get Bx hP (by omega) h9_30 rfl inRd 1 (by decide) kw_145 rfl rfl d_Rd_readName_92 ?_
              refine f_getN Bx hP (by omega) h5_33 rfl inGr 0 (by decide) kw_115 rfl rfl d_Rd_readName_95 ?_
              refine lv_iload Bx.1 Bx.2.1 d_Rd_readName_98 (lv_at hl 0 rfl) ?_
              refine f_aald (t0 := 5) Bx hP (by omega) hz23.1.1.2.2.1 rfl i rfl (by omega) (by decide) (q := ad (7 + i)) (by unfold rfA; rw [if_pos (by omega), Nat.one_mul]) d_Rd_readName_100 ?_
              exact x_aret hx hb hlocks hr (⟨i, a1, R, A, nm, by unfold nameS; rw [hnv, hfs, hn2], rfl, hi, Nat.le_refl _, by omega, by omega, fun _ _ => rfl, TOK.of rfl, ⟨to, TOK.of rfl, hz23⟩, hlet, hz26⟩) hP hS d_Rd_readName_101
        · have hlt9 : a1 < Z := hereF_lt (nmC_ne hb65)
          refine lv_lload_n Bx.1 Bx.2.1 d_Rd_readName_42 rfl (lv_at hl 1 rfl) ?_
          refine lv_aload_n Bx.1 Bx.2.1 d_Rd_readName_43 rfl (lv_at hl 3 rfl) ?_
          refine f_callVi (na := 0) (As := []) (rest := [.long (v)]) Bx hml E hP hD hS (by omega) h9_30 rfl (m_Rd_peekX l hn hT hf hz23 (by omega)) kw_353 kw_355 sel_Rd_peek kw_6 kw_356 (by decide +kernel) ⟨rfl, rfl⟩ ⟨Nat.le_of_ble_eq_true rfl, Nat.le_of_ble_eq_true rfl⟩ rfl hl.1 (Nat.le_of_ble_eq_true rfl) d_Rd_readName_44 ⟨Nat.le_of_ble_eq_true rfl, Nat.le_of_ble_eq_true rfl⟩ (fun r83 mem84 H locs hq hP hS => ?_)
          have hD : va_D (Az sz) (fw n ad mem84) := fw_D hD
          obtain ⟨hqe, hpk82⟩ := hq
          rw [hqe] at hP hD
          subst hpk82
          refine f_callSNi (na := 1) (As := [.int (hereF Z T (a1))]) (rest := [.long (v)]) Bx hml E.2.1 (m_Ab_smallOfX l (hereF Z T (a1))) kw_372 kw_373 kw_1 kw_374 (by decide +kernel) ⟨rfl, rfl⟩ ⟨Nat.le_of_ble_eq_true rfl, Nat.le_of_ble_eq_true rfl⟩ rfl hl.1 (Nat.le_of_ble_eq_true rfl) d_Rd_readName_47 ⟨Nat.le_of_ble_eq_true rfl, Nat.le_of_ble_eq_true rfl⟩ (fun r87 hs86 => ?_)
          subst hs86
          refine lv_i2l Bx.1 Bx.2.1 d_Rd_readName_50 rfl ?_
          refine lv_bipush (v := 8) Bx.1 Bx.2.1 d_Rd_readName_51 (by decide) ?_
          refine lv_iload Bx.1 Bx.2.1 d_Rd_readName_53 (lv_at hl 0 rfl) ?_
          refine lv_imul Bx.1 Bx.2.1 d_Rd_readName_55 ?_
          rw [show 8 * nI k = nI (8 * k) from nI_mulR (8) (k)]
          refine lv_lshl Bx.1 Bx.2.1 d_Rd_readName_56 rfl ?_
          refine lv_lor Bx.1 Bx.2.1 d_Rd_readName_57 ?_
          refine lv_lstore_n (lv' := [(2, .long (v ||| ((smF (hereF Z T (a1))).toInt64) <<< ((nI (8 * k) : Int32).toInt64 &&& 63))), (4, .int (nI k)), (1, .int (nI a)), (0, .ref (ad 222))]) Bx.1 Bx.2.1 d_Rd_readName_58 rfl hl (by decide) rfl (fun ls hl => ?_)
          refine lv_aload_n Bx.1 Bx.2.1 d_Rd_readName_59 rfl (lv_at hl 3 rfl) ?_
          refine lv_dup Bx.1 Bx.2.1 d_Rd_readName_60 rfl ?_
          refine f_get Bx hP (by omega) h9_30 rfl inRd 2 (by decide) kw_146 rfl rfl d_Rd_readName_61 ?_
          refine lv_iconst (v := 1) Bx.1 Bx.2.1 d_Rd_readName_64 (by decide) ?_
          refine lv_iadd Bx.1 Bx.2.1 d_Rd_readName_65 ?_
          rw [show nI a1 + 1 = nI (a1 + 1) from nI_add (a1) (1)]
          refine f_put Bx hP hD hS (by omega) h9_30 rfl inRd tyRd okRd nmRd 2 (by decide) kw_146 rfl rfl rfl rfl (Nat.le_of_ble_eq_true rfl) d_Rd_readName_66 (fun H locs hP hS => ?_)
          obtain ⟨mem88, e_mem88⟩ : ∃ z, z = va_up mem9 (222) (.inr (4, [.ref (ad 1), .ref (ad 5), .int (nI (a1 + 1)), .int (ft29)])) := ⟨_, rfl⟩
          have hP : va_P D vcl (fw n ad mem88) H := by rw [e_mem88]; exact hP
          have hD : va_D (Az sz) (fw n ad mem88) := fw_D hD
          have h_mem88 : mem88 (222) = .inr (4, [.ref (ad 1), .ref (ad 5), .int (nI (a1 + 1)), .int (ft29)]) := by rw [e_mem88, va_up_self]
          have hh89 := (va_up_ne mem9 (.inr (4, [.ref (ad 1), .ref (ad 5), .int (nI (a1 + 1)), .int (ft29)])) (show (1 : Nat) ≠ 222 by first | decide | assumption | omega)).trans h1_31
          rw [← e_mem88] at hh89
          have hh90 := (va_up_ne mem9 (.inr (4, [.ref (ad 1), .ref (ad 5), .int (nI (a1 + 1)), .int (ft29)])) (show (5 : Nat) ≠ 222 by first | decide | assumption | omega)).trans h5_33
          rw [← e_mem88] at hh90
          have hh91 := (va_up_ne mem9 (.inr (4, [.ref (ad 1), .ref (ad 5), .int (nI (a1 + 1)), .int (ft29)])) (show (220 : Nat) ≠ 222 by first | decide | assumption | omega)).trans h220_37
          rw [← e_mem88] at hh91
          have hfr92 : ∀ i, 7 ≤ i ∧ i < 222 ∧ (i < 7 + R ∨ 19 ≤ i) → mem88 i = mem i := fun i q => (show mem88 i = mem9 i by rw [e_mem88]; exact va_up_ne _ _ (by omega)).trans (hz26 i q)
          have hRX93 : RX cy ad lim (a1 + 1) (R) (Ec) (to) (nm) m0 mem88 := by rw [e_mem88]; exact hz23.at
          refine lv_iinc (lv' := [(4, .int ((nI k + (1)))), (2, .long (v ||| ((smF (hereF Z T (a1))).toInt64) <<< ((nI (8 * k) : Int32).toInt64 &&& 63))), (1, .int (nI a)), (0, .ref (ad 222))]) Bx.1 Bx.2.1 d_Rd_readName_69 hl (k := 1) rfl rfl (by decide) rfl (fun ls hl => ?_)
          rw [show (nI k + (1) : Int32) = nI (k + 1) from nI_1 (k)] at hl
          refine lv_goto Bx.1 Bx.2.1 d_Rd_readName_72 rfl ?_
          have hnx : nmF T Z (6 - (k + 1)) (k + 1) (a1 + 1) (v ||| ((smF (hereF Z T (a1))).toInt64) <<< ((nI (8 * k) : Int32).toInt64 &&& 63)) = nmF T Z 6 0 a 0 := by
            rw [← hz25]
            obtain ⟨r6, hr6⟩ : ∃ r6, 6 - k = r6 + 1 := ⟨5 - k, by omega⟩
            rw [hr6, show 6 - (k + 1) = r6 by omega]
            have hcd : ltF (hereF Z T a1) ≠ 0 ∨ (0 < k ∧ (dgF (hereF Z T a1) ≠ 0 ∨ hereF Z T a1 = 45)) := by
              by_cases q9 : k = 0
              · subst q9; obtain rfl : a1 = a := (by omega); exact Or.inl hlet
              · exact (nmC_1 hb65).elim Or.inl (fun y => Or.inr ⟨by omega, y⟩)
            conv => rhs; rw [nmF, if_pos hcd]
          exact ih27 mem88 (a1 + 1) (k + 1) (v ||| ((smF (hereF Z T (a1))).toInt64) <<< ((nI (8 * k) : Int32).toInt64 &&& 63)) _ _ _ (by have := hmeas28; omega) (hRX93) (⟨by omega, by omega, by omega⟩) (hnx) (hfr92) hP hD hS (lv_sub hl [0, 1, 2, 3] rfl)
  exact loop21 _ mem (a) (0) (0) _ _ _ (Nat.lt_succ_self _) (hRX) (⟨by omega, by omega, by omega⟩) (rfl) (hfr0) hP hD hS (lv_sub hl [0, 1, 2, 3] rfl)
set_option maxHeartbeats 4000000 in
set_option maxRecDepth 100000 in
theorem m_Gr_addElementY (l : Launch) {D : va_G} {cy : Nat → ClassId} {sz n : Nat} {ad : Nat → Nat} {mem : Nat → va_E} {Z : Nat} {f : Nat → Int32} {lim rc ec : Nat} {m0 : Nat → va_E} {kd : Int32} (hn : 224 ≤ n) (hT : TX cy ad Z f m0) (hRS : RS cy ad lim rc ec m0 mem) (hc : ec < 100) : MR l D cy sz n ad y_Gr_addElement c_Gr_addElement 3 (some (.object "AbnfChart$Element")) ({ frames := 1, cells := 0, slots := 0, locals := 30 } : Room) mem [.ref (ad 5), .int (kd)] (fun r mem' => r = ad (20 + 2 * ec) ∧ RS cy ad lim rc (ec + 1) m0 mem' ∧ (∀ i, i ≠ 5 → i ≠ 20 + 2 * ec → mem' i = mem i) ∧ mem' (20 + 2 * ec) = eCl ad ec kd 0 0 .null .null .null) := by
  refine Met.ofW (cc := c_Gr_addElement) (maxL := 3) (ret := (some (.object "AbnfChart$Element"))) (by decide) rfl ?_
  intro p e s m args below meth c s₁ B hml hv
  obtain ⟨rfl, E, hP, hD⟩ := hv
  have hx := B.exec
  have hb := B.bytes
  have hr := B.returns
  have hlocks := B.notSynchronized
  have Bx : MB p s m [.ref (ad 5), .int (kd)].toArray c c_Gr_addElement "AbnfChart$Grammar" D cy := ⟨hx, hb, tb_all (atoms_spec B.pre) E.2.1, findClass_of_methodNamed B.named, E.1⟩
  have hS : va_S (Az sz) s.heap s.heap [] := va_S.rf
  have hl := lv_entry ([.ref (ad 5), .int (kd)]) (n := 3) (Nat.le_of_ble_eq_true rfl)
  rw [lg_entry_eq]
  generalize (lg_sl ([.ref (ad 5), .int (kd)]) ++ List.replicate (3 - (lg_sl ([.ref (ad 5), .int (kd)])).length) Slot.unset).toArray = ls at hl ⊢
  have hl : lv_has ls 3 [(0, .ref (ad 5)), (1, .int (kd))] := hl
  obtain ⟨at1, ft2, h9_3⟩ := hRS.2.1
  have h1_4 : mem 1 = .inr (0, [.ref (ad 2), .int (nI Z)]) := (hRS.2.2 1 (by omega)).trans hT.1
  have h2_5 : mem 2 = .inl (cy 0, 240, .inl f) := (hRS.2.2 2 (by omega)).trans hT.2.2
  have h5_6 := hRS.1.2.1
  have hbd12 := hRS.1.1
  obtain ⟨S7, g8, hS_9, h220_10, h221_11⟩ := hRS.1.2.2.2.2.2.2
  refine lv_aload_n Bx.1 Bx.2.1 d_Gr_addElement_0 rfl (lv_at hl 0 rfl) ?_
  refine f_get Bx hP (by omega) h5_6 rfl inGr 1 (by decide) kw_116 rfl rfl d_Gr_addElement_1 ?_
  refine lv_aload_n Bx.1 Bx.2.1 d_Gr_addElement_4 rfl (lv_at hl 0 rfl) ?_
  refine f_get Bx hP (by omega) h5_6 rfl inGr 4 (by decide) kw_122 rfl rfl d_Gr_addElement_5 ?_
  refine f_aald (t0 := 4) Bx hP (by omega) hRS.1.2.2.2.1 rfl ec rfl hc (by decide) (if_pos hc) d_Gr_addElement_8 ?_
  refine lv_astore_n (lv' := [(2, .ref (ad (20 + 2 * ec))), (0, .ref (ad 5)), (1, .int (kd))]) Bx.1 Bx.2.1 d_Gr_addElement_9 rfl hl (by decide) rfl (fun ls hl => ?_)
  refine lv_aload_n Bx.1 Bx.2.1 d_Gr_addElement_10 rfl (lv_at hl 1 rfl) ?_
  refine lv_dup Bx.1 Bx.2.1 d_Gr_addElement_11 rfl ?_
  refine f_get Bx hP (by omega) h5_6 rfl inGr 4 (by decide) kw_122 rfl rfl d_Gr_addElement_12 ?_
  refine lv_iconst (v := 1) Bx.1 Bx.2.1 d_Gr_addElement_15 (by decide) ?_
  refine lv_iadd Bx.1 Bx.2.1 d_Gr_addElement_16 ?_
  rw [nI_1]
  obtain ⟨k13, lo14, hi15, as16, pa17, ne18, hcell, -⟩ := (hRS.1.2.2.2.2.2.1 ec hc).1
  refine f_put Bx hP hD hS (by omega) h5_6 rfl inGr tyGr okGr nmGr 4 (by decide) kw_122 rfl rfl rfl rfl (Nat.le_of_ble_eq_true rfl) d_Gr_addElement_17 (fun H locs hP hS => ?_)
  obtain ⟨mem19, e_mem19⟩ : ∃ z, z = va_up mem (5) (.inr (3, [.ref (ad 6), .ref (ad 19), .ref (ad 220), .int (nI rc), .int (nI (ec + 1)), .int (0)])) := ⟨_, rfl⟩
  have hP : va_P D vcl (fw n ad mem19) H := by rw [e_mem19]; exact hP
  have hD : va_D (Az sz) (fw n ad mem19) := fw_D hD
  have h_mem19 : mem19 (5) = .inr (3, [.ref (ad 6), .ref (ad 19), .ref (ad 220), .int (nI rc), .int (nI (ec + 1)), .int (0)]) := by rw [e_mem19, va_up_self]
  have hh20 := (va_up_ne mem (.inr (3, [.ref (ad 6), .ref (ad 19), .ref (ad 220), .int (nI rc), .int (nI (ec + 1)), .int (0)])) (show (222 : Nat) ≠ 5 by first | decide | assumption | omega)).trans h9_3
  rw [← e_mem19] at hh20
  have hh21 := (va_up_ne mem (.inr (3, [.ref (ad 6), .ref (ad 19), .ref (ad 220), .int (nI rc), .int (nI (ec + 1)), .int (0)])) (show (1 : Nat) ≠ 5 by first | decide | assumption | omega)).trans h1_4
  rw [← e_mem19] at hh21
  have hh22 := (va_up_ne mem (.inr (3, [.ref (ad 6), .ref (ad 19), .ref (ad 220), .int (nI rc), .int (nI (ec + 1)), .int (0)])) (show (220 : Nat) ≠ 5 by first | decide | assumption | omega)).trans h220_10
  rw [← e_mem19] at hh22
  have hh23 := (va_up_ne mem (.inr (3, [.ref (ad 6), .ref (ad 19), .ref (ad 220), .int (nI rc), .int (nI (ec + 1)), .int (0)])) (show ((20 + 2 * ec) : Nat) ≠ 5 by first | decide | assumption | omega)).trans hcell
  rw [← e_mem19] at hh23
  refine lv_aload_n Bx.1 Bx.2.1 d_Gr_addElement_20 rfl (lv_at hl 0 rfl) ?_
  refine lv_iload_n Bx.1 Bx.2.1 d_Gr_addElement_21 rfl (lv_at hl 2 rfl) ?_
  refine f_callVv (na := 1) (As := [.int (kd)]) (rest := []) Bx hml E hP hD hS (by omega) hh23 rfl (m_El_begin l (by omega) hh23) kw_431 kw_432 kw_433 kw_5 kw_434 (by decide +kernel) ⟨rfl, rfl⟩ ⟨Nat.le_of_ble_eq_true rfl, Nat.le_of_ble_eq_true rfl⟩ rfl hl.1 (Nat.le_of_ble_eq_true rfl) d_Gr_addElement_22 ⟨Nat.le_of_ble_eq_true rfl, Nat.le_of_ble_eq_true rfl⟩ (fun mem25 H locs hq hP hS => ?_)
  have hD : va_D (Az sz) (fw n ad mem25) := fw_D hD
  refine lv_aload_n Bx.1 Bx.2.1 d_Gr_addElement_25 rfl (lv_at hl 0 rfl) ?_
  exact r_aret hx hb hlocks hr (⟨rfl, by rw [hq, e_mem19]; exact hRS.addE hc _, fun i q1 q2 => by rw [hq, e_mem19, va_up_ne _ _ q2, va_up_ne _ _ q1], by rw [hq, va_up_self]⟩) hP hS d_Gr_addElement_26
set_option maxHeartbeats 4000000 in
set_option maxRecDepth 100000 in
theorem m_Rd_addElementY (l : Launch) {D : va_G} {cy : Nat → ClassId} {sz n : Nat} {ad : Nat → Nat} {mem : Nat → va_E} {Z a R Ec lim : Nat} {f T : Nat → Int32} {to : Nat → Int32} {nm : Nat → Int64} {m0 : Nat → va_E} {kd st : Int32} (hlt : l.stackTraces = false) (hn : 224 ≤ n) (hT : TX cy ad Z f m0) (hf : ∀ k, k < Z → f k = T k) (hRX : RX cy ad lim a R Ec to nm m0 mem) (haB : a ≤ 300) : NXr l D cy sz n ad y_Rd_addElement c_Rd_addElement 3 (some (.object "AbnfChart$Element")) ({ frames := 8, cells := 1, slots := 6, locals := 130 } : Room) mem [.ref (ad 222), .int (kd), .int (st)] (fun r mem' => r = ad (20 + 2 * Ec) ∧ Ec < 100 ∧ RX cy ad lim a R (Ec + 1) to nm m0 mem' ∧ mem' (20 + 2 * Ec) = eCl ad Ec kd 0 0 .null .null .null ∧ ∀ i, 7 ≤ i ∧ i < 222 ∧ i ≠ 20 + 2 * Ec → mem' i = mem i) (fun X mem' => ((X = cIA ∨ X = cIS) ∧ ∃ rc' ec' : Nat, RS cy ad lim rc' ec' m0 mem') ∧ (Ec = 100)) := by
  refine vx_ofW (cc := c_Rd_addElement) (maxL := 3) (ret := (some (.object "AbnfChart$Element"))) (by decide) rfl ?_
  intro p e s m args below meth c s₁ B hml hno hv
  obtain ⟨rfl, E, hP, hD⟩ := hv
  have hx := B.exec
  have hb := B.bytes
  have hr := B.returns
  have hlocks := B.notSynchronized
  have Bx : MB p s m [.ref (ad 222), .int (kd), .int (st)].toArray c c_Rd_addElement "AbnfChart$Reader" D cy := ⟨hx, hb, tb_all (atoms_spec B.pre) E.2.1, findClass_of_methodNamed B.named, E.1⟩
  have hS : va_S (Az sz) s.heap s.heap [] := va_S.rf
  have hl := lv_entry ([.ref (ad 222), .int (kd), .int (st)]) (n := 3) (Nat.le_of_ble_eq_true rfl)
  rw [lg_entry_eq]
  generalize (lg_sl ([.ref (ad 222), .int (kd), .int (st)]) ++ List.replicate (3 - (lg_sl ([.ref (ad 222), .int (kd), .int (st)])).length) Slot.unset).toArray = ls at hl ⊢
  have hl : lv_has ls 3 [(0, .ref (ad 222)), (1, .int (kd)), (2, .int (st))] := hl
  have hZ9 := hT.2.1
  have hbd9 := hRX.1.1.1
  have hfr0 : ∀ i, 7 ≤ i ∧ i < 222 ∧ i ≠ 20 + 2 * Ec → mem i = mem i := fun _ _ => rfl
  obtain ⟨ft1, h9_2⟩ := hRX.2.1
  have h1_3 : mem 1 = .inr (0, [.ref (ad 2), .int (nI Z)]) := (hRX.1.2.2 1 (by omega)).trans hT.1
  have h2_4 : mem 2 = .inl (cy 0, 240, .inl f) := (hRX.1.2.2 2 (by omega)).trans hT.2.2
  have h5_5 := hRX.1.1.2.1
  have hbd11 := hRX.1.1.1
  obtain ⟨S6, g7, hS_8, h220_9, h221_10⟩ := hRX.1.1.2.2.2.2.2.2
  refine lv_aload_n Bx.1 Bx.2.1 d_Rd_addElement_0 rfl (lv_at hl 0 rfl) ?_
  refine lv_aload_n Bx.1 Bx.2.1 d_Rd_addElement_1 rfl (lv_at hl 0 rfl) ?_
  refine f_get Bx hP (by omega) h9_2 rfl inRd 1 (by decide) kw_145 rfl rfl d_Rd_addElement_2 ?_
  refine f_callVi (na := 0) (As := []) (rest := [.ref (ad 222)]) Bx hml E hP hD hS (by omega) h5_5 rfl (m_Gr_hasRoomForElementX l hn hT hf hRX (by omega)) kw_423 kw_424 kw_425 kw_3 kw_426 (by decide +kernel) ⟨rfl, rfl⟩ ⟨Nat.le_of_ble_eq_true rfl, Nat.le_of_ble_eq_true rfl⟩ rfl hl.1 (Nat.le_of_ble_eq_true rfl) d_Rd_addElement_5 ⟨Nat.le_of_ble_eq_true rfl, Nat.le_of_ble_eq_true rfl⟩ (fun r12 mem13 H locs hq hP hS => ?_)
  have hD : va_D (Az sz) (fw n ad mem13) := fw_D hD
  obtain ⟨hqe, hro⟩ := hq
  rw [hqe] at hP hD
  rcases hro with ⟨hr0, hE⟩ | ⟨hr0, hE⟩
  · subst hr0
    refine lv_iload_n Bx.1 Bx.2.1 d_Rd_addElement_8 rfl (lv_at hl 2 rfl) ?_
    refine f_xVv (na := 2) (As := [.int (0), .int (st)]) (rest := []) Bx hml E hP hD hS (by omega) h9_2 rfl (m_Rd_needRoomX l hlt hn hT hf hRX (by omega)) kw_383 kw_385 sel_Rd_needRoom kw_6 kw_386 (by decide +kernel) ⟨rfl, rfl⟩ ⟨Nat.le_of_ble_eq_true rfl, Nat.le_of_ble_eq_true rfl⟩ rfl hl.1 (Nat.le_of_ble_eq_true rfl) d_Rd_addElement_9 ⟨Nat.le_of_ble_eq_true rfl, Nat.le_of_ble_eq_true rfl⟩ (fun X ce q9 memx H locs hx9 hP hS g1 g2 g3 => f_out hlocks hno hP hS g1 g2 g3 ⟨Nat.le_of_ble_eq_true rfl, Nat.le_of_ble_eq_true rfl⟩ ⟨hx9.1, hE⟩) (fun mem16 H locs hq hP hS => ?_)
    have hD : va_D (Az sz) (fw n ad mem16) := fw_D hD
    obtain ⟨hqe, hg17⟩ := hq
    rw [hqe] at hP hD
    exact absurd rfl hg17
  · subst hr0
    refine lv_iload_n Bx.1 Bx.2.1 d_Rd_addElement_8 rfl (lv_at hl 2 rfl) ?_
    refine f_xVv (na := 2) (As := [.int (1), .int (st)]) (rest := []) Bx hml E hP hD hS (by omega) h9_2 rfl (m_Rd_needRoomX l hlt hn hT hf hRX (by omega)) kw_383 kw_385 sel_Rd_needRoom kw_6 kw_386 (by decide +kernel) ⟨rfl, rfl⟩ ⟨Nat.le_of_ble_eq_true rfl, Nat.le_of_ble_eq_true rfl⟩ rfl hl.1 (Nat.le_of_ble_eq_true rfl) d_Rd_addElement_9 ⟨Nat.le_of_ble_eq_true rfl, Nat.le_of_ble_eq_true rfl⟩ (fun X ce q9 memx H locs hx9 hP hS g1 g2 g3 => f_out hlocks hno hP hS g1 g2 g3 ⟨Nat.le_of_ble_eq_true rfl, Nat.le_of_ble_eq_true rfl⟩ ⟨hx9.1, absurd hx9.2 (by decide)⟩) (fun mem19 H locs hq hP hS => ?_)
    have hD : va_D (Az sz) (fw n ad mem19) := fw_D hD
    obtain ⟨hqe, hg20⟩ := hq
    rw [hqe] at hP hD
    refine lv_aload_n Bx.1 Bx.2.1 d_Rd_addElement_12 rfl (lv_at hl 0 rfl) ?_
    refine f_get Bx hP (by omega) h9_2 rfl inRd 1 (by decide) kw_145 rfl rfl d_Rd_addElement_13 ?_
    refine lv_iload_n Bx.1 Bx.2.1 d_Rd_addElement_16 rfl (lv_at hl 1 rfl) ?_
    refine f_callVr (na := 1) (As := [.int (kd)]) (rest := []) Bx hml E hP hD hS (by omega) h5_5 rfl (m_Gr_addElementY l hn hT hRX.1 hE) kw_427 kw_428 kw_429 kw_3 kw_430 (by decide +kernel) ⟨rfl, rfl⟩ ⟨Nat.le_of_ble_eq_true rfl, Nat.le_of_ble_eq_true rfl⟩ rfl hl.1 (Nat.le_of_ble_eq_true rfl) d_Rd_addElement_17 ⟨Nat.le_of_ble_eq_true rfl, Nat.le_of_ble_eq_true rfl⟩ (fun r21 mem22 H locs hq3 hP hS => ?_)
    have hD : va_D (Az sz) (fw n ad mem22) := fw_D hD
    exact x_aret hx hb hlocks hr (⟨hq3.1, hE, hRX.fr hq3.2.1 (fun i hi => hq3.2.2.1 i (by omega) (by omega)), hq3.2.2.2, fun i q => (hq3.2.2.1 i (by omega) (by omega)).trans (hfr0 i q)⟩) hP hS d_Rd_addElement_20
set_option maxHeartbeats 4000000 in
set_option maxRecDepth 100000 in
theorem m_Rd_beginRowY (l : Launch) {D : va_G} {cy : Nat → ClassId} {sz n : Nat} {ad : Nat → Nat} {mem : Nat → va_E} {Z a R Ec lim : Nat} {f T : Nat → Int32} {to : Nat → Int32} {nm : Nat → Int64} {m0 : Nat → va_E} {kd : Int32} (hlt : l.stackTraces = false) (hn : 224 ≤ n) (hT : TX cy ad Z f m0) (hf : ∀ k, k < Z → f k = T k) (hRX : RX cy ad lim a R Ec to nm m0 mem) (haB : a ≤ 300) : NXr l D cy sz n ad y_Rd_beginRow c_Rd_beginRow 2 (some (.object "AbnfChart$Element")) ({ frames := 10, cells := 1, slots := 6, locals := 220 } : Room) mem [.ref (ad 222), .int (kd)] (fun r mem' => bgF (hereF Z T a) = true ∧ Ec < 100 ∧ r = ad (20 + 2 * Ec) ∧ RX cy ad lim a R (Ec + 1) to nm m0 mem' ∧ mem' (20 + 2 * Ec) = eCl ad Ec kd 0 0 .null .null .null ∧ ∀ i, 7 ≤ i ∧ i < 222 ∧ i ≠ 20 + 2 * Ec → mem' i = mem i) (fun X mem' => ((X = cIA ∨ X = cIS) ∧ ∃ rc' ec' : Nat, RS cy ad lim rc' ec' m0 mem') ∧ (bgF (hereF Z T a) = false ∨ Ec = 100)) := by
  refine vx_ofW (cc := c_Rd_beginRow) (maxL := 2) (ret := (some (.object "AbnfChart$Element"))) (by decide) rfl ?_
  intro p e s m args below meth c s₁ B hml hno hv
  obtain ⟨rfl, E, hP, hD⟩ := hv
  have hx := B.exec
  have hb := B.bytes
  have hr := B.returns
  have hlocks := B.notSynchronized
  have Bx : MB p s m [.ref (ad 222), .int (kd)].toArray c c_Rd_beginRow "AbnfChart$Reader" D cy := ⟨hx, hb, tb_all (atoms_spec B.pre) E.2.1, findClass_of_methodNamed B.named, E.1⟩
  have hS : va_S (Az sz) s.heap s.heap [] := va_S.rf
  have hl := lv_entry ([.ref (ad 222), .int (kd)]) (n := 2) (Nat.le_of_ble_eq_true rfl)
  rw [lg_entry_eq]
  generalize (lg_sl ([.ref (ad 222), .int (kd)]) ++ List.replicate (2 - (lg_sl ([.ref (ad 222), .int (kd)])).length) Slot.unset).toArray = ls at hl ⊢
  have hl : lv_has ls 2 [(0, .ref (ad 222)), (1, .int (kd))] := hl
  have hZ9 := hT.2.1
  have hbd9 := hRX.1.1.1
  have hfr0 : ∀ i, 7 ≤ i ∧ i < 222 ∧ i ≠ 20 + 2 * Ec → mem i = mem i := fun _ _ => rfl
  obtain ⟨ft1, h9_2⟩ := hRX.2.1
  have h1_3 : mem 1 = .inr (0, [.ref (ad 2), .int (nI Z)]) := (hRX.1.2.2 1 (by omega)).trans hT.1
  have h2_4 : mem 2 = .inl (cy 0, 240, .inl f) := (hRX.1.2.2 2 (by omega)).trans hT.2.2
  have h5_5 := hRX.1.1.2.1
  have hbd11 := hRX.1.1.1
  obtain ⟨S6, g7, hS_8, h220_9, h221_10⟩ := hRX.1.1.2.2.2.2.2.2
  refine lv_aload_n Bx.1 Bx.2.1 d_Rd_beginRow_0 rfl (lv_at hl 0 rfl) ?_
  refine lv_aload_n Bx.1 Bx.2.1 d_Rd_beginRow_1 rfl (lv_at hl 0 rfl) ?_
  refine f_callVi (na := 0) (As := []) (rest := [.ref (ad 222)]) Bx hml E hP hD hS (by omega) h9_2 rfl (m_Rd_peekX l hn hT hf hRX (by omega)) kw_353 kw_355 sel_Rd_peek kw_6 kw_356 (by decide +kernel) ⟨rfl, rfl⟩ ⟨Nat.le_of_ble_eq_true rfl, Nat.le_of_ble_eq_true rfl⟩ rfl hl.1 (Nat.le_of_ble_eq_true rfl) d_Rd_beginRow_2 ⟨Nat.le_of_ble_eq_true rfl, Nat.le_of_ble_eq_true rfl⟩ (fun r13 mem14 H locs hq hP hS => ?_)
  have hD : va_D (Az sz) (fw n ad mem14) := fw_D hD
  obtain ⟨hqe, hpk12⟩ := hq
  rw [hqe] at hP hD
  subst hpk12
  refine f_callSi (na := 1) (As := [.int (hereF Z T (a))]) (rest := [.ref (ad 222)]) Bx hml E.2.1 (m_Rd_beginsRepetitionX l (hereF Z T (a))) kw_413 kw_414 kw_6 kw_415 (by decide +kernel) ⟨rfl, rfl⟩ ⟨Nat.le_of_ble_eq_true rfl, Nat.le_of_ble_eq_true rfl⟩ rfl hl.1 (Nat.le_of_ble_eq_true rfl) d_Rd_beginRow_5 ⟨Nat.le_of_ble_eq_true rfl, Nat.le_of_ble_eq_true rfl⟩ (fun r17 hs16 => ?_)
  subst hs16
  refine lv_aload_n Bx.1 Bx.2.1 d_Rd_beginRow_8 rfl (lv_at hl 0 rfl) ?_
  refine f_get Bx hP (by omega) h9_2 rfl inRd 2 (by decide) kw_146 rfl rfl d_Rd_beginRow_9 ?_
  refine f_xVv (na := 2) (As := [.int ((if bgF (hereF Z T (a)) then 1 else 0)), .int (nI a)]) (rest := []) Bx hml E hP hD hS (by omega) h9_2 rfl (m_Rd_needReadableX l hlt hn hT hf hRX (by omega)) kw_360 kw_362 sel_Rd_needReadable kw_6 kw_363 (by decide +kernel) ⟨rfl, rfl⟩ ⟨Nat.le_of_ble_eq_true rfl, Nat.le_of_ble_eq_true rfl⟩ rfl hl.1 (Nat.le_of_ble_eq_true rfl) d_Rd_beginRow_12 ⟨Nat.le_of_ble_eq_true rfl, Nat.le_of_ble_eq_true rfl⟩ (fun X ce q9 memx H locs hx9 hP hS g1 g2 g3 => f_out hlocks hno hP hS g1 g2 g3 ⟨Nat.le_of_ble_eq_true rfl, Nat.le_of_ble_eq_true rfl⟩ ⟨hx9.1, Or.inl (bg_0 hx9.2)⟩) (fun mem19 H locs hq hP hS => ?_)
  have hD : va_D (Az sz) (fw n ad mem19) := fw_D hD
  obtain ⟨hqe, hg20⟩ := hq
  rw [hqe] at hP hD
  refine lv_aload_n Bx.1 Bx.2.1 d_Rd_beginRow_15 rfl (lv_at hl 0 rfl) ?_
  refine lv_iload_n Bx.1 Bx.2.1 d_Rd_beginRow_16 rfl (lv_at hl 1 rfl) ?_
  refine lv_aload_n Bx.1 Bx.2.1 d_Rd_beginRow_17 rfl (lv_at hl 0 rfl) ?_
  refine f_get Bx hP (by omega) h9_2 rfl inRd 2 (by decide) kw_146 rfl rfl d_Rd_beginRow_18 ?_
  refine f_xVr (na := 2) (As := [.int (kd), .int (nI a)]) (rest := []) Bx hml E hP hD hS (by omega) h9_2 rfl (m_Rd_addElementY l hlt hn hT hf hRX (by omega)) kw_419 kw_421 sel_Rd_addElement kw_6 kw_422 (by decide +kernel) ⟨rfl, rfl⟩ ⟨Nat.le_of_ble_eq_true rfl, Nat.le_of_ble_eq_true rfl⟩ rfl hl.1 (Nat.le_of_ble_eq_true rfl) d_Rd_beginRow_21 ⟨Nat.le_of_ble_eq_true rfl, Nat.le_of_ble_eq_true rfl⟩ (fun X ce q9 memx H locs hx9 hP hS g1 g2 g3 => f_out hlocks hno hP hS g1 g2 g3 ⟨Nat.le_of_ble_eq_true rfl, Nat.le_of_ble_eq_true rfl⟩ ⟨hx9.1, Or.inr hx9.2⟩) (fun r21 mem22 H locs hq hP hS => ?_)
  have hD : va_D (Az sz) (fw n ad mem22) := fw_D hD
  obtain ⟨hr9, hE9, hRXa, hcl9, hfa9⟩ := hq
  subst hr9
  obtain ⟨ft23, h9_24⟩ := hRXa.2.1
  have h1_25 : mem22 1 = .inr (0, [.ref (ad 2), .int (nI Z)]) := (hRXa.1.2.2 1 (by omega)).trans hT.1
  have h2_26 : mem22 2 = .inl (cy 0, 240, .inl f) := (hRXa.1.2.2 2 (by omega)).trans hT.2.2
  have h5_27 := hRXa.1.1.2.1
  have hbd33 := hRXa.1.1.1
  obtain ⟨S28, g29, hS_30, h220_31, h221_32⟩ := hRXa.1.1.2.2.2.2.2.2
  have hfr34 : ∀ i, 7 ≤ i ∧ i < 222 ∧ i ≠ 20 + 2 * Ec → mem22 i = mem i := fun i q => (hfa9 i (by omega)).trans (hfr0 i q)
  exact x_aret hx hb hlocks hr (⟨bg_1 hg20, hE9, rfl, hRXa, hcl9, hfr34⟩) hP hS d_Rd_beginRow_24
set_option maxHeartbeats 4000000 in
set_option maxRecDepth 100000 in
theorem m_Rd_readRepeatY (l : Launch) {D : va_G} {cy : Nat → ClassId} {sz n : Nat} {ad : Nat → Nat} {mem : Nat → va_E} {Z a R Ec lim : Nat} {f T : Nat → Int32} {to : Nat → Int32} {nm : Nat → Int64} {m0 : Nat → va_E} {kk : Nat} {ka kb kc : Int32} {q1 q2 q3 : Value} (hlt : l.stackTraces = false) (hn : 224 ≤ n) (hT : TX cy ad Z f m0) (hf : ∀ k, k < Z → f k = T k) (hRX : RX cy ad lim a R Ec to nm m0 mem) (haB : a ≤ 300) (hk : kk < Ec) (hcl : mem (20 + 2 * kk) = eCl ad kk ka kb kc q1 q2 q3) (haZ : a ≤ Z) (hdg : ¬ dgF (hereF Z T a) = 0 ∨ hereF Z T a = 42) : NXv l D cy sz n ad y_Rd_readRepeat c_Rd_readRepeat 4 ({ frames := 8, cells := 1, slots := 6, locals := 160 } : Room) mem [.ref (ad 222), .ref (ad (20 + 2 * kk))] (fun mem' => ∃ v1 b1 v2 b2, rpt1 T Z a = (v1, b1) ∧ rpt2 T Z a = (v2, b2) ∧ ¬ (¬ v2 < 0 ∧ v2 < v1) ∧ a < b2 ∧ b2 ≤ Z ∧ RX cy ad lim b2 R Ec to nm m0 mem' ∧ mem' (20 + 2 * kk) = eCl ad kk ka v1 v2 q1 q2 q3 ∧ ∀ i, 7 ≤ i ∧ i < 222 ∧ i ≠ 20 + 2 * kk → mem' i = mem i) (fun X mem' => ((X = cIA ∨ X = cIS) ∧ ∃ rc' ec' : Nat, RS cy ad lim rc' ec' m0 mem') ∧ (∃ v1 b1 v2 b2, rpt1 T Z a = (v1, b1) ∧ rpt2 T Z a = (v2, b2) ∧ (¬ v2 < 0 ∧ v2 < v1))) := by
  refine vx_ofW (cc := c_Rd_readRepeat) (maxL := 4) (ret := none) (by decide) rfl ?_
  intro p e s m args below meth c s₁ B hml hno hv
  obtain ⟨rfl, E, hP, hD⟩ := hv
  have hx := B.exec
  have hb := B.bytes
  have hr := B.returns
  have hlocks := B.notSynchronized
  have Bx : MB p s m [.ref (ad 222), .ref (ad (20 + 2 * kk))].toArray c c_Rd_readRepeat "AbnfChart$Reader" D cy := ⟨hx, hb, tb_all (atoms_spec B.pre) E.2.1, findClass_of_methodNamed B.named, E.1⟩
  have hS : va_S (Az sz) s.heap s.heap [] := va_S.rf
  have hl := lv_entry ([.ref (ad 222), .ref (ad (20 + 2 * kk))]) (n := 4) (Nat.le_of_ble_eq_true rfl)
  rw [lg_entry_eq]
  generalize (lg_sl ([.ref (ad 222), .ref (ad (20 + 2 * kk))]) ++ List.replicate (4 - (lg_sl ([.ref (ad 222), .ref (ad (20 + 2 * kk))])).length) Slot.unset).toArray = ls at hl ⊢
  have hl : lv_has ls 4 [(0, .ref (ad 222)), (1, .ref (ad (20 + 2 * kk)))] := hl
  have hZ9 := hT.2.1
  have hbd9 := hRX.1.1.1
  have hfr0 : ∀ i, 7 ≤ i ∧ i < 222 ∧ i ≠ 20 + 2 * kk → mem i = mem i := fun _ _ => rfl
  obtain ⟨ft1, h9_2⟩ := hRX.2.1
  have h1_3 : mem 1 = .inr (0, [.ref (ad 2), .int (nI Z)]) := (hRX.1.2.2 1 (by omega)).trans hT.1
  have h2_4 : mem 2 = .inl (cy 0, 240, .inl f) := (hRX.1.2.2 2 (by omega)).trans hT.2.2
  have h5_5 := hRX.1.1.2.1
  have hbd11 := hRX.1.1.1
  obtain ⟨S6, g7, hS_8, h220_9, h221_10⟩ := hRX.1.1.2.2.2.2.2.2
  obtain ⟨k12, lo13, hi14, as15, pa16, ne17, he_18, ho_19⟩ := (hRX.1.1.2.2.2.2.2.1 kk (by omega)).1
  obtain ⟨z1, z2, z3, z4, z5, z6, hz7, hz8⟩ := (hRX.1.1.2.2.2.2.2.1 kk (by omega)).1
  rw [hcl] at hz7
  obtain ⟨rfl, rfl, rfl⟩ : q1 = z4 ∧ q2 = z5 ∧ q3 = z6 := by injection hz7 with p; injection p with _ p; injection p with _ p; injection p with _ p; injection p with _ p; injection p with p1 p; injection p with p2 p; injection p with p3 p; exact ⟨p1, p2, p3⟩
  refine lv_aload_n Bx.1 Bx.2.1 d_Rd_readRepeat_0 rfl (lv_at hl 0 rfl) ?_
  refine f_get Bx hP (by omega) h9_2 rfl inRd 2 (by decide) kw_146 rfl rfl d_Rd_readRepeat_1 ?_
  refine lv_istore_n (lv' := [(2, .int (nI a)), (0, .ref (ad 222)), (1, .ref (ad (20 + 2 * kk)))]) Bx.1 Bx.2.1 d_Rd_readRepeat_4 rfl hl (by decide) rfl (fun ls hl => ?_)
  refine lv_aload_n Bx.1 Bx.2.1 d_Rd_readRepeat_5 rfl (lv_at hl 1 rfl) ?_
  refine f_callVi (na := 0) (As := []) (rest := []) Bx hml E hP hD hS (by omega) h9_2 rfl (m_Rd_readDigitX l hn hT hf hRX (by omega)) kw_486 kw_488 sel_Rd_readDigit kw_6 kw_489 (by decide +kernel) ⟨rfl, rfl⟩ ⟨Nat.le_of_ble_eq_true rfl, Nat.le_of_ble_eq_true rfl⟩ rfl hl.1 (Nat.le_of_ble_eq_true rfl) d_Rd_readRepeat_6 ⟨Nat.le_of_ble_eq_true rfl, Nat.le_of_ble_eq_true rfl⟩ (fun r20 mem21 H locs hq hP hS => ?_)
  have hD : va_D (Az sz) (fw n ad mem21) := fw_D hD
  obtain ⟨a22, hRX23, hdc24, hfr25⟩ := hq
  rcases hdc24 with ⟨hdg26, hrv27, hae28⟩ | ⟨hdg26, hrv27, hae28⟩
  · subst hrv27
    rw [hae28] at hRX23
    obtain ⟨ft29, h9_30⟩ := hRX23.2.1
    have h1_31 : mem21 1 = .inr (0, [.ref (ad 2), .int (nI Z)]) := (hRX23.1.2.2 1 (by omega)).trans hT.1
    have h2_32 : mem21 2 = .inl (cy 0, 240, .inl f) := (hRX23.1.2.2 2 (by omega)).trans hT.2.2
    have h5_33 := hRX23.1.1.2.1
    have hbd39 := hRX23.1.1.1
    obtain ⟨S34, g35, hS_36, h220_37, h221_38⟩ := hRX23.1.1.2.2.2.2.2.2
    obtain ⟨k40, lo41, hi42, as43, pa44, ne45, he_46, ho_47⟩ := (hRX23.1.1.2.2.2.2.2.1 kk (by omega)).1
    have hel48 := (hfr25 (20 + 2 * kk) (by omega)).trans hcl
    have hfr49 : ∀ i, 7 ≤ i ∧ i < 222 ∧ i ≠ 20 + 2 * kk → mem21 i = mem i := fun i q => (hfr25 i (by omega)).trans (hfr0 i q)
    refine lv_istore_n (lv' := [(3, .int ((-1))), (2, .int (nI a)), (0, .ref (ad 222)), (1, .ref (ad (20 + 2 * kk)))]) Bx.1 Bx.2.1 d_Rd_readRepeat_9 rfl hl (by decide) rfl (fun ls hl => ?_)
    refine lv_aload_n Bx.1 Bx.2.1 d_Rd_readRepeat_10 rfl (lv_at hl 2 rfl) ?_
    refine f_callVi (na := 0) (As := []) (rest := []) Bx hml E hP hD hS (by omega) h9_30 rfl (m_Rd_peekX l hn hT hf hRX23 (by omega)) kw_353 kw_355 sel_Rd_peek kw_6 kw_356 (by decide +kernel) ⟨rfl, rfl⟩ ⟨Nat.le_of_ble_eq_true rfl, Nat.le_of_ble_eq_true rfl⟩ rfl hl.1 (Nat.le_of_ble_eq_true rfl) d_Rd_readRepeat_11 ⟨Nat.le_of_ble_eq_true rfl, Nat.le_of_ble_eq_true rfl⟩ (fun r51 mem52 H locs hq hP hS => ?_)
    have hD : va_D (Az sz) (fw n ad mem52) := fw_D hD
    obtain ⟨hqe, hpk50⟩ := hq
    rw [hqe] at hP hD
    subst hpk50
    refine lv_bipush (v := 42) Bx.1 Bx.2.1 d_Rd_readRepeat_14 (by decide) ?_
    refine lv_icmp_ne Bx.1 Bx.2.1 d_Rd_readRepeat_16 rfl (fun hb54 => ?_) (fun hb54 => ?_)
    · exact absurd (hdg.resolve_left (fun z => z hdg26)) hb54
    · have hlt55 := hereF_lt (by rw [hb54]; decide)
      refine lv_aload_n Bx.1 Bx.2.1 d_Rd_readRepeat_19 rfl (lv_at hl 2 rfl) ?_
      refine lv_dup Bx.1 Bx.2.1 d_Rd_readRepeat_20 rfl ?_
      refine f_get Bx hP (by omega) h9_30 rfl inRd 2 (by decide) kw_146 rfl rfl d_Rd_readRepeat_21 ?_
      refine lv_iconst (v := 1) Bx.1 Bx.2.1 d_Rd_readRepeat_24 (by decide) ?_
      refine lv_iadd Bx.1 Bx.2.1 d_Rd_readRepeat_25 ?_
      rw [show nI a + 1 = nI (a + 1) from nI_add (a) (1)]
      refine f_put Bx hP hD hS (by omega) h9_30 rfl inRd tyRd okRd nmRd 2 (by decide) kw_146 rfl rfl rfl rfl (Nat.le_of_ble_eq_true rfl) d_Rd_readRepeat_26 (fun H locs hP hS => ?_)
      obtain ⟨mem56, e_mem56⟩ : ∃ z, z = va_up mem21 (222) (.inr (4, [.ref (ad 1), .ref (ad 5), .int (nI (a + 1)), .int (ft29)])) := ⟨_, rfl⟩
      have hP : va_P D vcl (fw n ad mem56) H := by rw [e_mem56]; exact hP
      have hD : va_D (Az sz) (fw n ad mem56) := fw_D hD
      have h_mem56 : mem56 (222) = .inr (4, [.ref (ad 1), .ref (ad 5), .int (nI (a + 1)), .int (ft29)]) := by rw [e_mem56, va_up_self]
      have hh57 := (va_up_ne mem21 (.inr (4, [.ref (ad 1), .ref (ad 5), .int (nI (a + 1)), .int (ft29)])) (show (1 : Nat) ≠ 222 by first | decide | assumption | omega)).trans h1_31
      rw [← e_mem56] at hh57
      have hh58 := (va_up_ne mem21 (.inr (4, [.ref (ad 1), .ref (ad 5), .int (nI (a + 1)), .int (ft29)])) (show (5 : Nat) ≠ 222 by first | decide | assumption | omega)).trans h5_33
      rw [← e_mem56] at hh58
      have hh59 := (va_up_ne mem21 (.inr (4, [.ref (ad 1), .ref (ad 5), .int (nI (a + 1)), .int (ft29)])) (show (220 : Nat) ≠ 222 by first | decide | assumption | omega)).trans h220_37
      rw [← e_mem56] at hh59
      have hh60 := (va_up_ne mem21 (.inr (4, [.ref (ad 1), .ref (ad 5), .int (nI (a + 1)), .int (ft29)])) (show ((20 + 2 * kk) : Nat) ≠ 222 by first | decide | assumption | omega)).trans hel48
      rw [← e_mem56] at hh60
      have hfr61 : ∀ i, 7 ≤ i ∧ i < 222 ∧ i ≠ 20 + 2 * kk → mem56 i = mem i := fun i q => (show mem56 i = mem21 i by rw [e_mem56]; exact va_up_ne _ _ (by omega)).trans (hfr49 i q)
      have hRX62 : RX cy ad lim (a + 1) (R) (Ec) (to) (nm) m0 mem56 := by rw [e_mem56]; exact hRX23.at
      refine lv_aload_n Bx.1 Bx.2.1 d_Rd_readRepeat_29 rfl (lv_at hl 3 rfl) ?_
      refine lv_iload_n Bx.1 Bx.2.1 d_Rd_readRepeat_30 rfl (lv_at hl 0 rfl) ?_
      refine lv_iconst (v := -1) Bx.1 Bx.2.1 d_Rd_readRepeat_31 (by decide) ?_
      refine lv_icmp_ne Bx.1 Bx.2.1 d_Rd_readRepeat_32 rfl (fun hb63 => ?_) (fun hb63 => ?_)
      · exact absurd hb63 (by decide)
      · refine lv_iconst (v := 0) Bx.1 Bx.2.1 d_Rd_readRepeat_35 (by decide) ?_
        refine lv_goto Bx.1 Bx.2.1 d_Rd_readRepeat_36 rfl ?_
        refine f_putN Bx hP hD hS (by omega) hh60 rfl inEl tyEl okEl nmEl 1 (by decide) kw_79 rfl rfl rfl rfl (Nat.le_of_ble_eq_true rfl) d_Rd_readRepeat_40 (fun H locs hP hS => ?_)
        obtain ⟨mem64, e_mem64⟩ : ∃ z, z = va_up mem56 ((20 + 2 * kk)) (.inr (2, [.int (ka), .int (0), .int (kc), q1, q2, q3, .ref (ad (21 + 2 * kk))])) := ⟨_, rfl⟩
        have hP : va_P D vcl (fw n ad mem64) H := by rw [e_mem64]; exact hP
        have hD : va_D (Az sz) (fw n ad mem64) := fw_D hD
        have h_mem64 : mem64 ((20 + 2 * kk)) = .inr (2, [.int (ka), .int (0), .int (kc), q1, q2, q3, .ref (ad (21 + 2 * kk))]) := by rw [e_mem64, va_up_self]
        have hh65 := (va_up_ne mem56 (.inr (2, [.int (ka), .int (0), .int (kc), q1, q2, q3, .ref (ad (21 + 2 * kk))])) (show (222 : Nat) ≠ (20 + 2 * kk) by first | decide | assumption | omega)).trans h_mem56
        rw [← e_mem64] at hh65
        have hh66 := (va_up_ne mem56 (.inr (2, [.int (ka), .int (0), .int (kc), q1, q2, q3, .ref (ad (21 + 2 * kk))])) (show (1 : Nat) ≠ (20 + 2 * kk) by first | decide | assumption | omega)).trans hh57
        rw [← e_mem64] at hh66
        have hh67 := (va_up_ne mem56 (.inr (2, [.int (ka), .int (0), .int (kc), q1, q2, q3, .ref (ad (21 + 2 * kk))])) (show (5 : Nat) ≠ (20 + 2 * kk) by first | decide | assumption | omega)).trans hh58
        rw [← e_mem64] at hh67
        have hh68 := (va_up_ne mem56 (.inr (2, [.int (ka), .int (0), .int (kc), q1, q2, q3, .ref (ad (21 + 2 * kk))])) (show (220 : Nat) ≠ (20 + 2 * kk) by first | decide | assumption | omega)).trans hh59
        rw [← e_mem64] at hh68
        have hfr69 : ∀ i, 7 ≤ i ∧ i < 222 ∧ i ≠ 20 + 2 * kk → mem64 i = mem i := fun i q => (show mem64 i = mem56 i by rw [e_mem64]; exact va_up_ne _ _ (by omega)).trans (hfr61 i q)
        have hRX70 : RX cy ad lim (a + 1) (R) (Ec) (to) (nm) m0 mem64 := by rw [e_mem64]; exact hRX62.el (by omega) (hRX62.1.mk (by omega) (hRX62.1.1.upEl (by omega) hz8))
        refine lv_aload_n Bx.1 Bx.2.1 d_Rd_readRepeat_43 rfl (lv_at hl 3 rfl) ?_
        refine lv_aload_n Bx.1 Bx.2.1 d_Rd_readRepeat_44 rfl (lv_at hl 2 rfl) ?_
        refine f_callVi (na := 0) (As := []) (rest := [.ref (ad (20 + 2 * kk))]) Bx hml E hP hD hS (by omega) hh65 rfl (m_Rd_readDigitX l hn hT hf hRX70 (by omega)) kw_486 kw_488 sel_Rd_readDigit kw_6 kw_489 (by decide +kernel) ⟨rfl, rfl⟩ ⟨Nat.le_of_ble_eq_true rfl, Nat.le_of_ble_eq_true rfl⟩ rfl hl.1 (Nat.le_of_ble_eq_true rfl) d_Rd_readRepeat_45 ⟨Nat.le_of_ble_eq_true rfl, Nat.le_of_ble_eq_true rfl⟩ (fun r71 mem72 H locs hq hP hS => ?_)
        have hD : va_D (Az sz) (fw n ad mem72) := fw_D hD
        obtain ⟨a73, hRX74, hdc75, hfr76⟩ := hq
        rcases hdc75 with ⟨hdg77, hrv78, hae79⟩ | ⟨hdg77, hrv78, hae79⟩
        · subst hrv78
          rw [hae79] at hRX74
          obtain ⟨ft80, h9_81⟩ := hRX74.2.1
          have h1_82 : mem72 1 = .inr (0, [.ref (ad 2), .int (nI Z)]) := (hRX74.1.2.2 1 (by omega)).trans hT.1
          have h2_83 : mem72 2 = .inl (cy 0, 240, .inl f) := (hRX74.1.2.2 2 (by omega)).trans hT.2.2
          have h5_84 := hRX74.1.1.2.1
          have hbd90 := hRX74.1.1.1
          obtain ⟨S85, g86, hS_87, h220_88, h221_89⟩ := hRX74.1.1.2.2.2.2.2.2
          obtain ⟨k91, lo92, hi93, as94, pa95, ne96, he_97, ho_98⟩ := (hRX74.1.1.2.2.2.2.2.1 kk (by omega)).1
          have hel99 := (hfr76 (20 + 2 * kk) (by omega)).trans h_mem64
          have hfr100 : ∀ i, 7 ≤ i ∧ i < 222 ∧ i ≠ 20 + 2 * kk → mem72 i = mem i := fun i q => (hfr76 i (by omega)).trans (hfr69 i q)
          refine f_putN Bx hP hD hS (by omega) hel99 rfl inEl tyEl okEl nmEl 2 (by decide) kw_82 rfl rfl rfl rfl (Nat.le_of_ble_eq_true rfl) d_Rd_readRepeat_48 (fun H locs hP hS => ?_)
          obtain ⟨mem101, e_mem101⟩ : ∃ z, z = va_up mem72 ((20 + 2 * kk)) (.inr (2, [.int (ka), .int (0), .int ((-1)), q1, q2, q3, .ref (ad (21 + 2 * kk))])) := ⟨_, rfl⟩
          have hP : va_P D vcl (fw n ad mem101) H := by rw [e_mem101]; exact hP
          have hD : va_D (Az sz) (fw n ad mem101) := fw_D hD
          have h_mem101 : mem101 ((20 + 2 * kk)) = .inr (2, [.int (ka), .int (0), .int ((-1)), q1, q2, q3, .ref (ad (21 + 2 * kk))]) := by rw [e_mem101, va_up_self]
          have hh102 := (va_up_ne mem72 (.inr (2, [.int (ka), .int (0), .int ((-1)), q1, q2, q3, .ref (ad (21 + 2 * kk))])) (show (222 : Nat) ≠ (20 + 2 * kk) by first | decide | assumption | omega)).trans h9_81
          rw [← e_mem101] at hh102
          have hh103 := (va_up_ne mem72 (.inr (2, [.int (ka), .int (0), .int ((-1)), q1, q2, q3, .ref (ad (21 + 2 * kk))])) (show (1 : Nat) ≠ (20 + 2 * kk) by first | decide | assumption | omega)).trans h1_82
          rw [← e_mem101] at hh103
          have hh104 := (va_up_ne mem72 (.inr (2, [.int (ka), .int (0), .int ((-1)), q1, q2, q3, .ref (ad (21 + 2 * kk))])) (show (5 : Nat) ≠ (20 + 2 * kk) by first | decide | assumption | omega)).trans h5_84
          rw [← e_mem101] at hh104
          have hh105 := (va_up_ne mem72 (.inr (2, [.int (ka), .int (0), .int ((-1)), q1, q2, q3, .ref (ad (21 + 2 * kk))])) (show (220 : Nat) ≠ (20 + 2 * kk) by first | decide | assumption | omega)).trans h220_88
          rw [← e_mem101] at hh105
          have hfr106 : ∀ i, 7 ≤ i ∧ i < 222 ∧ i ≠ 20 + 2 * kk → mem101 i = mem i := fun i q => (show mem101 i = mem72 i by rw [e_mem101]; exact va_up_ne _ _ (by omega)).trans (hfr100 i q)
          have hRX107 : RX cy ad lim (a + 1) (R) (Ec) (to) (nm) m0 mem101 := by rw [e_mem101]; exact hRX74.el (by omega) (hRX74.1.mk (by omega) (hRX74.1.1.upEl (by omega) hz8))
          refine lv_goto Bx.1 Bx.2.1 d_Rd_readRepeat_51 rfl ?_
          refine lv_aload_n Bx.1 Bx.2.1 d_Rd_readRepeat_64 rfl (lv_at hl 2 rfl) ?_
          refine lv_aload_n Bx.1 Bx.2.1 d_Rd_readRepeat_65 rfl (lv_at hl 3 rfl) ?_
          refine f_getN Bx hP (by omega) h_mem101 rfl inEl 2 (by decide) kw_82 rfl rfl d_Rd_readRepeat_66 ?_
          refine lv_iconst (v := -1) Bx.1 Bx.2.1 d_Rd_readRepeat_69 (by decide) ?_
          refine lv_icmp_eq Bx.1 Bx.2.1 d_Rd_readRepeat_70 rfl (fun hb108 => ?_) (fun hb108 => ?_)
          · refine lv_iconst (v := 1) Bx.1 Bx.2.1 d_Rd_readRepeat_84 (by decide) ?_
            refine lv_goto Bx.1 Bx.2.1 d_Rd_readRepeat_85 rfl ?_
            refine lv_iload_n Bx.1 Bx.2.1 d_Rd_readRepeat_89 rfl (lv_at hl 1 rfl) ?_
            refine f_xVv (na := 2) (As := [.int (1), .int (nI a)]) (rest := []) Bx hml E hP hD hS (by omega) hh102 rfl (m_Rd_needReadableX l hlt hn hT hf hRX107 (by omega)) kw_360 kw_362 sel_Rd_needReadable kw_6 kw_363 (by decide +kernel) ⟨rfl, rfl⟩ ⟨Nat.le_of_ble_eq_true rfl, Nat.le_of_ble_eq_true rfl⟩ rfl hl.1 (Nat.le_of_ble_eq_true rfl) d_Rd_readRepeat_90 ⟨Nat.le_of_ble_eq_true rfl, Nat.le_of_ble_eq_true rfl⟩ (fun X ce q9 memx H locs hx9 hP hS g1 g2 g3 => f_out hlocks hno hP hS g1 g2 g3 ⟨Nat.le_of_ble_eq_true rfl, Nat.le_of_ble_eq_true rfl⟩ ⟨hx9.1, absurd hx9.2 (by decide)⟩) (fun mem110 H locs hq hP hS => ?_)
            have hD : va_D (Az sz) (fw n ad mem110) := fw_D hD
            obtain ⟨hqe, hg111⟩ := hq
            rw [hqe] at hP hD
            exact x_vret hx hb hlocks hr (⟨0, a, -1, a + 1, rpt1_n hdg26, rpt2_x (rpt1_n hdg26) hb54 hdg77, fun z => z.1 (by decide), by omega, by omega, hRX107, h_mem101, hfr106⟩) hP hS d_Rd_readRepeat_93
          · exact absurd hb108 (by decide)
        · subst hrv78
          have hlt112 := hereF_lt (dgF_ne hdg77)
          rw [hae79] at hRX74
          obtain ⟨ft113, h9_114⟩ := hRX74.2.1
          have h1_115 : mem72 1 = .inr (0, [.ref (ad 2), .int (nI Z)]) := (hRX74.1.2.2 1 (by omega)).trans hT.1
          have h2_116 : mem72 2 = .inl (cy 0, 240, .inl f) := (hRX74.1.2.2 2 (by omega)).trans hT.2.2
          have h5_117 := hRX74.1.1.2.1
          have hbd123 := hRX74.1.1.1
          obtain ⟨S118, g119, hS_120, h220_121, h221_122⟩ := hRX74.1.1.2.2.2.2.2.2
          obtain ⟨k124, lo125, hi126, as127, pa128, ne129, he_130, ho_131⟩ := (hRX74.1.1.2.2.2.2.2.1 kk (by omega)).1
          have hel132 := (hfr76 (20 + 2 * kk) (by omega)).trans h_mem64
          have hfr133 : ∀ i, 7 ≤ i ∧ i < 222 ∧ i ≠ 20 + 2 * kk → mem72 i = mem i := fun i q => (hfr76 i (by omega)).trans (hfr69 i q)
          refine f_putN Bx hP hD hS (by omega) hel132 rfl inEl tyEl okEl nmEl 2 (by decide) kw_82 rfl rfl rfl rfl (Nat.le_of_ble_eq_true rfl) d_Rd_readRepeat_48 (fun H locs hP hS => ?_)
          obtain ⟨mem134, e_mem134⟩ : ∃ z, z = va_up mem72 ((20 + 2 * kk)) (.inr (2, [.int (ka), .int (0), .int ((hereF Z T (a + 1) - 48)), q1, q2, q3, .ref (ad (21 + 2 * kk))])) := ⟨_, rfl⟩
          have hP : va_P D vcl (fw n ad mem134) H := by rw [e_mem134]; exact hP
          have hD : va_D (Az sz) (fw n ad mem134) := fw_D hD
          have h_mem134 : mem134 ((20 + 2 * kk)) = .inr (2, [.int (ka), .int (0), .int ((hereF Z T (a + 1) - 48)), q1, q2, q3, .ref (ad (21 + 2 * kk))]) := by rw [e_mem134, va_up_self]
          have hh135 := (va_up_ne mem72 (.inr (2, [.int (ka), .int (0), .int ((hereF Z T (a + 1) - 48)), q1, q2, q3, .ref (ad (21 + 2 * kk))])) (show (222 : Nat) ≠ (20 + 2 * kk) by first | decide | assumption | omega)).trans h9_114
          rw [← e_mem134] at hh135
          have hh136 := (va_up_ne mem72 (.inr (2, [.int (ka), .int (0), .int ((hereF Z T (a + 1) - 48)), q1, q2, q3, .ref (ad (21 + 2 * kk))])) (show (1 : Nat) ≠ (20 + 2 * kk) by first | decide | assumption | omega)).trans h1_115
          rw [← e_mem134] at hh136
          have hh137 := (va_up_ne mem72 (.inr (2, [.int (ka), .int (0), .int ((hereF Z T (a + 1) - 48)), q1, q2, q3, .ref (ad (21 + 2 * kk))])) (show (5 : Nat) ≠ (20 + 2 * kk) by first | decide | assumption | omega)).trans h5_117
          rw [← e_mem134] at hh137
          have hh138 := (va_up_ne mem72 (.inr (2, [.int (ka), .int (0), .int ((hereF Z T (a + 1) - 48)), q1, q2, q3, .ref (ad (21 + 2 * kk))])) (show (220 : Nat) ≠ (20 + 2 * kk) by first | decide | assumption | omega)).trans h220_121
          rw [← e_mem134] at hh138
          have hfr139 : ∀ i, 7 ≤ i ∧ i < 222 ∧ i ≠ 20 + 2 * kk → mem134 i = mem i := fun i q => (show mem134 i = mem72 i by rw [e_mem134]; exact va_up_ne _ _ (by omega)).trans (hfr133 i q)
          have hRX140 : RX cy ad lim (a + 1 + 1) (R) (Ec) (to) (nm) m0 mem134 := by rw [e_mem134]; exact hRX74.el (by omega) (hRX74.1.mk (by omega) (hRX74.1.1.upEl (by omega) hz8))
          refine lv_goto Bx.1 Bx.2.1 d_Rd_readRepeat_51 rfl ?_
          refine lv_aload_n Bx.1 Bx.2.1 d_Rd_readRepeat_64 rfl (lv_at hl 2 rfl) ?_
          refine lv_aload_n Bx.1 Bx.2.1 d_Rd_readRepeat_65 rfl (lv_at hl 3 rfl) ?_
          refine f_getN Bx hP (by omega) h_mem134 rfl inEl 2 (by decide) kw_82 rfl rfl d_Rd_readRepeat_66 ?_
          refine lv_iconst (v := -1) Bx.1 Bx.2.1 d_Rd_readRepeat_69 (by decide) ?_
          refine lv_icmp_eq Bx.1 Bx.2.1 d_Rd_readRepeat_70 rfl (fun hb141 => ?_) (fun hb141 => ?_)
          · exact absurd (by rw [hb141]; decide) (dgF_sub hdg77)
          · refine lv_aload_n Bx.1 Bx.2.1 d_Rd_readRepeat_73 rfl (lv_at hl 3 rfl) ?_
            refine f_getN Bx hP (by omega) h_mem134 rfl inEl 1 (by decide) kw_79 rfl rfl d_Rd_readRepeat_74 ?_
            refine lv_aload_n Bx.1 Bx.2.1 d_Rd_readRepeat_77 rfl (lv_at hl 3 rfl) ?_
            refine f_getN Bx hP (by omega) h_mem134 rfl inEl 2 (by decide) kw_82 rfl rfl d_Rd_readRepeat_78 ?_
            refine lv_icmp_gt Bx.1 Bx.2.1 d_Rd_readRepeat_81 rfl (fun hb142 => ?_) (fun hb142 => ?_)
            · refine lv_iconst (v := 0) Bx.1 Bx.2.1 d_Rd_readRepeat_88 (by decide) ?_
              refine lv_iload_n Bx.1 Bx.2.1 d_Rd_readRepeat_89 rfl (lv_at hl 1 rfl) ?_
              refine f_xVv (na := 2) (As := [.int (0), .int (nI a)]) (rest := []) Bx hml E hP hD hS (by omega) hh135 rfl (m_Rd_needReadableX l hlt hn hT hf hRX140 (by omega)) kw_360 kw_362 sel_Rd_needReadable kw_6 kw_363 (by decide +kernel) ⟨rfl, rfl⟩ ⟨Nat.le_of_ble_eq_true rfl, Nat.le_of_ble_eq_true rfl⟩ rfl hl.1 (Nat.le_of_ble_eq_true rfl) d_Rd_readRepeat_90 ⟨Nat.le_of_ble_eq_true rfl, Nat.le_of_ble_eq_true rfl⟩ (fun X ce q9 memx H locs hx9 hP hS g1 g2 g3 => f_out hlocks hno hP hS g1 g2 g3 ⟨Nat.le_of_ble_eq_true rfl, Nat.le_of_ble_eq_true rfl⟩ ⟨hx9.1, ⟨0, a, hereF Z T (a + 1) - 48, a + 1 + 1, rpt1_n hdg26, rpt2_d (rpt1_n hdg26) hb54 hdg77, dgF_sub hdg77, hb142⟩⟩) (fun mem144 H locs hq hP hS => ?_)
              have hD : va_D (Az sz) (fw n ad mem144) := fw_D hD
              obtain ⟨hqe, hg145⟩ := hq
              rw [hqe] at hP hD
              exact absurd rfl hg145
            · refine lv_iconst (v := 1) Bx.1 Bx.2.1 d_Rd_readRepeat_84 (by decide) ?_
              refine lv_goto Bx.1 Bx.2.1 d_Rd_readRepeat_85 rfl ?_
              refine lv_iload_n Bx.1 Bx.2.1 d_Rd_readRepeat_89 rfl (lv_at hl 1 rfl) ?_
              refine f_xVv (na := 2) (As := [.int (1), .int (nI a)]) (rest := []) Bx hml E hP hD hS (by omega) hh135 rfl (m_Rd_needReadableX l hlt hn hT hf hRX140 (by omega)) kw_360 kw_362 sel_Rd_needReadable kw_6 kw_363 (by decide +kernel) ⟨rfl, rfl⟩ ⟨Nat.le_of_ble_eq_true rfl, Nat.le_of_ble_eq_true rfl⟩ rfl hl.1 (Nat.le_of_ble_eq_true rfl) d_Rd_readRepeat_90 ⟨Nat.le_of_ble_eq_true rfl, Nat.le_of_ble_eq_true rfl⟩ (fun X ce q9 memx H locs hx9 hP hS g1 g2 g3 => f_out hlocks hno hP hS g1 g2 g3 ⟨Nat.le_of_ble_eq_true rfl, Nat.le_of_ble_eq_true rfl⟩ ⟨hx9.1, absurd hx9.2 (by decide)⟩) (fun mem147 H locs hq hP hS => ?_)
              have hD : va_D (Az sz) (fw n ad mem147) := fw_D hD
              obtain ⟨hqe, hg148⟩ := hq
              rw [hqe] at hP hD
              exact x_vret hx hb hlocks hr (⟨0, a, hereF Z T (a + 1) - 48, a + 1 + 1, rpt1_n hdg26, rpt2_d (rpt1_n hdg26) hb54 hdg77, fun z => absurd z.2 (hb142), by omega, by omega, hRX140, h_mem134, hfr139⟩) hP hS d_Rd_readRepeat_93
  · subst hrv27
    have hlt149 := hereF_lt (dgF_ne hdg26)
    rw [hae28] at hRX23
    obtain ⟨ft150, h9_151⟩ := hRX23.2.1
    have h1_152 : mem21 1 = .inr (0, [.ref (ad 2), .int (nI Z)]) := (hRX23.1.2.2 1 (by omega)).trans hT.1
    have h2_153 : mem21 2 = .inl (cy 0, 240, .inl f) := (hRX23.1.2.2 2 (by omega)).trans hT.2.2
    have h5_154 := hRX23.1.1.2.1
    have hbd160 := hRX23.1.1.1
    obtain ⟨S155, g156, hS_157, h220_158, h221_159⟩ := hRX23.1.1.2.2.2.2.2.2
    obtain ⟨k161, lo162, hi163, as164, pa165, ne166, he_167, ho_168⟩ := (hRX23.1.1.2.2.2.2.2.1 kk (by omega)).1
    have hel169 := (hfr25 (20 + 2 * kk) (by omega)).trans hcl
    have hfr170 : ∀ i, 7 ≤ i ∧ i < 222 ∧ i ≠ 20 + 2 * kk → mem21 i = mem i := fun i q => (hfr25 i (by omega)).trans (hfr0 i q)
    refine lv_istore_n (lv' := [(3, .int ((hereF Z T (a) - 48))), (2, .int (nI a)), (0, .ref (ad 222)), (1, .ref (ad (20 + 2 * kk)))]) Bx.1 Bx.2.1 d_Rd_readRepeat_9 rfl hl (by decide) rfl (fun ls hl => ?_)
    refine lv_aload_n Bx.1 Bx.2.1 d_Rd_readRepeat_10 rfl (lv_at hl 2 rfl) ?_
    refine f_callVi (na := 0) (As := []) (rest := []) Bx hml E hP hD hS (by omega) h9_151 rfl (m_Rd_peekX l hn hT hf hRX23 (by omega)) kw_353 kw_355 sel_Rd_peek kw_6 kw_356 (by decide +kernel) ⟨rfl, rfl⟩ ⟨Nat.le_of_ble_eq_true rfl, Nat.le_of_ble_eq_true rfl⟩ rfl hl.1 (Nat.le_of_ble_eq_true rfl) d_Rd_readRepeat_11 ⟨Nat.le_of_ble_eq_true rfl, Nat.le_of_ble_eq_true rfl⟩ (fun r172 mem173 H locs hq hP hS => ?_)
    have hD : va_D (Az sz) (fw n ad mem173) := fw_D hD
    obtain ⟨hqe, hpk171⟩ := hq
    rw [hqe] at hP hD
    subst hpk171
    refine lv_bipush (v := 42) Bx.1 Bx.2.1 d_Rd_readRepeat_14 (by decide) ?_
    refine lv_icmp_ne Bx.1 Bx.2.1 d_Rd_readRepeat_16 rfl (fun hb175 => ?_) (fun hb175 => ?_)
    · refine lv_aload_n Bx.1 Bx.2.1 d_Rd_readRepeat_54 rfl (lv_at hl 3 rfl) ?_
      refine lv_iload_n Bx.1 Bx.2.1 d_Rd_readRepeat_55 rfl (lv_at hl 0 rfl) ?_
      refine f_putN Bx hP hD hS (by omega) hel169 rfl inEl tyEl okEl nmEl 1 (by decide) kw_79 rfl rfl rfl rfl (Nat.le_of_ble_eq_true rfl) d_Rd_readRepeat_56 (fun H locs hP hS => ?_)
      obtain ⟨mem176, e_mem176⟩ : ∃ z, z = va_up mem21 ((20 + 2 * kk)) (.inr (2, [.int (ka), .int ((hereF Z T (a) - 48)), .int (kc), q1, q2, q3, .ref (ad (21 + 2 * kk))])) := ⟨_, rfl⟩
      have hP : va_P D vcl (fw n ad mem176) H := by rw [e_mem176]; exact hP
      have hD : va_D (Az sz) (fw n ad mem176) := fw_D hD
      have h_mem176 : mem176 ((20 + 2 * kk)) = .inr (2, [.int (ka), .int ((hereF Z T (a) - 48)), .int (kc), q1, q2, q3, .ref (ad (21 + 2 * kk))]) := by rw [e_mem176, va_up_self]
      have hh177 := (va_up_ne mem21 (.inr (2, [.int (ka), .int ((hereF Z T (a) - 48)), .int (kc), q1, q2, q3, .ref (ad (21 + 2 * kk))])) (show (222 : Nat) ≠ (20 + 2 * kk) by first | decide | assumption | omega)).trans h9_151
      rw [← e_mem176] at hh177
      have hh178 := (va_up_ne mem21 (.inr (2, [.int (ka), .int ((hereF Z T (a) - 48)), .int (kc), q1, q2, q3, .ref (ad (21 + 2 * kk))])) (show (1 : Nat) ≠ (20 + 2 * kk) by first | decide | assumption | omega)).trans h1_152
      rw [← e_mem176] at hh178
      have hh179 := (va_up_ne mem21 (.inr (2, [.int (ka), .int ((hereF Z T (a) - 48)), .int (kc), q1, q2, q3, .ref (ad (21 + 2 * kk))])) (show (5 : Nat) ≠ (20 + 2 * kk) by first | decide | assumption | omega)).trans h5_154
      rw [← e_mem176] at hh179
      have hh180 := (va_up_ne mem21 (.inr (2, [.int (ka), .int ((hereF Z T (a) - 48)), .int (kc), q1, q2, q3, .ref (ad (21 + 2 * kk))])) (show (220 : Nat) ≠ (20 + 2 * kk) by first | decide | assumption | omega)).trans h220_158
      rw [← e_mem176] at hh180
      have hfr181 : ∀ i, 7 ≤ i ∧ i < 222 ∧ i ≠ 20 + 2 * kk → mem176 i = mem i := fun i q => (show mem176 i = mem21 i by rw [e_mem176]; exact va_up_ne _ _ (by omega)).trans (hfr170 i q)
      have hRX182 : RX cy ad lim (a + 1) (R) (Ec) (to) (nm) m0 mem176 := by rw [e_mem176]; exact hRX23.el (by omega) (hRX23.1.mk (by omega) (hRX23.1.1.upEl (by omega) hz8))
      refine lv_aload_n Bx.1 Bx.2.1 d_Rd_readRepeat_59 rfl (lv_at hl 3 rfl) ?_
      refine lv_iload_n Bx.1 Bx.2.1 d_Rd_readRepeat_60 rfl (lv_at hl 0 rfl) ?_
      refine f_putN Bx hP hD hS (by omega) h_mem176 rfl inEl tyEl okEl nmEl 2 (by decide) kw_82 rfl rfl rfl rfl (Nat.le_of_ble_eq_true rfl) d_Rd_readRepeat_61 (fun H locs hP hS => ?_)
      obtain ⟨mem183, e_mem183⟩ : ∃ z, z = va_up mem176 ((20 + 2 * kk)) (.inr (2, [.int (ka), .int ((hereF Z T (a) - 48)), .int ((hereF Z T (a) - 48)), q1, q2, q3, .ref (ad (21 + 2 * kk))])) := ⟨_, rfl⟩
      have hP : va_P D vcl (fw n ad mem183) H := by rw [e_mem183]; exact hP
      have hD : va_D (Az sz) (fw n ad mem183) := fw_D hD
      have h_mem183 : mem183 ((20 + 2 * kk)) = .inr (2, [.int (ka), .int ((hereF Z T (a) - 48)), .int ((hereF Z T (a) - 48)), q1, q2, q3, .ref (ad (21 + 2 * kk))]) := by rw [e_mem183, va_up_self]
      have hh184 := (va_up_ne mem176 (.inr (2, [.int (ka), .int ((hereF Z T (a) - 48)), .int ((hereF Z T (a) - 48)), q1, q2, q3, .ref (ad (21 + 2 * kk))])) (show (222 : Nat) ≠ (20 + 2 * kk) by first | decide | assumption | omega)).trans hh177
      rw [← e_mem183] at hh184
      have hh185 := (va_up_ne mem176 (.inr (2, [.int (ka), .int ((hereF Z T (a) - 48)), .int ((hereF Z T (a) - 48)), q1, q2, q3, .ref (ad (21 + 2 * kk))])) (show (1 : Nat) ≠ (20 + 2 * kk) by first | decide | assumption | omega)).trans hh178
      rw [← e_mem183] at hh185
      have hh186 := (va_up_ne mem176 (.inr (2, [.int (ka), .int ((hereF Z T (a) - 48)), .int ((hereF Z T (a) - 48)), q1, q2, q3, .ref (ad (21 + 2 * kk))])) (show (5 : Nat) ≠ (20 + 2 * kk) by first | decide | assumption | omega)).trans hh179
      rw [← e_mem183] at hh186
      have hh187 := (va_up_ne mem176 (.inr (2, [.int (ka), .int ((hereF Z T (a) - 48)), .int ((hereF Z T (a) - 48)), q1, q2, q3, .ref (ad (21 + 2 * kk))])) (show (220 : Nat) ≠ (20 + 2 * kk) by first | decide | assumption | omega)).trans hh180
      rw [← e_mem183] at hh187
      have hfr188 : ∀ i, 7 ≤ i ∧ i < 222 ∧ i ≠ 20 + 2 * kk → mem183 i = mem i := fun i q => (show mem183 i = mem176 i by rw [e_mem183]; exact va_up_ne _ _ (by omega)).trans (hfr181 i q)
      have hRX189 : RX cy ad lim (a + 1) (R) (Ec) (to) (nm) m0 mem183 := by rw [e_mem183]; exact hRX182.el (by omega) (hRX182.1.mk (by omega) (hRX182.1.1.upEl (by omega) hz8))
      refine lv_aload_n Bx.1 Bx.2.1 d_Rd_readRepeat_64 rfl (lv_at hl 2 rfl) ?_
      refine lv_aload_n Bx.1 Bx.2.1 d_Rd_readRepeat_65 rfl (lv_at hl 3 rfl) ?_
      refine f_getN Bx hP (by omega) h_mem183 rfl inEl 2 (by decide) kw_82 rfl rfl d_Rd_readRepeat_66 ?_
      refine lv_iconst (v := -1) Bx.1 Bx.2.1 d_Rd_readRepeat_69 (by decide) ?_
      refine lv_icmp_eq Bx.1 Bx.2.1 d_Rd_readRepeat_70 rfl (fun hb190 => ?_) (fun hb190 => ?_)
      · exact absurd (by rw [hb190]; decide) (dgF_sub hdg26)
      · refine lv_aload_n Bx.1 Bx.2.1 d_Rd_readRepeat_73 rfl (lv_at hl 3 rfl) ?_
        refine f_getN Bx hP (by omega) h_mem183 rfl inEl 1 (by decide) kw_79 rfl rfl d_Rd_readRepeat_74 ?_
        refine lv_aload_n Bx.1 Bx.2.1 d_Rd_readRepeat_77 rfl (lv_at hl 3 rfl) ?_
        refine f_getN Bx hP (by omega) h_mem183 rfl inEl 2 (by decide) kw_82 rfl rfl d_Rd_readRepeat_78 ?_
        refine lv_icmp_gt Bx.1 Bx.2.1 d_Rd_readRepeat_81 rfl (fun hb191 => ?_) (fun hb191 => ?_)
        · refine lv_iconst (v := 0) Bx.1 Bx.2.1 d_Rd_readRepeat_88 (by decide) ?_
          refine lv_iload_n Bx.1 Bx.2.1 d_Rd_readRepeat_89 rfl (lv_at hl 1 rfl) ?_
          refine f_xVv (na := 2) (As := [.int (0), .int (nI a)]) (rest := []) Bx hml E hP hD hS (by omega) hh184 rfl (m_Rd_needReadableX l hlt hn hT hf hRX189 (by omega)) kw_360 kw_362 sel_Rd_needReadable kw_6 kw_363 (by decide +kernel) ⟨rfl, rfl⟩ ⟨Nat.le_of_ble_eq_true rfl, Nat.le_of_ble_eq_true rfl⟩ rfl hl.1 (Nat.le_of_ble_eq_true rfl) d_Rd_readRepeat_90 ⟨Nat.le_of_ble_eq_true rfl, Nat.le_of_ble_eq_true rfl⟩ (fun X ce q9 memx H locs hx9 hP hS g1 g2 g3 => f_out hlocks hno hP hS g1 g2 g3 ⟨Nat.le_of_ble_eq_true rfl, Nat.le_of_ble_eq_true rfl⟩ ⟨hx9.1, ⟨hereF Z T a - 48, a + 1, hereF Z T a - 48, a + 1, rpt1_d hdg26, rpt2_n (rpt1_d hdg26) hb175, dgF_sub hdg26, hb191⟩⟩) (fun mem193 H locs hq hP hS => ?_)
          have hD : va_D (Az sz) (fw n ad mem193) := fw_D hD
          obtain ⟨hqe, hg194⟩ := hq
          rw [hqe] at hP hD
          exact absurd rfl hg194
        · refine lv_iconst (v := 1) Bx.1 Bx.2.1 d_Rd_readRepeat_84 (by decide) ?_
          refine lv_goto Bx.1 Bx.2.1 d_Rd_readRepeat_85 rfl ?_
          refine lv_iload_n Bx.1 Bx.2.1 d_Rd_readRepeat_89 rfl (lv_at hl 1 rfl) ?_
          refine f_xVv (na := 2) (As := [.int (1), .int (nI a)]) (rest := []) Bx hml E hP hD hS (by omega) hh184 rfl (m_Rd_needReadableX l hlt hn hT hf hRX189 (by omega)) kw_360 kw_362 sel_Rd_needReadable kw_6 kw_363 (by decide +kernel) ⟨rfl, rfl⟩ ⟨Nat.le_of_ble_eq_true rfl, Nat.le_of_ble_eq_true rfl⟩ rfl hl.1 (Nat.le_of_ble_eq_true rfl) d_Rd_readRepeat_90 ⟨Nat.le_of_ble_eq_true rfl, Nat.le_of_ble_eq_true rfl⟩ (fun X ce q9 memx H locs hx9 hP hS g1 g2 g3 => f_out hlocks hno hP hS g1 g2 g3 ⟨Nat.le_of_ble_eq_true rfl, Nat.le_of_ble_eq_true rfl⟩ ⟨hx9.1, absurd hx9.2 (by decide)⟩) (fun mem196 H locs hq hP hS => ?_)
          have hD : va_D (Az sz) (fw n ad mem196) := fw_D hD
          obtain ⟨hqe, hg197⟩ := hq
          rw [hqe] at hP hD
          exact x_vret hx hb hlocks hr (⟨hereF Z T a - 48, a + 1, hereF Z T a - 48, a + 1, rpt1_d hdg26, rpt2_n (rpt1_d hdg26) hb175, fun z => absurd z.2 (hb191), by omega, by omega, hRX189, h_mem183, hfr188⟩) hP hS d_Rd_readRepeat_93
    · have hlt198 := hereF_lt (by rw [hb175]; decide)
      refine lv_aload_n Bx.1 Bx.2.1 d_Rd_readRepeat_19 rfl (lv_at hl 2 rfl) ?_
      refine lv_dup Bx.1 Bx.2.1 d_Rd_readRepeat_20 rfl ?_
      refine f_get Bx hP (by omega) h9_151 rfl inRd 2 (by decide) kw_146 rfl rfl d_Rd_readRepeat_21 ?_
      refine lv_iconst (v := 1) Bx.1 Bx.2.1 d_Rd_readRepeat_24 (by decide) ?_
      refine lv_iadd Bx.1 Bx.2.1 d_Rd_readRepeat_25 ?_
      rw [show nI (a + 1) + 1 = nI (a + 1 + 1) from nI_add (a + 1) (1)]
      refine f_put Bx hP hD hS (by omega) h9_151 rfl inRd tyRd okRd nmRd 2 (by decide) kw_146 rfl rfl rfl rfl (Nat.le_of_ble_eq_true rfl) d_Rd_readRepeat_26 (fun H locs hP hS => ?_)
      obtain ⟨mem199, e_mem199⟩ : ∃ z, z = va_up mem21 (222) (.inr (4, [.ref (ad 1), .ref (ad 5), .int (nI (a + 1 + 1)), .int (ft150)])) := ⟨_, rfl⟩
      have hP : va_P D vcl (fw n ad mem199) H := by rw [e_mem199]; exact hP
      have hD : va_D (Az sz) (fw n ad mem199) := fw_D hD
      have h_mem199 : mem199 (222) = .inr (4, [.ref (ad 1), .ref (ad 5), .int (nI (a + 1 + 1)), .int (ft150)]) := by rw [e_mem199, va_up_self]
      have hh200 := (va_up_ne mem21 (.inr (4, [.ref (ad 1), .ref (ad 5), .int (nI (a + 1 + 1)), .int (ft150)])) (show (1 : Nat) ≠ 222 by first | decide | assumption | omega)).trans h1_152
      rw [← e_mem199] at hh200
      have hh201 := (va_up_ne mem21 (.inr (4, [.ref (ad 1), .ref (ad 5), .int (nI (a + 1 + 1)), .int (ft150)])) (show (5 : Nat) ≠ 222 by first | decide | assumption | omega)).trans h5_154
      rw [← e_mem199] at hh201
      have hh202 := (va_up_ne mem21 (.inr (4, [.ref (ad 1), .ref (ad 5), .int (nI (a + 1 + 1)), .int (ft150)])) (show (220 : Nat) ≠ 222 by first | decide | assumption | omega)).trans h220_158
      rw [← e_mem199] at hh202
      have hh203 := (va_up_ne mem21 (.inr (4, [.ref (ad 1), .ref (ad 5), .int (nI (a + 1 + 1)), .int (ft150)])) (show ((20 + 2 * kk) : Nat) ≠ 222 by first | decide | assumption | omega)).trans hel169
      rw [← e_mem199] at hh203
      have hfr204 : ∀ i, 7 ≤ i ∧ i < 222 ∧ i ≠ 20 + 2 * kk → mem199 i = mem i := fun i q => (show mem199 i = mem21 i by rw [e_mem199]; exact va_up_ne _ _ (by omega)).trans (hfr170 i q)
      have hRX205 : RX cy ad lim (a + 1 + 1) (R) (Ec) (to) (nm) m0 mem199 := by rw [e_mem199]; exact hRX23.at
      refine lv_aload_n Bx.1 Bx.2.1 d_Rd_readRepeat_29 rfl (lv_at hl 3 rfl) ?_
      refine lv_iload_n Bx.1 Bx.2.1 d_Rd_readRepeat_30 rfl (lv_at hl 0 rfl) ?_
      refine lv_iconst (v := -1) Bx.1 Bx.2.1 d_Rd_readRepeat_31 (by decide) ?_
      refine lv_icmp_ne Bx.1 Bx.2.1 d_Rd_readRepeat_32 rfl (fun hb206 => ?_) (fun hb206 => ?_)
      · refine lv_iload_n Bx.1 Bx.2.1 d_Rd_readRepeat_39 rfl (lv_at hl 0 rfl) ?_
        refine f_putN Bx hP hD hS (by omega) hh203 rfl inEl tyEl okEl nmEl 1 (by decide) kw_79 rfl rfl rfl rfl (Nat.le_of_ble_eq_true rfl) d_Rd_readRepeat_40 (fun H locs hP hS => ?_)
        obtain ⟨mem207, e_mem207⟩ : ∃ z, z = va_up mem199 ((20 + 2 * kk)) (.inr (2, [.int (ka), .int ((hereF Z T (a) - 48)), .int (kc), q1, q2, q3, .ref (ad (21 + 2 * kk))])) := ⟨_, rfl⟩
        have hP : va_P D vcl (fw n ad mem207) H := by rw [e_mem207]; exact hP
        have hD : va_D (Az sz) (fw n ad mem207) := fw_D hD
        have h_mem207 : mem207 ((20 + 2 * kk)) = .inr (2, [.int (ka), .int ((hereF Z T (a) - 48)), .int (kc), q1, q2, q3, .ref (ad (21 + 2 * kk))]) := by rw [e_mem207, va_up_self]
        have hh208 := (va_up_ne mem199 (.inr (2, [.int (ka), .int ((hereF Z T (a) - 48)), .int (kc), q1, q2, q3, .ref (ad (21 + 2 * kk))])) (show (222 : Nat) ≠ (20 + 2 * kk) by first | decide | assumption | omega)).trans h_mem199
        rw [← e_mem207] at hh208
        have hh209 := (va_up_ne mem199 (.inr (2, [.int (ka), .int ((hereF Z T (a) - 48)), .int (kc), q1, q2, q3, .ref (ad (21 + 2 * kk))])) (show (1 : Nat) ≠ (20 + 2 * kk) by first | decide | assumption | omega)).trans hh200
        rw [← e_mem207] at hh209
        have hh210 := (va_up_ne mem199 (.inr (2, [.int (ka), .int ((hereF Z T (a) - 48)), .int (kc), q1, q2, q3, .ref (ad (21 + 2 * kk))])) (show (5 : Nat) ≠ (20 + 2 * kk) by first | decide | assumption | omega)).trans hh201
        rw [← e_mem207] at hh210
        have hh211 := (va_up_ne mem199 (.inr (2, [.int (ka), .int ((hereF Z T (a) - 48)), .int (kc), q1, q2, q3, .ref (ad (21 + 2 * kk))])) (show (220 : Nat) ≠ (20 + 2 * kk) by first | decide | assumption | omega)).trans hh202
        rw [← e_mem207] at hh211
        have hfr212 : ∀ i, 7 ≤ i ∧ i < 222 ∧ i ≠ 20 + 2 * kk → mem207 i = mem i := fun i q => (show mem207 i = mem199 i by rw [e_mem207]; exact va_up_ne _ _ (by omega)).trans (hfr204 i q)
        have hRX213 : RX cy ad lim (a + 1 + 1) (R) (Ec) (to) (nm) m0 mem207 := by rw [e_mem207]; exact hRX205.el (by omega) (hRX205.1.mk (by omega) (hRX205.1.1.upEl (by omega) hz8))
        refine lv_aload_n Bx.1 Bx.2.1 d_Rd_readRepeat_43 rfl (lv_at hl 3 rfl) ?_
        refine lv_aload_n Bx.1 Bx.2.1 d_Rd_readRepeat_44 rfl (lv_at hl 2 rfl) ?_
        refine f_callVi (na := 0) (As := []) (rest := [.ref (ad (20 + 2 * kk))]) Bx hml E hP hD hS (by omega) hh208 rfl (m_Rd_readDigitX l hn hT hf hRX213 (by omega)) kw_486 kw_488 sel_Rd_readDigit kw_6 kw_489 (by decide +kernel) ⟨rfl, rfl⟩ ⟨Nat.le_of_ble_eq_true rfl, Nat.le_of_ble_eq_true rfl⟩ rfl hl.1 (Nat.le_of_ble_eq_true rfl) d_Rd_readRepeat_45 ⟨Nat.le_of_ble_eq_true rfl, Nat.le_of_ble_eq_true rfl⟩ (fun r214 mem215 H locs hq hP hS => ?_)
        have hD : va_D (Az sz) (fw n ad mem215) := fw_D hD
        obtain ⟨a216, hRX217, hdc218, hfr219⟩ := hq
        rcases hdc218 with ⟨hdg220, hrv221, hae222⟩ | ⟨hdg220, hrv221, hae222⟩
        · subst hrv221
          rw [hae222] at hRX217
          obtain ⟨ft223, h9_224⟩ := hRX217.2.1
          have h1_225 : mem215 1 = .inr (0, [.ref (ad 2), .int (nI Z)]) := (hRX217.1.2.2 1 (by omega)).trans hT.1
          have h2_226 : mem215 2 = .inl (cy 0, 240, .inl f) := (hRX217.1.2.2 2 (by omega)).trans hT.2.2
          have h5_227 := hRX217.1.1.2.1
          have hbd233 := hRX217.1.1.1
          obtain ⟨S228, g229, hS_230, h220_231, h221_232⟩ := hRX217.1.1.2.2.2.2.2.2
          obtain ⟨k234, lo235, hi236, as237, pa238, ne239, he_240, ho_241⟩ := (hRX217.1.1.2.2.2.2.2.1 kk (by omega)).1
          have hel242 := (hfr219 (20 + 2 * kk) (by omega)).trans h_mem207
          have hfr243 : ∀ i, 7 ≤ i ∧ i < 222 ∧ i ≠ 20 + 2 * kk → mem215 i = mem i := fun i q => (hfr219 i (by omega)).trans (hfr212 i q)
          refine f_putN Bx hP hD hS (by omega) hel242 rfl inEl tyEl okEl nmEl 2 (by decide) kw_82 rfl rfl rfl rfl (Nat.le_of_ble_eq_true rfl) d_Rd_readRepeat_48 (fun H locs hP hS => ?_)
          obtain ⟨mem244, e_mem244⟩ : ∃ z, z = va_up mem215 ((20 + 2 * kk)) (.inr (2, [.int (ka), .int ((hereF Z T (a) - 48)), .int ((-1)), q1, q2, q3, .ref (ad (21 + 2 * kk))])) := ⟨_, rfl⟩
          have hP : va_P D vcl (fw n ad mem244) H := by rw [e_mem244]; exact hP
          have hD : va_D (Az sz) (fw n ad mem244) := fw_D hD
          have h_mem244 : mem244 ((20 + 2 * kk)) = .inr (2, [.int (ka), .int ((hereF Z T (a) - 48)), .int ((-1)), q1, q2, q3, .ref (ad (21 + 2 * kk))]) := by rw [e_mem244, va_up_self]
          have hh245 := (va_up_ne mem215 (.inr (2, [.int (ka), .int ((hereF Z T (a) - 48)), .int ((-1)), q1, q2, q3, .ref (ad (21 + 2 * kk))])) (show (222 : Nat) ≠ (20 + 2 * kk) by first | decide | assumption | omega)).trans h9_224
          rw [← e_mem244] at hh245
          have hh246 := (va_up_ne mem215 (.inr (2, [.int (ka), .int ((hereF Z T (a) - 48)), .int ((-1)), q1, q2, q3, .ref (ad (21 + 2 * kk))])) (show (1 : Nat) ≠ (20 + 2 * kk) by first | decide | assumption | omega)).trans h1_225
          rw [← e_mem244] at hh246
          have hh247 := (va_up_ne mem215 (.inr (2, [.int (ka), .int ((hereF Z T (a) - 48)), .int ((-1)), q1, q2, q3, .ref (ad (21 + 2 * kk))])) (show (5 : Nat) ≠ (20 + 2 * kk) by first | decide | assumption | omega)).trans h5_227
          rw [← e_mem244] at hh247
          have hh248 := (va_up_ne mem215 (.inr (2, [.int (ka), .int ((hereF Z T (a) - 48)), .int ((-1)), q1, q2, q3, .ref (ad (21 + 2 * kk))])) (show (220 : Nat) ≠ (20 + 2 * kk) by first | decide | assumption | omega)).trans h220_231
          rw [← e_mem244] at hh248
          have hfr249 : ∀ i, 7 ≤ i ∧ i < 222 ∧ i ≠ 20 + 2 * kk → mem244 i = mem i := fun i q => (show mem244 i = mem215 i by rw [e_mem244]; exact va_up_ne _ _ (by omega)).trans (hfr243 i q)
          have hRX250 : RX cy ad lim (a + 1 + 1) (R) (Ec) (to) (nm) m0 mem244 := by rw [e_mem244]; exact hRX217.el (by omega) (hRX217.1.mk (by omega) (hRX217.1.1.upEl (by omega) hz8))
          refine lv_goto Bx.1 Bx.2.1 d_Rd_readRepeat_51 rfl ?_
          refine lv_aload_n Bx.1 Bx.2.1 d_Rd_readRepeat_64 rfl (lv_at hl 2 rfl) ?_
          refine lv_aload_n Bx.1 Bx.2.1 d_Rd_readRepeat_65 rfl (lv_at hl 3 rfl) ?_
          refine f_getN Bx hP (by omega) h_mem244 rfl inEl 2 (by decide) kw_82 rfl rfl d_Rd_readRepeat_66 ?_
          refine lv_iconst (v := -1) Bx.1 Bx.2.1 d_Rd_readRepeat_69 (by decide) ?_
          refine lv_icmp_eq Bx.1 Bx.2.1 d_Rd_readRepeat_70 rfl (fun hb251 => ?_) (fun hb251 => ?_)
          · refine lv_iconst (v := 1) Bx.1 Bx.2.1 d_Rd_readRepeat_84 (by decide) ?_
            refine lv_goto Bx.1 Bx.2.1 d_Rd_readRepeat_85 rfl ?_
            refine lv_iload_n Bx.1 Bx.2.1 d_Rd_readRepeat_89 rfl (lv_at hl 1 rfl) ?_
            refine f_xVv (na := 2) (As := [.int (1), .int (nI a)]) (rest := []) Bx hml E hP hD hS (by omega) hh245 rfl (m_Rd_needReadableX l hlt hn hT hf hRX250 (by omega)) kw_360 kw_362 sel_Rd_needReadable kw_6 kw_363 (by decide +kernel) ⟨rfl, rfl⟩ ⟨Nat.le_of_ble_eq_true rfl, Nat.le_of_ble_eq_true rfl⟩ rfl hl.1 (Nat.le_of_ble_eq_true rfl) d_Rd_readRepeat_90 ⟨Nat.le_of_ble_eq_true rfl, Nat.le_of_ble_eq_true rfl⟩ (fun X ce q9 memx H locs hx9 hP hS g1 g2 g3 => f_out hlocks hno hP hS g1 g2 g3 ⟨Nat.le_of_ble_eq_true rfl, Nat.le_of_ble_eq_true rfl⟩ ⟨hx9.1, absurd hx9.2 (by decide)⟩) (fun mem253 H locs hq hP hS => ?_)
            have hD : va_D (Az sz) (fw n ad mem253) := fw_D hD
            obtain ⟨hqe, hg254⟩ := hq
            rw [hqe] at hP hD
            exact x_vret hx hb hlocks hr (⟨hereF Z T a - 48, a + 1, -1, a + 1 + 1, rpt1_d hdg26, rpt2_x (rpt1_d hdg26) hb175 hdg220, fun z => z.1 (by decide), by omega, by omega, hRX250, h_mem244, hfr249⟩) hP hS d_Rd_readRepeat_93
          · exact absurd hb251 (by decide)
        · subst hrv221
          have hlt255 := hereF_lt (dgF_ne hdg220)
          rw [hae222] at hRX217
          obtain ⟨ft256, h9_257⟩ := hRX217.2.1
          have h1_258 : mem215 1 = .inr (0, [.ref (ad 2), .int (nI Z)]) := (hRX217.1.2.2 1 (by omega)).trans hT.1
          have h2_259 : mem215 2 = .inl (cy 0, 240, .inl f) := (hRX217.1.2.2 2 (by omega)).trans hT.2.2
          have h5_260 := hRX217.1.1.2.1
          have hbd266 := hRX217.1.1.1
          obtain ⟨S261, g262, hS_263, h220_264, h221_265⟩ := hRX217.1.1.2.2.2.2.2.2
          obtain ⟨k267, lo268, hi269, as270, pa271, ne272, he_273, ho_274⟩ := (hRX217.1.1.2.2.2.2.2.1 kk (by omega)).1
          have hel275 := (hfr219 (20 + 2 * kk) (by omega)).trans h_mem207
          have hfr276 : ∀ i, 7 ≤ i ∧ i < 222 ∧ i ≠ 20 + 2 * kk → mem215 i = mem i := fun i q => (hfr219 i (by omega)).trans (hfr212 i q)
          refine f_putN Bx hP hD hS (by omega) hel275 rfl inEl tyEl okEl nmEl 2 (by decide) kw_82 rfl rfl rfl rfl (Nat.le_of_ble_eq_true rfl) d_Rd_readRepeat_48 (fun H locs hP hS => ?_)
          obtain ⟨mem277, e_mem277⟩ : ∃ z, z = va_up mem215 ((20 + 2 * kk)) (.inr (2, [.int (ka), .int ((hereF Z T (a) - 48)), .int ((hereF Z T (a + 1 + 1) - 48)), q1, q2, q3, .ref (ad (21 + 2 * kk))])) := ⟨_, rfl⟩
          have hP : va_P D vcl (fw n ad mem277) H := by rw [e_mem277]; exact hP
          have hD : va_D (Az sz) (fw n ad mem277) := fw_D hD
          have h_mem277 : mem277 ((20 + 2 * kk)) = .inr (2, [.int (ka), .int ((hereF Z T (a) - 48)), .int ((hereF Z T (a + 1 + 1) - 48)), q1, q2, q3, .ref (ad (21 + 2 * kk))]) := by rw [e_mem277, va_up_self]
          have hh278 := (va_up_ne mem215 (.inr (2, [.int (ka), .int ((hereF Z T (a) - 48)), .int ((hereF Z T (a + 1 + 1) - 48)), q1, q2, q3, .ref (ad (21 + 2 * kk))])) (show (222 : Nat) ≠ (20 + 2 * kk) by first | decide | assumption | omega)).trans h9_257
          rw [← e_mem277] at hh278
          have hh279 := (va_up_ne mem215 (.inr (2, [.int (ka), .int ((hereF Z T (a) - 48)), .int ((hereF Z T (a + 1 + 1) - 48)), q1, q2, q3, .ref (ad (21 + 2 * kk))])) (show (1 : Nat) ≠ (20 + 2 * kk) by first | decide | assumption | omega)).trans h1_258
          rw [← e_mem277] at hh279
          have hh280 := (va_up_ne mem215 (.inr (2, [.int (ka), .int ((hereF Z T (a) - 48)), .int ((hereF Z T (a + 1 + 1) - 48)), q1, q2, q3, .ref (ad (21 + 2 * kk))])) (show (5 : Nat) ≠ (20 + 2 * kk) by first | decide | assumption | omega)).trans h5_260
          rw [← e_mem277] at hh280
          have hh281 := (va_up_ne mem215 (.inr (2, [.int (ka), .int ((hereF Z T (a) - 48)), .int ((hereF Z T (a + 1 + 1) - 48)), q1, q2, q3, .ref (ad (21 + 2 * kk))])) (show (220 : Nat) ≠ (20 + 2 * kk) by first | decide | assumption | omega)).trans h220_264
          rw [← e_mem277] at hh281
          have hfr282 : ∀ i, 7 ≤ i ∧ i < 222 ∧ i ≠ 20 + 2 * kk → mem277 i = mem i := fun i q => (show mem277 i = mem215 i by rw [e_mem277]; exact va_up_ne _ _ (by omega)).trans (hfr276 i q)
          have hRX283 : RX cy ad lim (a + 1 + 1 + 1) (R) (Ec) (to) (nm) m0 mem277 := by rw [e_mem277]; exact hRX217.el (by omega) (hRX217.1.mk (by omega) (hRX217.1.1.upEl (by omega) hz8))
          refine lv_goto Bx.1 Bx.2.1 d_Rd_readRepeat_51 rfl ?_
          refine lv_aload_n Bx.1 Bx.2.1 d_Rd_readRepeat_64 rfl (lv_at hl 2 rfl) ?_
          refine lv_aload_n Bx.1 Bx.2.1 d_Rd_readRepeat_65 rfl (lv_at hl 3 rfl) ?_
          refine f_getN Bx hP (by omega) h_mem277 rfl inEl 2 (by decide) kw_82 rfl rfl d_Rd_readRepeat_66 ?_
          refine lv_iconst (v := -1) Bx.1 Bx.2.1 d_Rd_readRepeat_69 (by decide) ?_
          refine lv_icmp_eq Bx.1 Bx.2.1 d_Rd_readRepeat_70 rfl (fun hb284 => ?_) (fun hb284 => ?_)
          · exact absurd (by rw [hb284]; decide) (dgF_sub hdg220)
          · refine lv_aload_n Bx.1 Bx.2.1 d_Rd_readRepeat_73 rfl (lv_at hl 3 rfl) ?_
            refine f_getN Bx hP (by omega) h_mem277 rfl inEl 1 (by decide) kw_79 rfl rfl d_Rd_readRepeat_74 ?_
            refine lv_aload_n Bx.1 Bx.2.1 d_Rd_readRepeat_77 rfl (lv_at hl 3 rfl) ?_
            refine f_getN Bx hP (by omega) h_mem277 rfl inEl 2 (by decide) kw_82 rfl rfl d_Rd_readRepeat_78 ?_
            refine lv_icmp_gt Bx.1 Bx.2.1 d_Rd_readRepeat_81 rfl (fun hb285 => ?_) (fun hb285 => ?_)
            · refine lv_iconst (v := 0) Bx.1 Bx.2.1 d_Rd_readRepeat_88 (by decide) ?_
              refine lv_iload_n Bx.1 Bx.2.1 d_Rd_readRepeat_89 rfl (lv_at hl 1 rfl) ?_
              refine f_xVv (na := 2) (As := [.int (0), .int (nI a)]) (rest := []) Bx hml E hP hD hS (by omega) hh278 rfl (m_Rd_needReadableX l hlt hn hT hf hRX283 (by omega)) kw_360 kw_362 sel_Rd_needReadable kw_6 kw_363 (by decide +kernel) ⟨rfl, rfl⟩ ⟨Nat.le_of_ble_eq_true rfl, Nat.le_of_ble_eq_true rfl⟩ rfl hl.1 (Nat.le_of_ble_eq_true rfl) d_Rd_readRepeat_90 ⟨Nat.le_of_ble_eq_true rfl, Nat.le_of_ble_eq_true rfl⟩ (fun X ce q9 memx H locs hx9 hP hS g1 g2 g3 => f_out hlocks hno hP hS g1 g2 g3 ⟨Nat.le_of_ble_eq_true rfl, Nat.le_of_ble_eq_true rfl⟩ ⟨hx9.1, ⟨hereF Z T a - 48, a + 1, hereF Z T (a + 1 + 1) - 48, a + 1 + 1 + 1, rpt1_d hdg26, rpt2_d (rpt1_d hdg26) hb175 hdg220, dgF_sub hdg220, hb285⟩⟩) (fun mem287 H locs hq hP hS => ?_)
              have hD : va_D (Az sz) (fw n ad mem287) := fw_D hD
              obtain ⟨hqe, hg288⟩ := hq
              rw [hqe] at hP hD
              exact absurd rfl hg288
            · refine lv_iconst (v := 1) Bx.1 Bx.2.1 d_Rd_readRepeat_84 (by decide) ?_
              refine lv_goto Bx.1 Bx.2.1 d_Rd_readRepeat_85 rfl ?_
              refine lv_iload_n Bx.1 Bx.2.1 d_Rd_readRepeat_89 rfl (lv_at hl 1 rfl) ?_
              refine f_xVv (na := 2) (As := [.int (1), .int (nI a)]) (rest := []) Bx hml E hP hD hS (by omega) hh278 rfl (m_Rd_needReadableX l hlt hn hT hf hRX283 (by omega)) kw_360 kw_362 sel_Rd_needReadable kw_6 kw_363 (by decide +kernel) ⟨rfl, rfl⟩ ⟨Nat.le_of_ble_eq_true rfl, Nat.le_of_ble_eq_true rfl⟩ rfl hl.1 (Nat.le_of_ble_eq_true rfl) d_Rd_readRepeat_90 ⟨Nat.le_of_ble_eq_true rfl, Nat.le_of_ble_eq_true rfl⟩ (fun X ce q9 memx H locs hx9 hP hS g1 g2 g3 => f_out hlocks hno hP hS g1 g2 g3 ⟨Nat.le_of_ble_eq_true rfl, Nat.le_of_ble_eq_true rfl⟩ ⟨hx9.1, absurd hx9.2 (by decide)⟩) (fun mem290 H locs hq hP hS => ?_)
              have hD : va_D (Az sz) (fw n ad mem290) := fw_D hD
              obtain ⟨hqe, hg291⟩ := hq
              rw [hqe] at hP hD
              exact x_vret hx hb hlocks hr (⟨hereF Z T a - 48, a + 1, hereF Z T (a + 1 + 1) - 48, a + 1 + 1 + 1, rpt1_d hdg26, rpt2_d (rpt1_d hdg26) hb175 hdg220, fun z => absurd z.2 (hb285), by omega, by omega, hRX283, h_mem277, hfr282⟩) hP hS d_Rd_readRepeat_93
      · exact absurd (by rw [hb206]; decide) (dgF_sub hdg26)
