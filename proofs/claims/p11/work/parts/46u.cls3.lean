theorem lineF_on {T : Nat → Int32} {L k q : Nat} (hk : k < L) (hr : restF T L k = q) (hq : q < L) (h : T q = 10) : lineF T L k = lineF T L (q + 1) := by
  conv => lhs; rw [lineF]
  rw [dif_pos hk, hr, if_neg (fun z => z.2 h), if_pos hq]
theorem lineF_st {T : Nat → Int32} {L k q : Nat} (hk : k < L) (hr : restF T L k = q) (hq : q < L) (h : T q ≠ 10) : lineF T L k = k := by
  conv => lhs; rw [lineF]
  rw [dif_pos hk, hr, if_pos ⟨hq, h⟩]
theorem lineF_no {T : Nat → Int32} {L k : Nat} (hk : ¬ k < L) : lineF T L k = L := by
  rw [lineF, dif_neg hk]
theorem lineF_en {T : Nat → Int32} {L k : Nat} (hr : k < L → ¬ restF T L k < L) : lineF T L k = L := by
  by_cases hk : k < L
  · rw [lineF, dif_pos hk, if_neg (fun z => hr hk z.1), if_neg (hr hk), lineF_no (by omega)]
  · exact lineF_no hk
theorem lfF_on {T : Nat → Int32} {L k : Nat} (hk : k < L) (h : T k ≠ 10) : lfF T L k = lfF T L (k + 1) := by
  conv => lhs; rw [lfF, if_pos ⟨hk, h⟩]
theorem lfF_no {T : Nat → Int32} {L k : Nat} (h : ¬ (k < L ∧ T k ≠ 10)) : lfF T L k = k := by
  rw [lfF, if_neg h]
theorem hereF_at {T : Nat → Int32} {L k : Nat} (hk : k < L) : hereF L T k = T k := if_pos hk
theorem gapF_lfn {T : Nat → Int32} {L k : Nat} (h : k < L) (hc : T k = 10) (hn : ¬ hereF L T (lineF T L (k + 1)) = 32) : gapF T L k = k := by
  rw [gapF_lf h hc, if_neg]
  rintro ⟨z1, z2⟩
  exact hn (by rw [hereF_at z1]; exact z2)
theorem gapF_lfy {T : Nat → Int32} {L k : Nat} (h : k < L) (hc : T k = 10) (hn : hereF L T (lineF T L (k + 1)) = 32) : lineF T L (k + 1) < L ∧ gapF T L k = gapF T L (lineF T L (k + 1) + 1) := by
  have hl : lineF T L (k + 1) < L := hereF_lt (by rw [hn]; decide)
  have ht : T (lineF T L (k + 1)) = 32 := (hereF_at hl).symm.trans hn
  refine ⟨hl, ?_⟩
  rw [gapF_lf h hc, if_pos ⟨hl, ht⟩, gapF_sp hl ht]
set_option maxHeartbeats 4000000 in
set_option maxRecDepth 100000 in
theorem m_Rd_fullLineFromX (l : Launch) {D : va_G} {cy : Nat → ClassId} {sz n : Nat} {ad : Nat → Nat} {mem : Nat → va_E} {Z a R Ec lim : Nat} {f T : Nat → Int32} {to : Nat → Int32} {nm : Nat → Int64} {m0 : Nat → va_E} {k0 : Nat} (hn : 224 ≤ n) (hT : TX cy ad Z f m0) (hf : ∀ k, k < Z → f k = T k) (hRX : RX cy ad lim a R Ec to nm m0 mem) (hk0 : k0 ≤ 300) : MI l D cy sz n ad y_Rd_fullLineFrom c_Rd_fullLineFrom 6 (some .int) ({ frames := 1, cells := 0, slots := 0, locals := 30 } : Room) mem [.ref (ad 222), .int (nI k0)] (fun r mem' => mem' = mem ∧ r = nI (lineF T Z k0)) := by
  refine Met.ofW (cc := c_Rd_fullLineFrom) (maxL := 6) (ret := (some .int)) (by decide) rfl ?_
  intro p e s m args below meth c s₁ B hml hv
  obtain ⟨rfl, E, hP, hD⟩ := hv
  have hx := B.exec
  have hb := B.bytes
  have hr := B.returns
  have hlocks := B.notSynchronized
  have Bx : MB p s m [.ref (ad 222), .int (nI k0)].toArray c c_Rd_fullLineFrom "AbnfChart$Reader" D cy := ⟨hx, hb, tb_all (atoms_spec B.pre) E.2.1, findClass_of_methodNamed B.named, E.1⟩
  have hS : va_S (Az sz) s.heap s.heap [] := va_S.rf
  have hl := lv_entry ([.ref (ad 222), .int (nI k0)]) (n := 6) (Nat.le_of_ble_eq_true rfl)
  rw [lg_entry_eq]
  generalize (lg_sl ([.ref (ad 222), .int (nI k0)]) ++ List.replicate (6 - (lg_sl ([.ref (ad 222), .int (nI k0)])).length) Slot.unset).toArray = ls at hl ⊢
  have hl : lv_has ls 6 [(0, .ref (ad 222)), (1, .int (nI k0))] := hl
  have hZ9 := hT.2.1
  have hbd9 := hRX.1.1.1
  obtain ⟨ft1, h9_2⟩ := hRX.2.1
  have h1_3 : mem 1 = .inr (0, [.ref (ad 2), .int (nI Z)]) := (hRX.1.2.2 1 (by omega)).trans hT.1
  have h2_4 : mem 2 = .inl (cy 0, 240, .inl f) := (hRX.1.2.2 2 (by omega)).trans hT.2.2
  have h5_5 := hRX.1.1.2.1
  have hbd11 := hRX.1.1.1
  obtain ⟨S6, g7, hS_8, h220_9, h221_10⟩ := hRX.1.1.2.2.2.2.2.2
  refine lv_iload_n Bx.1 Bx.2.1 d_Rd_fullLineFrom_0 rfl (lv_at hl 1 rfl) ?_
  refine lv_istore_n (lv' := [(2, .int (nI k0)), (0, .ref (ad 222)), (1, .int (nI k0))]) Bx.1 Bx.2.1 d_Rd_fullLineFrom_1 rfl hl (by decide) rfl (fun ls hl => ?_)
  refine lv_iconst (v := 0) Bx.1 Bx.2.1 d_Rd_fullLineFrom_2 (by decide) ?_
  refine lv_istore_n (lv' := [(3, .int (0)), (2, .int (nI k0)), (0, .ref (ad 222)), (1, .int (nI k0))]) Bx.1 Bx.2.1 d_Rd_fullLineFrom_3 rfl hl (by decide) rfl (fun ls hl => ?_)
  refine lv_iload_n Bx.1 Bx.2.1 d_Rd_fullLineFrom_4 rfl (lv_at hl 3 rfl) ?_
  refine lv_istore (lv' := [(4, .int (nI k0)), (3, .int (0)), (2, .int (nI k0)), (0, .ref (ad 222)), (1, .int (nI k0))]) Bx.1 Bx.2.1 d_Rd_fullLineFrom_5 hl (by decide) rfl (fun ls hl => ?_)
  have hk09 := hk0
  have loop12 : ∀ (d13 : Nat) (li : Nat) (k : Nat) (co : Bool) (ls : Array Slot) (H : Heap) (locs : List Loc), (Z - k < d13) → (li ≤ k ∧ k ≤ 300) → (lineF T Z li = lineF T Z k0) → (li < Z → restF T Z li = (if co then lfF T Z k else restF T Z k)) → (va_P D vcl (fw n ad mem) H) → (va_D (Az sz) (fw n ad mem)) → (va_S (Az sz) s.heap H locs) → (lv_has ls 6 [(4, .int (nI k)), (3, .int ((if co then 1 else 0))), (2, .int (nI li)), (0, .ref (ad 222)), (1, .int (nI k0))]) → W p l e (headSpec (Cond.code y_Rd_fullLineFrom c_Rd_fullLineFrom 6 (some .int) :: tg) ({ frames := 1, cells := 0, slots := 0, locals := 30 } : Room)).room s m [.ref (ad 222), .int (nI k0)].toArray below meth c H locs 0 0 (MQ below (va_Qi (fun r mem' => mem' = mem ∧ r = nI (lineF T Z k0)) (PP D n ad) (Az sz)) [.ref (ad 222), .int (nI k0)].toArray s 0 0 (Az sz)) (F0 m 7 ls []) := by
    intro d13
    induction d13 with
    | zero => intro li k co ls H locs hmeas18; exact absurd hmeas18 (Nat.not_lt_zero _)
    | succ d13 ih17 =>
      intro li k co ls H locs hmeas18 hz14 hz15 hz16 hP hD hS hl
      cases co with
      | false =>
        have hz15r : li < Z → restF T Z li = restF T Z k := hz16
        have hl : lv_has ls 6 [(4, .int (nI k)), (3, .int (0)), (2, .int (nI li)), (0, .ref (ad 222)), (1, .int (nI k0))] := hl
        refine lv_iload Bx.1 Bx.2.1 d_Rd_fullLineFrom_7 (lv_at hl 0 rfl) ?_
        refine lv_aload_n Bx.1 Bx.2.1 d_Rd_fullLineFrom_9 rfl (lv_at hl 3 rfl) ?_
        refine f_get Bx hP (by omega) h9_2 rfl inRd 0 (by decide) kw_144 rfl rfl d_Rd_fullLineFrom_10 ?_
        refine f_getN Bx hP (by omega) h1_3 rfl inCh 1 (by decide) kw_33 rfl rfl d_Rd_fullLineFrom_13 ?_
        refine lv_icmp_ge Bx.1 Bx.2.1 d_Rd_fullLineFrom_16 rfl (fun hb19 => ?_) (fun hb19 => ?_)
        · have hN20 : Z ≤ k := (nI_leI (by omega) (by omega)).mp (show nI (Z) ≤ nI (k) from hb19)
          refine lv_aload_n Bx.1 Bx.2.1 d_Rd_fullLineFrom_78 rfl (lv_at hl 3 rfl) ?_
          refine f_get Bx hP (by omega) h9_2 rfl inRd 0 (by decide) kw_144 rfl rfl d_Rd_fullLineFrom_79 ?_
          refine f_getN Bx hP (by omega) h1_3 rfl inCh 1 (by decide) kw_33 rfl rfl d_Rd_fullLineFrom_82 ?_
          exact W.iret (v := nI Z) hx hb hr (fun t ht hW => ⟨⟨nI Z, mem, rfl, ⟨rfl, by rw [← hz15, lineF_en (fun h9 => by rw [hz15r h9, restF_no (fun z => by omega) (fun z => by omega)]; omega)]⟩, by show va_P _ _ _ t.heap; rw [ht]; exact hP⟩, hS.F ht⟩) hS.2.2 d_Rd_fullLineFrom_85
        · have hN21 : ¬ Z ≤ k := fun q9 => hb19 (show nI (Z) ≤ nI (k) from (nI_leI (by omega) (by omega)).mpr q9)
          refine lv_aload_n Bx.1 Bx.2.1 d_Rd_fullLineFrom_19 rfl (lv_at hl 3 rfl) ?_
          refine f_get Bx hP (by omega) h9_2 rfl inRd 0 (by decide) kw_144 rfl rfl d_Rd_fullLineFrom_20 ?_
          refine lv_iload Bx.1 Bx.2.1 d_Rd_fullLineFrom_23 (lv_at hl 0 rfl) ?_
          refine f_callVi (na := 1) (As := [.int (nI k)]) (rest := []) Bx hml E hP hD hS (by omega) h1_3 rfl (m_Ch_codeAt l (by omega) h1_3 (by omega) h2_4 (by rw [nI_toInt (by omega)]; omega)) kw_341 kw_342 kw_343 kw_2 kw_344 (by decide +kernel) ⟨rfl, rfl⟩ ⟨Nat.le_of_ble_eq_true rfl, Nat.le_of_ble_eq_true rfl⟩ rfl hl.1 (Nat.le_of_ble_eq_true rfl) d_Rd_fullLineFrom_25 ⟨Nat.le_of_ble_eq_true rfl, Nat.le_of_ble_eq_true rfl⟩ (fun r22 mem23 H locs hq hP hS => ?_)
          have hD : va_D (Az sz) (fw n ad mem23) := fw_D hD
          obtain ⟨hco24, hqe⟩ := hq
          rw [hqe] at hP hD
          rw [code_here hf hT.2.1 (k := k) (by omega)] at hco24
          subst hco24
          have hTk : hereF Z T (k) = T k := hereF_at (by omega)
          have hli : li < Z := by omega
          refine lv_istore (lv' := [(5, .int (hereF Z T (k))), (4, .int (nI k)), (3, .int (0)), (2, .int (nI li)), (0, .ref (ad 222)), (1, .int (nI k0))]) Bx.1 Bx.2.1 d_Rd_fullLineFrom_28 hl (by decide) rfl (fun ls hl => ?_)
          refine lv_iload Bx.1 Bx.2.1 d_Rd_fullLineFrom_30 (lv_at hl 0 rfl) ?_
          refine lv_bipush (v := 10) Bx.1 Bx.2.1 d_Rd_fullLineFrom_32 (by decide) ?_
          refine lv_icmp_ne Bx.1 Bx.2.1 d_Rd_fullLineFrom_34 rfl (fun hb25 => ?_) (fun hb25 => ?_)
          · have hn10 : ¬ T k = 10 := fun z => hb25 (hTk.trans z)
            refine lv_iload Bx.1 Bx.2.1 d_Rd_fullLineFrom_47 (lv_at hl 0 rfl) ?_
            refine lv_bipush (v := 59) Bx.1 Bx.2.1 d_Rd_fullLineFrom_49 (by decide) ?_
            refine lv_icmp_ne Bx.1 Bx.2.1 d_Rd_fullLineFrom_51 rfl (fun hb26 => ?_) (fun hb26 => ?_)
            · have hn59 : ¬ T k = 59 := fun z => hb26 (hTk.trans z)
              refine lv_iload Bx.1 Bx.2.1 d_Rd_fullLineFrom_59 (lv_at hl 0 rfl) ?_
              refine lv_bipush (v := 32) Bx.1 Bx.2.1 d_Rd_fullLineFrom_61 (by decide) ?_
              refine lv_icmp_eq Bx.1 Bx.2.1 d_Rd_fullLineFrom_63 rfl (fun hb27 => ?_) (fun hb27 => ?_)
              · have hlt28 := hereF_lt (by rw [hb27]; decide)
                have h32 : T k = 32 := hTk.symm.trans hb27
                refine lv_iinc (lv' := [(4, .int ((nI k + (1)))), (5, .int (hereF Z T (k))), (3, .int (0)), (2, .int (nI li)), (0, .ref (ad 222)), (1, .int (nI k0))]) Bx.1 Bx.2.1 d_Rd_fullLineFrom_72 hl (k := 1) rfl rfl (by decide) rfl (fun ls hl => ?_)
                rw [show (nI k + (1) : Int32) = nI (k + 1) from nI_1 (k)] at hl
                refine lv_goto Bx.1 Bx.2.1 d_Rd_fullLineFrom_75 rfl ?_
                exact ih17 (li) (k + 1) (false) _ _ _ (by have := hmeas18; omega) (⟨by omega, by omega⟩) (hz15) (fun h9 => (hz15r h9).trans (restF_sp (by omega) h32)) hP hD hS (lv_sub hl [0, 2, 3, 4, 5] rfl)
              · have hn32 : ¬ T k = 32 := fun z => hb27 (hTk.trans z)
                refine lv_iload_n Bx.1 Bx.2.1 d_Rd_fullLineFrom_66 rfl (lv_at hl 2 rfl) ?_
                refine lv_if_ne Bx.1 Bx.2.1 d_Rd_fullLineFrom_67 rfl (fun hb29 => ?_) (fun hb29 => ?_)
                · exact absurd hb29 (by decide)
                · refine lv_iload_n Bx.1 Bx.2.1 d_Rd_fullLineFrom_70 rfl (lv_at hl 3 rfl) ?_
                  exact W.iret (v := nI li) hx hb hr (fun t ht hW => ⟨⟨nI li, mem, rfl, ⟨rfl, by rw [← hz15, lineF_st hli ((hz15r hli).trans (restF_no (fun z => hn32 z.2) (fun z => hn59 z.2))) (by omega) hn10]⟩, by show va_P _ _ _ t.heap; rw [ht]; exact hP⟩, hS.F ht⟩) hS.2.2 d_Rd_fullLineFrom_71
            · have hlt30 := hereF_lt (by rw [hb26]; decide)
              have h59 : T k = 59 := hTk.symm.trans hb26
              refine lv_iconst (v := 1) Bx.1 Bx.2.1 d_Rd_fullLineFrom_54 (by decide) ?_
              refine lv_istore_n (lv' := [(3, .int (1)), (5, .int (hereF Z T (k))), (4, .int (nI k)), (2, .int (nI li)), (0, .ref (ad 222)), (1, .int (nI k0))]) Bx.1 Bx.2.1 d_Rd_fullLineFrom_55 rfl hl (by decide) rfl (fun ls hl => ?_)
              refine lv_goto Bx.1 Bx.2.1 d_Rd_fullLineFrom_56 rfl ?_
              refine lv_iinc (lv' := [(4, .int ((nI k + (1)))), (3, .int (1)), (5, .int (hereF Z T (k))), (2, .int (nI li)), (0, .ref (ad 222)), (1, .int (nI k0))]) Bx.1 Bx.2.1 d_Rd_fullLineFrom_72 hl (k := 2) rfl rfl (by decide) rfl (fun ls hl => ?_)
              rw [show (nI k + (1) : Int32) = nI (k + 1) from nI_1 (k)] at hl
              refine lv_goto Bx.1 Bx.2.1 d_Rd_fullLineFrom_75 rfl ?_
              exact ih17 (li) (k + 1) (true) _ _ _ (by have := hmeas18; omega) (⟨by omega, by omega⟩) (hz15) (fun h9 => (hz15r h9).trans (restF_co (by omega) h59)) hP hD hS (lv_sub hl [0, 1, 3, 4, 5] rfl)
          · have hlt31 := hereF_lt (by rw [hb25]; decide)
            have h10 : T k = 10 := hTk.symm.trans hb25
            refine lv_iload Bx.1 Bx.2.1 d_Rd_fullLineFrom_37 (lv_at hl 1 rfl) ?_
            refine lv_iconst (v := 1) Bx.1 Bx.2.1 d_Rd_fullLineFrom_39 (by decide) ?_
            refine lv_iadd Bx.1 Bx.2.1 d_Rd_fullLineFrom_40 ?_
            rw [show nI k + 1 = nI (k + 1) from nI_add (k) (1)]
            refine lv_istore_n (lv' := [(2, .int (nI (k + 1))), (5, .int (hereF Z T (k))), (4, .int (nI k)), (3, .int (0)), (0, .ref (ad 222)), (1, .int (nI k0))]) Bx.1 Bx.2.1 d_Rd_fullLineFrom_41 rfl hl (by decide) rfl (fun ls hl => ?_)
            refine lv_iconst (v := 0) Bx.1 Bx.2.1 d_Rd_fullLineFrom_42 (by decide) ?_
            refine lv_istore_n (lv' := [(3, .int (0)), (2, .int (nI (k + 1))), (5, .int (hereF Z T (k))), (4, .int (nI k)), (0, .ref (ad 222)), (1, .int (nI k0))]) Bx.1 Bx.2.1 d_Rd_fullLineFrom_43 rfl hl (by decide) rfl (fun ls hl => ?_)
            refine lv_goto Bx.1 Bx.2.1 d_Rd_fullLineFrom_44 rfl ?_
            refine lv_iinc (lv' := [(4, .int ((nI k + (1)))), (3, .int (0)), (2, .int (nI (k + 1))), (5, .int (hereF Z T (k))), (0, .ref (ad 222)), (1, .int (nI k0))]) Bx.1 Bx.2.1 d_Rd_fullLineFrom_72 hl (k := 3) rfl rfl (by decide) rfl (fun ls hl => ?_)
            rw [show (nI k + (1) : Int32) = nI (k + 1) from nI_1 (k)] at hl
            refine lv_goto Bx.1 Bx.2.1 d_Rd_fullLineFrom_75 rfl ?_
            exact ih17 (k + 1) (k + 1) (false) _ _ _ (by have := hmeas18; omega) (⟨by omega, by omega⟩) (by rw [← hz15, lineF_on hli ((hz15r hli).trans (restF_no (fun z => by rw [h10] at z; exact absurd z.2 (by decide)) (fun z => by rw [h10] at z; exact absurd z.2 (by decide)))) (by omega) h10]) (fun _ => rfl) hP hD hS (lv_sub hl [0, 1, 2, 4, 5] rfl)
      | true =>
        have hz15r : li < Z → restF T Z li = lfF T Z k := hz16
        have hl : lv_has ls 6 [(4, .int (nI k)), (3, .int (1)), (2, .int (nI li)), (0, .ref (ad 222)), (1, .int (nI k0))] := hl
        refine lv_iload Bx.1 Bx.2.1 d_Rd_fullLineFrom_7 (lv_at hl 0 rfl) ?_
        refine lv_aload_n Bx.1 Bx.2.1 d_Rd_fullLineFrom_9 rfl (lv_at hl 3 rfl) ?_
        refine f_get Bx hP (by omega) h9_2 rfl inRd 0 (by decide) kw_144 rfl rfl d_Rd_fullLineFrom_10 ?_
        refine f_getN Bx hP (by omega) h1_3 rfl inCh 1 (by decide) kw_33 rfl rfl d_Rd_fullLineFrom_13 ?_
        refine lv_icmp_ge Bx.1 Bx.2.1 d_Rd_fullLineFrom_16 rfl (fun hb32 => ?_) (fun hb32 => ?_)
        · have hN33 : Z ≤ k := (nI_leI (by omega) (by omega)).mp (show nI (Z) ≤ nI (k) from hb32)
          refine lv_aload_n Bx.1 Bx.2.1 d_Rd_fullLineFrom_78 rfl (lv_at hl 3 rfl) ?_
          refine f_get Bx hP (by omega) h9_2 rfl inRd 0 (by decide) kw_144 rfl rfl d_Rd_fullLineFrom_79 ?_
          refine f_getN Bx hP (by omega) h1_3 rfl inCh 1 (by decide) kw_33 rfl rfl d_Rd_fullLineFrom_82 ?_
          exact W.iret (v := nI Z) hx hb hr (fun t ht hW => ⟨⟨nI Z, mem, rfl, ⟨rfl, by rw [← hz15, lineF_en (fun h9 => by rw [hz15r h9, lfF_no (fun z => by omega)]; omega)]⟩, by show va_P _ _ _ t.heap; rw [ht]; exact hP⟩, hS.F ht⟩) hS.2.2 d_Rd_fullLineFrom_85
        · have hN34 : ¬ Z ≤ k := fun q9 => hb32 (show nI (Z) ≤ nI (k) from (nI_leI (by omega) (by omega)).mpr q9)
          refine lv_aload_n Bx.1 Bx.2.1 d_Rd_fullLineFrom_19 rfl (lv_at hl 3 rfl) ?_
          refine f_get Bx hP (by omega) h9_2 rfl inRd 0 (by decide) kw_144 rfl rfl d_Rd_fullLineFrom_20 ?_
          refine lv_iload Bx.1 Bx.2.1 d_Rd_fullLineFrom_23 (lv_at hl 0 rfl) ?_
          refine f_callVi (na := 1) (As := [.int (nI k)]) (rest := []) Bx hml E hP hD hS (by omega) h1_3 rfl (m_Ch_codeAt l (by omega) h1_3 (by omega) h2_4 (by rw [nI_toInt (by omega)]; omega)) kw_341 kw_342 kw_343 kw_2 kw_344 (by decide +kernel) ⟨rfl, rfl⟩ ⟨Nat.le_of_ble_eq_true rfl, Nat.le_of_ble_eq_true rfl⟩ rfl hl.1 (Nat.le_of_ble_eq_true rfl) d_Rd_fullLineFrom_25 ⟨Nat.le_of_ble_eq_true rfl, Nat.le_of_ble_eq_true rfl⟩ (fun r35 mem36 H locs hq hP hS => ?_)
          have hD : va_D (Az sz) (fw n ad mem36) := fw_D hD
          obtain ⟨hco37, hqe⟩ := hq
          rw [hqe] at hP hD
          rw [code_here hf hT.2.1 (k := k) (by omega)] at hco37
          subst hco37
          have hTk : hereF Z T (k) = T k := hereF_at (by omega)
          have hli : li < Z := by omega
          refine lv_istore (lv' := [(5, .int (hereF Z T (k))), (4, .int (nI k)), (3, .int (1)), (2, .int (nI li)), (0, .ref (ad 222)), (1, .int (nI k0))]) Bx.1 Bx.2.1 d_Rd_fullLineFrom_28 hl (by decide) rfl (fun ls hl => ?_)
          refine lv_iload Bx.1 Bx.2.1 d_Rd_fullLineFrom_30 (lv_at hl 0 rfl) ?_
          refine lv_bipush (v := 10) Bx.1 Bx.2.1 d_Rd_fullLineFrom_32 (by decide) ?_
          refine lv_icmp_ne Bx.1 Bx.2.1 d_Rd_fullLineFrom_34 rfl (fun hb38 => ?_) (fun hb38 => ?_)
          · have hn10 : ¬ T k = 10 := fun z => hb38 (hTk.trans z)
            refine lv_iload Bx.1 Bx.2.1 d_Rd_fullLineFrom_47 (lv_at hl 0 rfl) ?_
            refine lv_bipush (v := 59) Bx.1 Bx.2.1 d_Rd_fullLineFrom_49 (by decide) ?_
            refine lv_icmp_ne Bx.1 Bx.2.1 d_Rd_fullLineFrom_51 rfl (fun hb39 => ?_) (fun hb39 => ?_)
            · have hn59 : ¬ T k = 59 := fun z => hb39 (hTk.trans z)
              refine lv_iload Bx.1 Bx.2.1 d_Rd_fullLineFrom_59 (lv_at hl 0 rfl) ?_
              refine lv_bipush (v := 32) Bx.1 Bx.2.1 d_Rd_fullLineFrom_61 (by decide) ?_
              refine lv_icmp_eq Bx.1 Bx.2.1 d_Rd_fullLineFrom_63 rfl (fun hb40 => ?_) (fun hb40 => ?_)
              · have hlt41 := hereF_lt (by rw [hb40]; decide)
                have h32 : T k = 32 := hTk.symm.trans hb40
                refine lv_iinc (lv' := [(4, .int ((nI k + (1)))), (5, .int (hereF Z T (k))), (3, .int (1)), (2, .int (nI li)), (0, .ref (ad 222)), (1, .int (nI k0))]) Bx.1 Bx.2.1 d_Rd_fullLineFrom_72 hl (k := 1) rfl rfl (by decide) rfl (fun ls hl => ?_)
                rw [show (nI k + (1) : Int32) = nI (k + 1) from nI_1 (k)] at hl
                refine lv_goto Bx.1 Bx.2.1 d_Rd_fullLineFrom_75 rfl ?_
                exact ih17 (li) (k + 1) (true) _ _ _ (by have := hmeas18; omega) (⟨by omega, by omega⟩) (hz15) (fun h9 => (hz15r h9).trans (lfF_on (by omega) hn10)) hP hD hS (lv_sub hl [0, 2, 3, 4, 5] rfl)
              · have hn32 : ¬ T k = 32 := fun z => hb40 (hTk.trans z)
                refine lv_iload_n Bx.1 Bx.2.1 d_Rd_fullLineFrom_66 rfl (lv_at hl 2 rfl) ?_
                refine lv_if_ne Bx.1 Bx.2.1 d_Rd_fullLineFrom_67 rfl (fun hb42 => ?_) (fun hb42 => ?_)
                · refine lv_iinc (lv' := [(4, .int ((nI k + (1)))), (5, .int (hereF Z T (k))), (3, .int (1)), (2, .int (nI li)), (0, .ref (ad 222)), (1, .int (nI k0))]) Bx.1 Bx.2.1 d_Rd_fullLineFrom_72 hl (k := 1) rfl rfl (by decide) rfl (fun ls hl => ?_)
                  rw [show (nI k + (1) : Int32) = nI (k + 1) from nI_1 (k)] at hl
                  refine lv_goto Bx.1 Bx.2.1 d_Rd_fullLineFrom_75 rfl ?_
                  exact ih17 (li) (k + 1) (true) _ _ _ (by have := hmeas18; omega) (⟨by omega, by omega⟩) (hz15) (fun h9 => (hz15r h9).trans (lfF_on (by omega) hn10)) hP hD hS (lv_sub hl [0, 2, 3, 4, 5] rfl)
                · exact absurd hb42 (by decide)
            · have hlt43 := hereF_lt (by rw [hb39]; decide)
              have h59 : T k = 59 := hTk.symm.trans hb39
              refine lv_iconst (v := 1) Bx.1 Bx.2.1 d_Rd_fullLineFrom_54 (by decide) ?_
              refine lv_istore_n (lv' := [(3, .int (1)), (5, .int (hereF Z T (k))), (4, .int (nI k)), (2, .int (nI li)), (0, .ref (ad 222)), (1, .int (nI k0))]) Bx.1 Bx.2.1 d_Rd_fullLineFrom_55 rfl hl (by decide) rfl (fun ls hl => ?_)
              refine lv_goto Bx.1 Bx.2.1 d_Rd_fullLineFrom_56 rfl ?_
              refine lv_iinc (lv' := [(4, .int ((nI k + (1)))), (3, .int (1)), (5, .int (hereF Z T (k))), (2, .int (nI li)), (0, .ref (ad 222)), (1, .int (nI k0))]) Bx.1 Bx.2.1 d_Rd_fullLineFrom_72 hl (k := 2) rfl rfl (by decide) rfl (fun ls hl => ?_)
              rw [show (nI k + (1) : Int32) = nI (k + 1) from nI_1 (k)] at hl
              refine lv_goto Bx.1 Bx.2.1 d_Rd_fullLineFrom_75 rfl ?_
              exact ih17 (li) (k + 1) (true) _ _ _ (by have := hmeas18; omega) (⟨by omega, by omega⟩) (hz15) (fun h9 => (hz15r h9).trans (lfF_on (by omega) hn10)) hP hD hS (lv_sub hl [0, 1, 3, 4, 5] rfl)
          · have hlt44 := hereF_lt (by rw [hb38]; decide)
            have h10 : T k = 10 := hTk.symm.trans hb38
            refine lv_iload Bx.1 Bx.2.1 d_Rd_fullLineFrom_37 (lv_at hl 1 rfl) ?_
            refine lv_iconst (v := 1) Bx.1 Bx.2.1 d_Rd_fullLineFrom_39 (by decide) ?_
            refine lv_iadd Bx.1 Bx.2.1 d_Rd_fullLineFrom_40 ?_
            rw [show nI k + 1 = nI (k + 1) from nI_add (k) (1)]
            refine lv_istore_n (lv' := [(2, .int (nI (k + 1))), (5, .int (hereF Z T (k))), (4, .int (nI k)), (3, .int (1)), (0, .ref (ad 222)), (1, .int (nI k0))]) Bx.1 Bx.2.1 d_Rd_fullLineFrom_41 rfl hl (by decide) rfl (fun ls hl => ?_)
            refine lv_iconst (v := 0) Bx.1 Bx.2.1 d_Rd_fullLineFrom_42 (by decide) ?_
            refine lv_istore_n (lv' := [(3, .int (0)), (2, .int (nI (k + 1))), (5, .int (hereF Z T (k))), (4, .int (nI k)), (0, .ref (ad 222)), (1, .int (nI k0))]) Bx.1 Bx.2.1 d_Rd_fullLineFrom_43 rfl hl (by decide) rfl (fun ls hl => ?_)
            refine lv_goto Bx.1 Bx.2.1 d_Rd_fullLineFrom_44 rfl ?_
            refine lv_iinc (lv' := [(4, .int ((nI k + (1)))), (3, .int (0)), (2, .int (nI (k + 1))), (5, .int (hereF Z T (k))), (0, .ref (ad 222)), (1, .int (nI k0))]) Bx.1 Bx.2.1 d_Rd_fullLineFrom_72 hl (k := 3) rfl rfl (by decide) rfl (fun ls hl => ?_)
            rw [show (nI k + (1) : Int32) = nI (k + 1) from nI_1 (k)] at hl
            refine lv_goto Bx.1 Bx.2.1 d_Rd_fullLineFrom_75 rfl ?_
            exact ih17 (k + 1) (k + 1) (false) _ _ _ (by have := hmeas18; omega) (⟨by omega, by omega⟩) (by rw [← hz15, lineF_on hli ((hz15r hli).trans (lfF_no (fun z => z.2 h10))) (by omega) h10]) (fun _ => rfl) hP hD hS (lv_sub hl [0, 1, 2, 4, 5] rfl)
  exact loop12 _ (k0) (k0) (false) _ _ _ (Nat.lt_succ_self _) (⟨by omega, by omega⟩) (rfl) (fun _ => rfl) hP hD hS (lv_sub hl [0, 1, 2, 3, 4] rfl)
set_option maxHeartbeats 4000000 in
set_option maxRecDepth 100000 in
theorem m_Rd_readGapX (l : Launch) {D : va_G} {cy : Nat → ClassId} {sz n : Nat} {ad : Nat → Nat} {mem : Nat → va_E} {Z a R Ec lim : Nat} {f T : Nat → Int32} {to : Nat → Int32} {nm : Nat → Int64} {m0 : Nat → va_E} (hn : 224 ≤ n) (hT : TX cy ad Z f m0) (hf : ∀ k, k < Z → f k = T k) (hRX : RX cy ad lim a R Ec to nm m0 mem) (haB : a ≤ 300) (haZ : a ≤ Z) : MI l D cy sz n ad y_Rd_readGap c_Rd_readGap 6 (some .boolean) ({ frames := 2, cells := 0, slots := 0, locals := 60 } : Room) mem [.ref (ad 222)] (fun r mem' => RX cy ad lim (gapF T Z a) R Ec to nm m0 mem' ∧ ((r = 1 ∧ a < gapF T Z a) ∨ (r = 0 ∧ gapF T Z a ≤ a))) := by
  refine Met.ofW (cc := c_Rd_readGap) (maxL := 6) (ret := (some .boolean)) (by decide) rfl ?_
  intro p e s m args below meth c s₁ B hml hv
  obtain ⟨rfl, E, hP, hD⟩ := hv
  have hx := B.exec
  have hb := B.bytes
  have hr := B.returns
  have hlocks := B.notSynchronized
  have Bx : MB p s m [.ref (ad 222)].toArray c c_Rd_readGap "AbnfChart$Reader" D cy := ⟨hx, hb, tb_all (atoms_spec B.pre) E.2.1, findClass_of_methodNamed B.named, E.1⟩
  have hS : va_S (Az sz) s.heap s.heap [] := va_S.rf
  have hl := lv_entry ([.ref (ad 222)]) (n := 6) (Nat.le_of_ble_eq_true rfl)
  rw [lg_entry_eq]
  generalize (lg_sl ([.ref (ad 222)]) ++ List.replicate (6 - (lg_sl ([.ref (ad 222)])).length) Slot.unset).toArray = ls at hl ⊢
  have hl : lv_has ls 6 [(0, .ref (ad 222))] := hl
  have hZ9 := hT.2.1
  have hbd9 := hRX.1.1.1
  obtain ⟨ft1, h9_2⟩ := hRX.2.1
  have h1_3 : mem 1 = .inr (0, [.ref (ad 2), .int (nI Z)]) := (hRX.1.2.2 1 (by omega)).trans hT.1
  have h2_4 : mem 2 = .inl (cy 0, 240, .inl f) := (hRX.1.2.2 2 (by omega)).trans hT.2.2
  have h5_5 := hRX.1.1.2.1
  have hbd11 := hRX.1.1.1
  obtain ⟨S6, g7, hS_8, h220_9, h221_10⟩ := hRX.1.1.2.2.2.2.2.2
  refine lv_aload_n Bx.1 Bx.2.1 d_Rd_readGap_0 rfl (lv_at hl 0 rfl) ?_
  refine f_get Bx hP (by omega) h9_2 rfl inRd 2 (by decide) kw_146 rfl rfl d_Rd_readGap_1 ?_
  refine lv_istore_n (lv' := [(1, .int (nI a)), (0, .ref (ad 222))]) Bx.1 Bx.2.1 d_Rd_readGap_4 rfl hl (by decide) rfl (fun ls hl => ?_)
  refine lv_iconst (v := 0) Bx.1 Bx.2.1 d_Rd_readGap_5 (by decide) ?_
  refine lv_istore_n (lv' := [(2, .int (0)), (1, .int (nI a)), (0, .ref (ad 222))]) Bx.1 Bx.2.1 d_Rd_readGap_6 rfl hl (by decide) rfl (fun ls hl => ?_)
  refine lv_iconst (v := 0) Bx.1 Bx.2.1 d_Rd_readGap_7 (by decide) ?_
  refine lv_istore_n (lv' := [(3, .int (0)), (2, .int (0)), (1, .int (nI a)), (0, .ref (ad 222))]) Bx.1 Bx.2.1 d_Rd_readGap_8 rfl hl (by decide) rfl (fun ls hl => ?_)
  have loop12 : ∀ (d13 : Nat) (mem9 : Nat → va_E) (a1 : Nat) (k : Nat) (co : Bool) (ls : Array Slot) (H : Heap) (locs : List Loc), (240 - k < d13) → (RX cy ad lim a1 R Ec to nm m0 mem9) → (a ≤ a1 ∧ a1 ≤ Z ∧ k ≤ a1 ∧ k ≤ 240) → ((if co then gapC T Z a1 else gapF T Z a1) = gapF T Z a) → (va_P D vcl (fw n ad mem9) H) → (va_D (Az sz) (fw n ad mem9)) → (va_S (Az sz) s.heap H locs) → (lv_has ls 6 [(3, .int (nI k)), (2, .int ((if co then 1 else 0))), (1, .int (nI a)), (0, .ref (ad 222))]) → W p l e (headSpec (Cond.code y_Rd_readGap c_Rd_readGap 6 (some .boolean) :: tg) ({ frames := 2, cells := 0, slots := 0, locals := 60 } : Room)).room s m [.ref (ad 222)].toArray below meth c H locs 0 0 (MQ below (va_Qi (fun r mem' => RX cy ad lim (gapF T Z a) R Ec to nm m0 mem' ∧ ((r = 1 ∧ a < gapF T Z a) ∨ (r = 0 ∧ gapF T Z a ≤ a))) (PP D n ad) (Az sz)) [.ref (ad 222)].toArray s 0 0 (Az sz)) (F0 m 9 ls []) := by
    intro d13
    induction d13 with
    | zero => intro mem9 a1 k co ls H locs hmeas18; exact absurd hmeas18 (Nat.not_lt_zero _)
    | succ d13 ih17 =>
      intro mem9 a1 k co ls H locs hmeas18 hz14 hz15 hz16 hP hD hS hl
      obtain ⟨ft19, h9_20⟩ := hz14.2.1
      have h1_21 : mem9 1 = .inr (0, [.ref (ad 2), .int (nI Z)]) := (hz14.1.2.2 1 (by omega)).trans hT.1
      have h2_22 : mem9 2 = .inl (cy 0, 240, .inl f) := (hz14.1.2.2 2 (by omega)).trans hT.2.2
      have h5_23 := hz14.1.1.2.1
      have hbd29 := hz14.1.1.1
      obtain ⟨S24, g25, hS_26, h220_27, h221_28⟩ := hz14.1.1.2.2.2.2.2.2
      have hbd8 := hz15
      cases co with
      | false =>
        have hz16r : gapF T Z a1 = gapF T Z a := hz16
        have hl : lv_has ls 6 [(3, .int (nI k)), (2, .int (0)), (1, .int (nI a)), (0, .ref (ad 222))] := hl
        refine lv_iload_n Bx.1 Bx.2.1 d_Rd_readGap_9 rfl (lv_at hl 0 rfl) ?_
        refine lv_sipush (v := 240) Bx.1 Bx.2.1 d_Rd_readGap_10 (by decide) ?_
        refine lv_icmp_ge Bx.1 Bx.2.1 d_Rd_readGap_13 rfl (fun hb30 => ?_) (fun hb30 => ?_)
        · have hN31 : 240 ≤ k := (nI_leI (by omega) (by omega)).mp (show nI (240) ≤ nI (k) from hb30)
          have hga : gapF T Z a = a1 := by rw [← hz16r]; exact gapF_no (fun z => by omega) (fun z => by omega) (fun z => by omega)
          refine lv_aload_n Bx.1 Bx.2.1 d_Rd_readGap_125 rfl (lv_at hl 3 rfl) ?_
          refine f_get Bx hP (by omega) h9_20 rfl inRd 2 (by decide) kw_146 rfl rfl d_Rd_readGap_126 ?_
          refine lv_iload_n Bx.1 Bx.2.1 d_Rd_readGap_129 rfl (lv_at hl 2 rfl) ?_
          refine lv_icmp_le Bx.1 Bx.2.1 d_Rd_readGap_130 rfl (fun hb32 => ?_) (fun hb32 => ?_)
          · have hN33 : a1 ≤ a := (nI_leI (by omega) (by omega)).mp (show nI (a1) ≤ nI (a) from hb32)
            refine lv_iconst (v := 0) Bx.1 Bx.2.1 d_Rd_readGap_137 (by decide) ?_
            exact W.zret (v := 0) hx hb hr rfl (fun t ht hW => ⟨⟨0, mem9, rfl, ⟨by rw [hga]; exact hz14, Or.inr ⟨rfl, by omega⟩⟩, by show va_P _ _ _ t.heap; rw [ht]; exact hP⟩, hS.F ht⟩) hS.2.2 d_Rd_readGap_138
          · have hN34 : ¬ a1 ≤ a := fun q9 => hb32 (show nI (a1) ≤ nI (a) from (nI_leI (by omega) (by omega)).mpr q9)
            refine lv_iconst (v := 1) Bx.1 Bx.2.1 d_Rd_readGap_133 (by decide) ?_
            refine lv_goto Bx.1 Bx.2.1 d_Rd_readGap_134 rfl ?_
            exact W.zret (v := 1) hx hb hr rfl (fun t ht hW => ⟨⟨1, mem9, rfl, ⟨by rw [hga]; exact hz14, Or.inl ⟨rfl, by omega⟩⟩, by show va_P _ _ _ t.heap; rw [ht]; exact hP⟩, hS.F ht⟩) hS.2.2 d_Rd_readGap_138
        · have hN35 : ¬ 240 ≤ k := fun q9 => hb30 (show nI (240) ≤ nI (k) from (nI_leI (by omega) (by omega)).mpr q9)
          refine lv_aload_n Bx.1 Bx.2.1 d_Rd_readGap_16 rfl (lv_at hl 3 rfl) ?_
          refine f_get Bx hP (by omega) h9_20 rfl inRd 2 (by decide) kw_146 rfl rfl d_Rd_readGap_17 ?_
          refine lv_aload_n Bx.1 Bx.2.1 d_Rd_readGap_20 rfl (lv_at hl 3 rfl) ?_
          refine f_get Bx hP (by omega) h9_20 rfl inRd 0 (by decide) kw_144 rfl rfl d_Rd_readGap_21 ?_
          refine f_getN Bx hP (by omega) h1_21 rfl inCh 1 (by decide) kw_33 rfl rfl d_Rd_readGap_24 ?_
          refine lv_icmp_ge Bx.1 Bx.2.1 d_Rd_readGap_27 rfl (fun hb36 => ?_) (fun hb36 => ?_)
          · have hN37 : Z ≤ a1 := (nI_leI (by omega) (by omega)).mp (show nI (Z) ≤ nI (a1) from hb36)
            have hga : gapF T Z a = a1 := by rw [← hz16r]; exact gapF_no (fun z => by omega) (fun z => by omega) (fun z => by omega)
            refine lv_aload_n Bx.1 Bx.2.1 d_Rd_readGap_125 rfl (lv_at hl 3 rfl) ?_
            refine f_get Bx hP (by omega) h9_20 rfl inRd 2 (by decide) kw_146 rfl rfl d_Rd_readGap_126 ?_
            refine lv_iload_n Bx.1 Bx.2.1 d_Rd_readGap_129 rfl (lv_at hl 2 rfl) ?_
            refine lv_icmp_le Bx.1 Bx.2.1 d_Rd_readGap_130 rfl (fun hb38 => ?_) (fun hb38 => ?_)
            · have hN39 : a1 ≤ a := (nI_leI (by omega) (by omega)).mp (show nI (a1) ≤ nI (a) from hb38)
              refine lv_iconst (v := 0) Bx.1 Bx.2.1 d_Rd_readGap_137 (by decide) ?_
              exact W.zret (v := 0) hx hb hr rfl (fun t ht hW => ⟨⟨0, mem9, rfl, ⟨by rw [hga]; exact hz14, Or.inr ⟨rfl, by omega⟩⟩, by show va_P _ _ _ t.heap; rw [ht]; exact hP⟩, hS.F ht⟩) hS.2.2 d_Rd_readGap_138
            · have hN40 : ¬ a1 ≤ a := fun q9 => hb38 (show nI (a1) ≤ nI (a) from (nI_leI (by omega) (by omega)).mpr q9)
              refine lv_iconst (v := 1) Bx.1 Bx.2.1 d_Rd_readGap_133 (by decide) ?_
              refine lv_goto Bx.1 Bx.2.1 d_Rd_readGap_134 rfl ?_
              exact W.zret (v := 1) hx hb hr rfl (fun t ht hW => ⟨⟨1, mem9, rfl, ⟨by rw [hga]; exact hz14, Or.inl ⟨rfl, by omega⟩⟩, by show va_P _ _ _ t.heap; rw [ht]; exact hP⟩, hS.F ht⟩) hS.2.2 d_Rd_readGap_138
          · have hN41 : ¬ Z ≤ a1 := fun q9 => hb36 (show nI (Z) ≤ nI (a1) from (nI_leI (by omega) (by omega)).mpr q9)
            refine lv_aload_n Bx.1 Bx.2.1 d_Rd_readGap_30 rfl (lv_at hl 3 rfl) ?_
            refine f_callVi (na := 0) (As := []) (rest := []) Bx hml E hP hD hS (by omega) h9_20 rfl (m_Rd_peekX l hn hT hf hz14 (by omega)) kw_353 kw_355 sel_Rd_peek kw_6 kw_356 (by decide +kernel) ⟨rfl, rfl⟩ ⟨Nat.le_of_ble_eq_true rfl, Nat.le_of_ble_eq_true rfl⟩ rfl hl.1 (Nat.le_of_ble_eq_true rfl) d_Rd_readGap_31 ⟨Nat.le_of_ble_eq_true rfl, Nat.le_of_ble_eq_true rfl⟩ (fun r43 mem44 H locs hq hP hS => ?_)
            have hD : va_D (Az sz) (fw n ad mem44) := fw_D hD
            obtain ⟨hqe, hpk42⟩ := hq
            rw [hqe] at hP hD
            subst hpk42
            have hTk : hereF Z T (a1) = T a1 := hereF_at (by omega)
            refine lv_istore (lv' := [(4, .int (hereF Z T (a1))), (3, .int (nI k)), (2, .int (0)), (1, .int (nI a)), (0, .ref (ad 222))]) Bx.1 Bx.2.1 d_Rd_readGap_34 hl (by decide) rfl (fun ls hl => ?_)
            refine lv_iload Bx.1 Bx.2.1 d_Rd_readGap_36 (lv_at hl 0 rfl) ?_
            refine lv_bipush (v := 10) Bx.1 Bx.2.1 d_Rd_readGap_38 (by decide) ?_
            refine lv_icmp_ne Bx.1 Bx.2.1 d_Rd_readGap_40 rfl (fun hb46 => ?_) (fun hb46 => ?_)
            · have hn10 : ¬ T a1 = 10 := fun z => hb46 (hTk.trans z)
              refine lv_iload Bx.1 Bx.2.1 d_Rd_readGap_83 (lv_at hl 0 rfl) ?_
              refine lv_bipush (v := 59) Bx.1 Bx.2.1 d_Rd_readGap_85 (by decide) ?_
              refine lv_icmp_ne Bx.1 Bx.2.1 d_Rd_readGap_87 rfl (fun hb47 => ?_) (fun hb47 => ?_)
              · have hn59 : ¬ T a1 = 59 := fun z => hb47 (hTk.trans z)
                refine lv_iload Bx.1 Bx.2.1 d_Rd_readGap_95 (lv_at hl 0 rfl) ?_
                refine lv_bipush (v := 32) Bx.1 Bx.2.1 d_Rd_readGap_97 (by decide) ?_
                refine lv_icmp_eq Bx.1 Bx.2.1 d_Rd_readGap_99 rfl (fun hb48 => ?_) (fun hb48 => ?_)
                · have hlt49 := hereF_lt (by rw [hb48]; decide)
                  have h32 : T a1 = 32 := hTk.symm.trans hb48
                  refine lv_aload_n Bx.1 Bx.2.1 d_Rd_readGap_109 rfl (lv_at hl 4 rfl) ?_
                  refine lv_dup Bx.1 Bx.2.1 d_Rd_readGap_110 rfl ?_
                  refine f_get Bx hP (by omega) h9_20 rfl inRd 2 (by decide) kw_146 rfl rfl d_Rd_readGap_111 ?_
                  refine lv_iconst (v := 1) Bx.1 Bx.2.1 d_Rd_readGap_114 (by decide) ?_
                  refine lv_iadd Bx.1 Bx.2.1 d_Rd_readGap_115 ?_
                  rw [show nI a1 + 1 = nI (a1 + 1) from nI_add (a1) (1)]
                  refine f_put Bx hP hD hS (by omega) h9_20 rfl inRd tyRd okRd nmRd 2 (by decide) kw_146 rfl rfl rfl rfl (Nat.le_of_ble_eq_true rfl) d_Rd_readGap_116 (fun H locs hP hS => ?_)
                  obtain ⟨mem50, e_mem50⟩ : ∃ z, z = va_up mem9 (222) (.inr (4, [.ref (ad 1), .ref (ad 5), .int (nI (a1 + 1)), .int (ft19)])) := ⟨_, rfl⟩
                  have hP : va_P D vcl (fw n ad mem50) H := by rw [e_mem50]; exact hP
                  have hD : va_D (Az sz) (fw n ad mem50) := fw_D hD
                  have h_mem50 : mem50 (222) = .inr (4, [.ref (ad 1), .ref (ad 5), .int (nI (a1 + 1)), .int (ft19)]) := by rw [e_mem50, va_up_self]
                  have hh51 := (va_up_ne mem9 (.inr (4, [.ref (ad 1), .ref (ad 5), .int (nI (a1 + 1)), .int (ft19)])) (show (1 : Nat) ≠ 222 by first | decide | assumption | omega)).trans h1_21
                  rw [← e_mem50] at hh51
                  have hh52 := (va_up_ne mem9 (.inr (4, [.ref (ad 1), .ref (ad 5), .int (nI (a1 + 1)), .int (ft19)])) (show (5 : Nat) ≠ 222 by first | decide | assumption | omega)).trans h5_23
                  rw [← e_mem50] at hh52
                  have hh53 := (va_up_ne mem9 (.inr (4, [.ref (ad 1), .ref (ad 5), .int (nI (a1 + 1)), .int (ft19)])) (show (220 : Nat) ≠ 222 by first | decide | assumption | omega)).trans h220_27
                  rw [← e_mem50] at hh53
                  have hRX54 : RX cy ad lim (a1 + 1) (R) (Ec) (to) (nm) m0 mem50 := by rw [e_mem50]; exact hz14.at
                  refine lv_iinc (lv' := [(3, .int ((nI k + (1)))), (4, .int (hereF Z T (a1))), (2, .int (0)), (1, .int (nI a)), (0, .ref (ad 222))]) Bx.1 Bx.2.1 d_Rd_readGap_119 hl (k := 1) rfl rfl (by decide) rfl (fun ls hl => ?_)
                  rw [show (nI k + (1) : Int32) = nI (k + 1) from nI_1 (k)] at hl
                  refine lv_goto Bx.1 Bx.2.1 d_Rd_readGap_122 rfl ?_
                  exact ih17 mem50 (a1 + 1) (k + 1) (false) _ _ _ (by have := hmeas18; omega) (hRX54) (⟨by omega, by omega, by omega, by omega⟩) (by show gapF T Z _ = _; rw [← hz16r, gapF_sp (by omega) h32]) hP hD hS (lv_sub hl [0, 2, 3, 4] rfl)
                · have hn32 : ¬ T a1 = 32 := fun z => hb48 (hTk.trans z)
                  refine lv_iload_n Bx.1 Bx.2.1 d_Rd_readGap_102 rfl (lv_at hl 2 rfl) ?_
                  refine lv_if_ne Bx.1 Bx.2.1 d_Rd_readGap_103 rfl (fun hb55 => ?_) (fun hb55 => ?_)
                  · exact absurd hb55 (by decide)
                  · refine lv_goto Bx.1 Bx.2.1 d_Rd_readGap_106 rfl ?_
                    have hga : gapF T Z a = a1 := by rw [← hz16r]; exact gapF_no (fun z => hn32 z.2) (fun z => hn59 z.2) (fun z => hn10 z.2)
                    refine lv_aload_n Bx.1 Bx.2.1 d_Rd_readGap_125 rfl (lv_at hl 4 rfl) ?_
                    refine f_get Bx hP (by omega) h9_20 rfl inRd 2 (by decide) kw_146 rfl rfl d_Rd_readGap_126 ?_
                    refine lv_iload_n Bx.1 Bx.2.1 d_Rd_readGap_129 rfl (lv_at hl 3 rfl) ?_
                    refine lv_icmp_le Bx.1 Bx.2.1 d_Rd_readGap_130 rfl (fun hb56 => ?_) (fun hb56 => ?_)
                    · have hN57 : a1 ≤ a := (nI_leI (by omega) (by omega)).mp (show nI (a1) ≤ nI (a) from hb56)
                      refine lv_iconst (v := 0) Bx.1 Bx.2.1 d_Rd_readGap_137 (by decide) ?_
                      exact W.zret (v := 0) hx hb hr rfl (fun t ht hW => ⟨⟨0, mem9, rfl, ⟨by rw [hga]; exact hz14, Or.inr ⟨rfl, by omega⟩⟩, by show va_P _ _ _ t.heap; rw [ht]; exact hP⟩, hS.F ht⟩) hS.2.2 d_Rd_readGap_138
                    · have hN58 : ¬ a1 ≤ a := fun q9 => hb56 (show nI (a1) ≤ nI (a) from (nI_leI (by omega) (by omega)).mpr q9)
                      refine lv_iconst (v := 1) Bx.1 Bx.2.1 d_Rd_readGap_133 (by decide) ?_
                      refine lv_goto Bx.1 Bx.2.1 d_Rd_readGap_134 rfl ?_
                      exact W.zret (v := 1) hx hb hr rfl (fun t ht hW => ⟨⟨1, mem9, rfl, ⟨by rw [hga]; exact hz14, Or.inl ⟨rfl, by omega⟩⟩, by show va_P _ _ _ t.heap; rw [ht]; exact hP⟩, hS.F ht⟩) hS.2.2 d_Rd_readGap_138
              · have hlt59 := hereF_lt (by rw [hb47]; decide)
                have h59 : T a1 = 59 := hTk.symm.trans hb47
                refine lv_iconst (v := 1) Bx.1 Bx.2.1 d_Rd_readGap_90 (by decide) ?_
                refine lv_istore_n (lv' := [(2, .int (1)), (4, .int (hereF Z T (a1))), (3, .int (nI k)), (1, .int (nI a)), (0, .ref (ad 222))]) Bx.1 Bx.2.1 d_Rd_readGap_91 rfl hl (by decide) rfl (fun ls hl => ?_)
                refine lv_goto Bx.1 Bx.2.1 d_Rd_readGap_92 rfl ?_
                refine lv_aload_n Bx.1 Bx.2.1 d_Rd_readGap_109 rfl (lv_at hl 4 rfl) ?_
                refine lv_dup Bx.1 Bx.2.1 d_Rd_readGap_110 rfl ?_
                refine f_get Bx hP (by omega) h9_20 rfl inRd 2 (by decide) kw_146 rfl rfl d_Rd_readGap_111 ?_
                refine lv_iconst (v := 1) Bx.1 Bx.2.1 d_Rd_readGap_114 (by decide) ?_
                refine lv_iadd Bx.1 Bx.2.1 d_Rd_readGap_115 ?_
                rw [show nI a1 + 1 = nI (a1 + 1) from nI_add (a1) (1)]
                refine f_put Bx hP hD hS (by omega) h9_20 rfl inRd tyRd okRd nmRd 2 (by decide) kw_146 rfl rfl rfl rfl (Nat.le_of_ble_eq_true rfl) d_Rd_readGap_116 (fun H locs hP hS => ?_)
                obtain ⟨mem60, e_mem60⟩ : ∃ z, z = va_up mem9 (222) (.inr (4, [.ref (ad 1), .ref (ad 5), .int (nI (a1 + 1)), .int (ft19)])) := ⟨_, rfl⟩
                have hP : va_P D vcl (fw n ad mem60) H := by rw [e_mem60]; exact hP
                have hD : va_D (Az sz) (fw n ad mem60) := fw_D hD
                have h_mem60 : mem60 (222) = .inr (4, [.ref (ad 1), .ref (ad 5), .int (nI (a1 + 1)), .int (ft19)]) := by rw [e_mem60, va_up_self]
                have hh61 := (va_up_ne mem9 (.inr (4, [.ref (ad 1), .ref (ad 5), .int (nI (a1 + 1)), .int (ft19)])) (show (1 : Nat) ≠ 222 by first | decide | assumption | omega)).trans h1_21
                rw [← e_mem60] at hh61
                have hh62 := (va_up_ne mem9 (.inr (4, [.ref (ad 1), .ref (ad 5), .int (nI (a1 + 1)), .int (ft19)])) (show (5 : Nat) ≠ 222 by first | decide | assumption | omega)).trans h5_23
                rw [← e_mem60] at hh62
                have hh63 := (va_up_ne mem9 (.inr (4, [.ref (ad 1), .ref (ad 5), .int (nI (a1 + 1)), .int (ft19)])) (show (220 : Nat) ≠ 222 by first | decide | assumption | omega)).trans h220_27
                rw [← e_mem60] at hh63
                have hRX64 : RX cy ad lim (a1 + 1) (R) (Ec) (to) (nm) m0 mem60 := by rw [e_mem60]; exact hz14.at
                refine lv_iinc (lv' := [(3, .int ((nI k + (1)))), (2, .int (1)), (4, .int (hereF Z T (a1))), (1, .int (nI a)), (0, .ref (ad 222))]) Bx.1 Bx.2.1 d_Rd_readGap_119 hl (k := 2) rfl rfl (by decide) rfl (fun ls hl => ?_)
                rw [show (nI k + (1) : Int32) = nI (k + 1) from nI_1 (k)] at hl
                refine lv_goto Bx.1 Bx.2.1 d_Rd_readGap_122 rfl ?_
                exact ih17 mem60 (a1 + 1) (k + 1) (true) _ _ _ (by have := hmeas18; omega) (hRX64) (⟨by omega, by omega, by omega, by omega⟩) (by show gapC T Z _ = _; rw [← hz16r, gapF_co (by omega) h59]) hP hD hS (lv_sub hl [0, 1, 3, 4] rfl)
            · have hlt65 := hereF_lt (by rw [hb46]; decide)
              have h10 : T a1 = 10 := hTk.symm.trans hb46
              refine lv_aload_n Bx.1 Bx.2.1 d_Rd_readGap_43 rfl (lv_at hl 4 rfl) ?_
              refine lv_aload_n Bx.1 Bx.2.1 d_Rd_readGap_44 rfl (lv_at hl 4 rfl) ?_
              refine f_get Bx hP (by omega) h9_20 rfl inRd 2 (by decide) kw_146 rfl rfl d_Rd_readGap_45 ?_
              refine lv_iconst (v := 1) Bx.1 Bx.2.1 d_Rd_readGap_48 (by decide) ?_
              refine lv_iadd Bx.1 Bx.2.1 d_Rd_readGap_49 ?_
              rw [show nI a1 + 1 = nI (a1 + 1) from nI_add (a1) (1)]
              refine f_callVi (na := 1) (As := [.int (nI (a1 + 1))]) (rest := []) Bx hml E hP hD hS (by omega) h9_20 rfl (m_Rd_fullLineFromX l hn hT hf hz14 (k0 := a1 + 1) (by omega)) kw_337 kw_339 sel_Rd_fullLineFrom kw_6 kw_340 (by decide +kernel) ⟨rfl, rfl⟩ ⟨Nat.le_of_ble_eq_true rfl, Nat.le_of_ble_eq_true rfl⟩ rfl hl.1 (Nat.le_of_ble_eq_true rfl) d_Rd_readGap_50 ⟨Nat.le_of_ble_eq_true rfl, Nat.le_of_ble_eq_true rfl⟩ (fun r67 mem68 H locs hq hP hS => ?_)
              have hD : va_D (Az sz) (fw n ad mem68) := fw_D hD
              obtain ⟨hqe, hfl66⟩ := hq
              rw [hqe] at hP hD
              obtain ⟨li70, ea71⟩ : ∃ z, z = lineF T Z (a1 + 1) := ⟨_, rfl⟩
              rw [← ea71] at hfl66
              subst hfl66
              have hb72 : li70 ≤ Z := by rw [ea71]; exact lineF_le T Z _
              refine lv_istore (lv' := [(5, .int (nI li70)), (4, .int (hereF Z T (a1))), (3, .int (nI k)), (2, .int (0)), (1, .int (nI a)), (0, .ref (ad 222))]) Bx.1 Bx.2.1 d_Rd_readGap_53 hl (by decide) rfl (fun ls hl => ?_)
              refine lv_aload_n Bx.1 Bx.2.1 d_Rd_readGap_55 rfl (lv_at hl 5 rfl) ?_
              refine f_get Bx hP (by omega) h9_20 rfl inRd 0 (by decide) kw_144 rfl rfl d_Rd_readGap_56 ?_
              refine lv_iload Bx.1 Bx.2.1 d_Rd_readGap_59 (lv_at hl 0 rfl) ?_
              refine f_callVi (na := 1) (As := [.int (nI li70)]) (rest := []) Bx hml E hP hD hS (by omega) h1_21 rfl (m_Ch_codeAt l (by omega) h1_21 (by omega) h2_22 (by rw [nI_toInt (by omega)]; omega)) kw_341 kw_342 kw_343 kw_2 kw_344 (by decide +kernel) ⟨rfl, rfl⟩ ⟨Nat.le_of_ble_eq_true rfl, Nat.le_of_ble_eq_true rfl⟩ rfl hl.1 (Nat.le_of_ble_eq_true rfl) d_Rd_readGap_61 ⟨Nat.le_of_ble_eq_true rfl, Nat.le_of_ble_eq_true rfl⟩ (fun r73 mem74 H locs hq hP hS => ?_)
              have hD : va_D (Az sz) (fw n ad mem74) := fw_D hD
              obtain ⟨hco75, hqe⟩ := hq
              rw [hqe] at hP hD
              rw [code_here hf hT.2.1 (k := li70) (by omega)] at hco75
              subst hco75
              refine lv_bipush (v := 32) Bx.1 Bx.2.1 d_Rd_readGap_64 (by decide) ?_
              refine lv_icmp_eq Bx.1 Bx.2.1 d_Rd_readGap_66 rfl (fun hb76 => ?_) (fun hb76 => ?_)
              · have hlt77 := hereF_lt (by rw [hb76]; decide)
                obtain ⟨hll, hgy⟩ := gapF_lfy (by omega) h10 (show hereF Z T (lineF T Z (a1 + 1)) = 32 by rw [← ea71]; exact hb76)
                rw [← ea71] at hll hgy
                have hge : a1 + 1 ≤ li70 := by rw [ea71]; exact lineF_ge T (by omega)
                refine lv_aload_n Bx.1 Bx.2.1 d_Rd_readGap_72 rfl (lv_at hl 5 rfl) ?_
                refine lv_iload Bx.1 Bx.2.1 d_Rd_readGap_73 (lv_at hl 0 rfl) ?_
                refine f_put Bx hP hD hS (by omega) h9_20 rfl inRd tyRd okRd nmRd 2 (by decide) kw_146 rfl rfl rfl rfl (Nat.le_of_ble_eq_true rfl) d_Rd_readGap_75 (fun H locs hP hS => ?_)
                obtain ⟨mem78, e_mem78⟩ : ∃ z, z = va_up mem9 (222) (.inr (4, [.ref (ad 1), .ref (ad 5), .int (nI li70), .int (ft19)])) := ⟨_, rfl⟩
                have hP : va_P D vcl (fw n ad mem78) H := by rw [e_mem78]; exact hP
                have hD : va_D (Az sz) (fw n ad mem78) := fw_D hD
                have h_mem78 : mem78 (222) = .inr (4, [.ref (ad 1), .ref (ad 5), .int (nI li70), .int (ft19)]) := by rw [e_mem78, va_up_self]
                have hh79 := (va_up_ne mem9 (.inr (4, [.ref (ad 1), .ref (ad 5), .int (nI li70), .int (ft19)])) (show (1 : Nat) ≠ 222 by first | decide | assumption | omega)).trans h1_21
                rw [← e_mem78] at hh79
                have hh80 := (va_up_ne mem9 (.inr (4, [.ref (ad 1), .ref (ad 5), .int (nI li70), .int (ft19)])) (show (5 : Nat) ≠ 222 by first | decide | assumption | omega)).trans h5_23
                rw [← e_mem78] at hh80
                have hh81 := (va_up_ne mem9 (.inr (4, [.ref (ad 1), .ref (ad 5), .int (nI li70), .int (ft19)])) (show (220 : Nat) ≠ 222 by first | decide | assumption | omega)).trans h220_27
                rw [← e_mem78] at hh81
                have hRX82 : RX cy ad lim (li70) (R) (Ec) (to) (nm) m0 mem78 := by rw [e_mem78]; exact hz14.at
                refine lv_iconst (v := 0) Bx.1 Bx.2.1 d_Rd_readGap_78 (by decide) ?_
                refine lv_istore_n (lv' := [(2, .int (0)), (5, .int (nI li70)), (4, .int (hereF Z T (a1))), (3, .int (nI k)), (1, .int (nI a)), (0, .ref (ad 222))]) Bx.1 Bx.2.1 d_Rd_readGap_79 rfl hl (by decide) rfl (fun ls hl => ?_)
                refine lv_goto Bx.1 Bx.2.1 d_Rd_readGap_80 rfl ?_
                refine lv_aload_n Bx.1 Bx.2.1 d_Rd_readGap_109 rfl (lv_at hl 5 rfl) ?_
                refine lv_dup Bx.1 Bx.2.1 d_Rd_readGap_110 rfl ?_
                refine f_get Bx hP (by omega) h_mem78 rfl inRd 2 (by decide) kw_146 rfl rfl d_Rd_readGap_111 ?_
                refine lv_iconst (v := 1) Bx.1 Bx.2.1 d_Rd_readGap_114 (by decide) ?_
                refine lv_iadd Bx.1 Bx.2.1 d_Rd_readGap_115 ?_
                rw [show nI li70 + 1 = nI (li70 + 1) from nI_add (li70) (1)]
                refine f_put Bx hP hD hS (by omega) h_mem78 rfl inRd tyRd okRd nmRd 2 (by decide) kw_146 rfl rfl rfl rfl (Nat.le_of_ble_eq_true rfl) d_Rd_readGap_116 (fun H locs hP hS => ?_)
                obtain ⟨mem83, e_mem83⟩ : ∃ z, z = va_up mem78 (222) (.inr (4, [.ref (ad 1), .ref (ad 5), .int (nI (li70 + 1)), .int (ft19)])) := ⟨_, rfl⟩
                have hP : va_P D vcl (fw n ad mem83) H := by rw [e_mem83]; exact hP
                have hD : va_D (Az sz) (fw n ad mem83) := fw_D hD
                have h_mem83 : mem83 (222) = .inr (4, [.ref (ad 1), .ref (ad 5), .int (nI (li70 + 1)), .int (ft19)]) := by rw [e_mem83, va_up_self]
                have hh84 := (va_up_ne mem78 (.inr (4, [.ref (ad 1), .ref (ad 5), .int (nI (li70 + 1)), .int (ft19)])) (show (1 : Nat) ≠ 222 by first | decide | assumption | omega)).trans hh79
                rw [← e_mem83] at hh84
                have hh85 := (va_up_ne mem78 (.inr (4, [.ref (ad 1), .ref (ad 5), .int (nI (li70 + 1)), .int (ft19)])) (show (5 : Nat) ≠ 222 by first | decide | assumption | omega)).trans hh80
                rw [← e_mem83] at hh85
                have hh86 := (va_up_ne mem78 (.inr (4, [.ref (ad 1), .ref (ad 5), .int (nI (li70 + 1)), .int (ft19)])) (show (220 : Nat) ≠ 222 by first | decide | assumption | omega)).trans hh81
                rw [← e_mem83] at hh86
                have hRX87 : RX cy ad lim (li70 + 1) (R) (Ec) (to) (nm) m0 mem83 := by rw [e_mem83]; exact hRX82.at
                refine lv_iinc (lv' := [(3, .int ((nI k + (1)))), (2, .int (0)), (5, .int (nI li70)), (4, .int (hereF Z T (a1))), (1, .int (nI a)), (0, .ref (ad 222))]) Bx.1 Bx.2.1 d_Rd_readGap_119 hl (k := 3) rfl rfl (by decide) rfl (fun ls hl => ?_)
                rw [show (nI k + (1) : Int32) = nI (k + 1) from nI_1 (k)] at hl
                refine lv_goto Bx.1 Bx.2.1 d_Rd_readGap_122 rfl ?_
                exact ih17 mem83 (li70 + 1) (k + 1) (false) _ _ _ (by have := hmeas18; omega) (hRX87) (⟨by omega, by omega, by omega, by omega⟩) (by show gapF T Z _ = _; rw [← hz16r, hgy]) hP hD hS (lv_sub hl [0, 1, 4, 5] rfl)
              · refine lv_goto Bx.1 Bx.2.1 d_Rd_readGap_69 rfl ?_
                have hga : gapF T Z a = a1 := by rw [← hz16r]; exact gapF_lfn (by omega) h10 (by rw [← ea71]; exact hb76)
                refine lv_aload_n Bx.1 Bx.2.1 d_Rd_readGap_125 rfl (lv_at hl 5 rfl) ?_
                refine f_get Bx hP (by omega) h9_20 rfl inRd 2 (by decide) kw_146 rfl rfl d_Rd_readGap_126 ?_
                refine lv_iload_n Bx.1 Bx.2.1 d_Rd_readGap_129 rfl (lv_at hl 4 rfl) ?_
                refine lv_icmp_le Bx.1 Bx.2.1 d_Rd_readGap_130 rfl (fun hb88 => ?_) (fun hb88 => ?_)
                · have hN89 : a1 ≤ a := (nI_leI (by omega) (by omega)).mp (show nI (a1) ≤ nI (a) from hb88)
                  refine lv_iconst (v := 0) Bx.1 Bx.2.1 d_Rd_readGap_137 (by decide) ?_
                  exact W.zret (v := 0) hx hb hr rfl (fun t ht hW => ⟨⟨0, mem9, rfl, ⟨by rw [hga]; exact hz14, Or.inr ⟨rfl, by omega⟩⟩, by show va_P _ _ _ t.heap; rw [ht]; exact hP⟩, hS.F ht⟩) hS.2.2 d_Rd_readGap_138
                · have hN90 : ¬ a1 ≤ a := fun q9 => hb88 (show nI (a1) ≤ nI (a) from (nI_leI (by omega) (by omega)).mpr q9)
                  refine lv_iconst (v := 1) Bx.1 Bx.2.1 d_Rd_readGap_133 (by decide) ?_
                  refine lv_goto Bx.1 Bx.2.1 d_Rd_readGap_134 rfl ?_
                  exact W.zret (v := 1) hx hb hr rfl (fun t ht hW => ⟨⟨1, mem9, rfl, ⟨by rw [hga]; exact hz14, Or.inl ⟨rfl, by omega⟩⟩, by show va_P _ _ _ t.heap; rw [ht]; exact hP⟩, hS.F ht⟩) hS.2.2 d_Rd_readGap_138
      | true =>
        have hz16r : gapC T Z a1 = gapF T Z a := hz16
        have hl : lv_has ls 6 [(3, .int (nI k)), (2, .int (1)), (1, .int (nI a)), (0, .ref (ad 222))] := hl
        refine lv_iload_n Bx.1 Bx.2.1 d_Rd_readGap_9 rfl (lv_at hl 0 rfl) ?_
        refine lv_sipush (v := 240) Bx.1 Bx.2.1 d_Rd_readGap_10 (by decide) ?_
        refine lv_icmp_ge Bx.1 Bx.2.1 d_Rd_readGap_13 rfl (fun hb91 => ?_) (fun hb91 => ?_)
        · have hN92 : 240 ≤ k := (nI_leI (by omega) (by omega)).mp (show nI (240) ≤ nI (k) from hb91)
          have hga : gapF T Z a = a1 := by rw [← hz16r]; exact gapC_end (by omega)
          refine lv_aload_n Bx.1 Bx.2.1 d_Rd_readGap_125 rfl (lv_at hl 3 rfl) ?_
          refine f_get Bx hP (by omega) h9_20 rfl inRd 2 (by decide) kw_146 rfl rfl d_Rd_readGap_126 ?_
          refine lv_iload_n Bx.1 Bx.2.1 d_Rd_readGap_129 rfl (lv_at hl 2 rfl) ?_
          refine lv_icmp_le Bx.1 Bx.2.1 d_Rd_readGap_130 rfl (fun hb93 => ?_) (fun hb93 => ?_)
          · have hN94 : a1 ≤ a := (nI_leI (by omega) (by omega)).mp (show nI (a1) ≤ nI (a) from hb93)
            refine lv_iconst (v := 0) Bx.1 Bx.2.1 d_Rd_readGap_137 (by decide) ?_
            exact W.zret (v := 0) hx hb hr rfl (fun t ht hW => ⟨⟨0, mem9, rfl, ⟨by rw [hga]; exact hz14, Or.inr ⟨rfl, by omega⟩⟩, by show va_P _ _ _ t.heap; rw [ht]; exact hP⟩, hS.F ht⟩) hS.2.2 d_Rd_readGap_138
          · have hN95 : ¬ a1 ≤ a := fun q9 => hb93 (show nI (a1) ≤ nI (a) from (nI_leI (by omega) (by omega)).mpr q9)
            refine lv_iconst (v := 1) Bx.1 Bx.2.1 d_Rd_readGap_133 (by decide) ?_
            refine lv_goto Bx.1 Bx.2.1 d_Rd_readGap_134 rfl ?_
            exact W.zret (v := 1) hx hb hr rfl (fun t ht hW => ⟨⟨1, mem9, rfl, ⟨by rw [hga]; exact hz14, Or.inl ⟨rfl, by omega⟩⟩, by show va_P _ _ _ t.heap; rw [ht]; exact hP⟩, hS.F ht⟩) hS.2.2 d_Rd_readGap_138
        · have hN96 : ¬ 240 ≤ k := fun q9 => hb91 (show nI (240) ≤ nI (k) from (nI_leI (by omega) (by omega)).mpr q9)
          refine lv_aload_n Bx.1 Bx.2.1 d_Rd_readGap_16 rfl (lv_at hl 3 rfl) ?_
          refine f_get Bx hP (by omega) h9_20 rfl inRd 2 (by decide) kw_146 rfl rfl d_Rd_readGap_17 ?_
          refine lv_aload_n Bx.1 Bx.2.1 d_Rd_readGap_20 rfl (lv_at hl 3 rfl) ?_
          refine f_get Bx hP (by omega) h9_20 rfl inRd 0 (by decide) kw_144 rfl rfl d_Rd_readGap_21 ?_
          refine f_getN Bx hP (by omega) h1_21 rfl inCh 1 (by decide) kw_33 rfl rfl d_Rd_readGap_24 ?_
          refine lv_icmp_ge Bx.1 Bx.2.1 d_Rd_readGap_27 rfl (fun hb97 => ?_) (fun hb97 => ?_)
          · have hN98 : Z ≤ a1 := (nI_leI (by omega) (by omega)).mp (show nI (Z) ≤ nI (a1) from hb97)
            have hga : gapF T Z a = a1 := by rw [← hz16r]; exact gapC_end (by omega)
            refine lv_aload_n Bx.1 Bx.2.1 d_Rd_readGap_125 rfl (lv_at hl 3 rfl) ?_
            refine f_get Bx hP (by omega) h9_20 rfl inRd 2 (by decide) kw_146 rfl rfl d_Rd_readGap_126 ?_
            refine lv_iload_n Bx.1 Bx.2.1 d_Rd_readGap_129 rfl (lv_at hl 2 rfl) ?_
            refine lv_icmp_le Bx.1 Bx.2.1 d_Rd_readGap_130 rfl (fun hb99 => ?_) (fun hb99 => ?_)
            · have hN100 : a1 ≤ a := (nI_leI (by omega) (by omega)).mp (show nI (a1) ≤ nI (a) from hb99)
              refine lv_iconst (v := 0) Bx.1 Bx.2.1 d_Rd_readGap_137 (by decide) ?_
              exact W.zret (v := 0) hx hb hr rfl (fun t ht hW => ⟨⟨0, mem9, rfl, ⟨by rw [hga]; exact hz14, Or.inr ⟨rfl, by omega⟩⟩, by show va_P _ _ _ t.heap; rw [ht]; exact hP⟩, hS.F ht⟩) hS.2.2 d_Rd_readGap_138
            · have hN101 : ¬ a1 ≤ a := fun q9 => hb99 (show nI (a1) ≤ nI (a) from (nI_leI (by omega) (by omega)).mpr q9)
              refine lv_iconst (v := 1) Bx.1 Bx.2.1 d_Rd_readGap_133 (by decide) ?_
              refine lv_goto Bx.1 Bx.2.1 d_Rd_readGap_134 rfl ?_
              exact W.zret (v := 1) hx hb hr rfl (fun t ht hW => ⟨⟨1, mem9, rfl, ⟨by rw [hga]; exact hz14, Or.inl ⟨rfl, by omega⟩⟩, by show va_P _ _ _ t.heap; rw [ht]; exact hP⟩, hS.F ht⟩) hS.2.2 d_Rd_readGap_138
          · have hN102 : ¬ Z ≤ a1 := fun q9 => hb97 (show nI (Z) ≤ nI (a1) from (nI_leI (by omega) (by omega)).mpr q9)
            refine lv_aload_n Bx.1 Bx.2.1 d_Rd_readGap_30 rfl (lv_at hl 3 rfl) ?_
            refine f_callVi (na := 0) (As := []) (rest := []) Bx hml E hP hD hS (by omega) h9_20 rfl (m_Rd_peekX l hn hT hf hz14 (by omega)) kw_353 kw_355 sel_Rd_peek kw_6 kw_356 (by decide +kernel) ⟨rfl, rfl⟩ ⟨Nat.le_of_ble_eq_true rfl, Nat.le_of_ble_eq_true rfl⟩ rfl hl.1 (Nat.le_of_ble_eq_true rfl) d_Rd_readGap_31 ⟨Nat.le_of_ble_eq_true rfl, Nat.le_of_ble_eq_true rfl⟩ (fun r104 mem105 H locs hq hP hS => ?_)
            have hD : va_D (Az sz) (fw n ad mem105) := fw_D hD
            obtain ⟨hqe, hpk103⟩ := hq
            rw [hqe] at hP hD
            subst hpk103
            have hTk : hereF Z T (a1) = T a1 := hereF_at (by omega)
            refine lv_istore (lv' := [(4, .int (hereF Z T (a1))), (3, .int (nI k)), (2, .int (1)), (1, .int (nI a)), (0, .ref (ad 222))]) Bx.1 Bx.2.1 d_Rd_readGap_34 hl (by decide) rfl (fun ls hl => ?_)
            refine lv_iload Bx.1 Bx.2.1 d_Rd_readGap_36 (lv_at hl 0 rfl) ?_
            refine lv_bipush (v := 10) Bx.1 Bx.2.1 d_Rd_readGap_38 (by decide) ?_
            refine lv_icmp_ne Bx.1 Bx.2.1 d_Rd_readGap_40 rfl (fun hb107 => ?_) (fun hb107 => ?_)
            · have hn10 : ¬ T a1 = 10 := fun z => hb107 (hTk.trans z)
              refine lv_iload Bx.1 Bx.2.1 d_Rd_readGap_83 (lv_at hl 0 rfl) ?_
              refine lv_bipush (v := 59) Bx.1 Bx.2.1 d_Rd_readGap_85 (by decide) ?_
              refine lv_icmp_ne Bx.1 Bx.2.1 d_Rd_readGap_87 rfl (fun hb108 => ?_) (fun hb108 => ?_)
              · have hn59 : ¬ T a1 = 59 := fun z => hb108 (hTk.trans z)
                refine lv_iload Bx.1 Bx.2.1 d_Rd_readGap_95 (lv_at hl 0 rfl) ?_
                refine lv_bipush (v := 32) Bx.1 Bx.2.1 d_Rd_readGap_97 (by decide) ?_
                refine lv_icmp_eq Bx.1 Bx.2.1 d_Rd_readGap_99 rfl (fun hb109 => ?_) (fun hb109 => ?_)
                · have hlt110 := hereF_lt (by rw [hb109]; decide)
                  have h32 : T a1 = 32 := hTk.symm.trans hb109
                  refine lv_aload_n Bx.1 Bx.2.1 d_Rd_readGap_109 rfl (lv_at hl 4 rfl) ?_
                  refine lv_dup Bx.1 Bx.2.1 d_Rd_readGap_110 rfl ?_
                  refine f_get Bx hP (by omega) h9_20 rfl inRd 2 (by decide) kw_146 rfl rfl d_Rd_readGap_111 ?_
                  refine lv_iconst (v := 1) Bx.1 Bx.2.1 d_Rd_readGap_114 (by decide) ?_
                  refine lv_iadd Bx.1 Bx.2.1 d_Rd_readGap_115 ?_
                  rw [show nI a1 + 1 = nI (a1 + 1) from nI_add (a1) (1)]
                  refine f_put Bx hP hD hS (by omega) h9_20 rfl inRd tyRd okRd nmRd 2 (by decide) kw_146 rfl rfl rfl rfl (Nat.le_of_ble_eq_true rfl) d_Rd_readGap_116 (fun H locs hP hS => ?_)
                  obtain ⟨mem111, e_mem111⟩ : ∃ z, z = va_up mem9 (222) (.inr (4, [.ref (ad 1), .ref (ad 5), .int (nI (a1 + 1)), .int (ft19)])) := ⟨_, rfl⟩
                  have hP : va_P D vcl (fw n ad mem111) H := by rw [e_mem111]; exact hP
                  have hD : va_D (Az sz) (fw n ad mem111) := fw_D hD
                  have h_mem111 : mem111 (222) = .inr (4, [.ref (ad 1), .ref (ad 5), .int (nI (a1 + 1)), .int (ft19)]) := by rw [e_mem111, va_up_self]
                  have hh112 := (va_up_ne mem9 (.inr (4, [.ref (ad 1), .ref (ad 5), .int (nI (a1 + 1)), .int (ft19)])) (show (1 : Nat) ≠ 222 by first | decide | assumption | omega)).trans h1_21
                  rw [← e_mem111] at hh112
                  have hh113 := (va_up_ne mem9 (.inr (4, [.ref (ad 1), .ref (ad 5), .int (nI (a1 + 1)), .int (ft19)])) (show (5 : Nat) ≠ 222 by first | decide | assumption | omega)).trans h5_23
                  rw [← e_mem111] at hh113
                  have hh114 := (va_up_ne mem9 (.inr (4, [.ref (ad 1), .ref (ad 5), .int (nI (a1 + 1)), .int (ft19)])) (show (220 : Nat) ≠ 222 by first | decide | assumption | omega)).trans h220_27
                  rw [← e_mem111] at hh114
                  have hRX115 : RX cy ad lim (a1 + 1) (R) (Ec) (to) (nm) m0 mem111 := by rw [e_mem111]; exact hz14.at
                  refine lv_iinc (lv' := [(3, .int ((nI k + (1)))), (4, .int (hereF Z T (a1))), (2, .int (1)), (1, .int (nI a)), (0, .ref (ad 222))]) Bx.1 Bx.2.1 d_Rd_readGap_119 hl (k := 1) rfl rfl (by decide) rfl (fun ls hl => ?_)
                  rw [show (nI k + (1) : Int32) = nI (k + 1) from nI_1 (k)] at hl
                  refine lv_goto Bx.1 Bx.2.1 d_Rd_readGap_122 rfl ?_
                  exact ih17 mem111 (a1 + 1) (k + 1) (true) _ _ _ (by have := hmeas18; omega) (hRX115) (⟨by omega, by omega, by omega, by omega⟩) (by show gapC T Z _ = _; rw [← hz16r, gapC_on (by omega) hn10]) hP hD hS (lv_sub hl [0, 2, 3, 4] rfl)
                · have hn32 : ¬ T a1 = 32 := fun z => hb109 (hTk.trans z)
                  refine lv_iload_n Bx.1 Bx.2.1 d_Rd_readGap_102 rfl (lv_at hl 2 rfl) ?_
                  refine lv_if_ne Bx.1 Bx.2.1 d_Rd_readGap_103 rfl (fun hb116 => ?_) (fun hb116 => ?_)
                  · refine lv_aload_n Bx.1 Bx.2.1 d_Rd_readGap_109 rfl (lv_at hl 4 rfl) ?_
                    refine lv_dup Bx.1 Bx.2.1 d_Rd_readGap_110 rfl ?_
                    refine f_get Bx hP (by omega) h9_20 rfl inRd 2 (by decide) kw_146 rfl rfl d_Rd_readGap_111 ?_
                    refine lv_iconst (v := 1) Bx.1 Bx.2.1 d_Rd_readGap_114 (by decide) ?_
                    refine lv_iadd Bx.1 Bx.2.1 d_Rd_readGap_115 ?_
                    rw [show nI a1 + 1 = nI (a1 + 1) from nI_add (a1) (1)]
                    refine f_put Bx hP hD hS (by omega) h9_20 rfl inRd tyRd okRd nmRd 2 (by decide) kw_146 rfl rfl rfl rfl (Nat.le_of_ble_eq_true rfl) d_Rd_readGap_116 (fun H locs hP hS => ?_)
                    obtain ⟨mem117, e_mem117⟩ : ∃ z, z = va_up mem9 (222) (.inr (4, [.ref (ad 1), .ref (ad 5), .int (nI (a1 + 1)), .int (ft19)])) := ⟨_, rfl⟩
                    have hP : va_P D vcl (fw n ad mem117) H := by rw [e_mem117]; exact hP
                    have hD : va_D (Az sz) (fw n ad mem117) := fw_D hD
                    have h_mem117 : mem117 (222) = .inr (4, [.ref (ad 1), .ref (ad 5), .int (nI (a1 + 1)), .int (ft19)]) := by rw [e_mem117, va_up_self]
                    have hh118 := (va_up_ne mem9 (.inr (4, [.ref (ad 1), .ref (ad 5), .int (nI (a1 + 1)), .int (ft19)])) (show (1 : Nat) ≠ 222 by first | decide | assumption | omega)).trans h1_21
                    rw [← e_mem117] at hh118
                    have hh119 := (va_up_ne mem9 (.inr (4, [.ref (ad 1), .ref (ad 5), .int (nI (a1 + 1)), .int (ft19)])) (show (5 : Nat) ≠ 222 by first | decide | assumption | omega)).trans h5_23
                    rw [← e_mem117] at hh119
                    have hh120 := (va_up_ne mem9 (.inr (4, [.ref (ad 1), .ref (ad 5), .int (nI (a1 + 1)), .int (ft19)])) (show (220 : Nat) ≠ 222 by first | decide | assumption | omega)).trans h220_27
                    rw [← e_mem117] at hh120
                    have hRX121 : RX cy ad lim (a1 + 1) (R) (Ec) (to) (nm) m0 mem117 := by rw [e_mem117]; exact hz14.at
                    refine lv_iinc (lv' := [(3, .int ((nI k + (1)))), (4, .int (hereF Z T (a1))), (2, .int (1)), (1, .int (nI a)), (0, .ref (ad 222))]) Bx.1 Bx.2.1 d_Rd_readGap_119 hl (k := 1) rfl rfl (by decide) rfl (fun ls hl => ?_)
                    rw [show (nI k + (1) : Int32) = nI (k + 1) from nI_1 (k)] at hl
                    refine lv_goto Bx.1 Bx.2.1 d_Rd_readGap_122 rfl ?_
                    exact ih17 mem117 (a1 + 1) (k + 1) (true) _ _ _ (by have := hmeas18; omega) (hRX121) (⟨by omega, by omega, by omega, by omega⟩) (by show gapC T Z _ = _; rw [← hz16r, gapC_on (by omega) hn10]) hP hD hS (lv_sub hl [0, 2, 3, 4] rfl)
                  · exact absurd hb116 (by decide)
              · have hlt122 := hereF_lt (by rw [hb108]; decide)
                have h59 : T a1 = 59 := hTk.symm.trans hb108
                refine lv_iconst (v := 1) Bx.1 Bx.2.1 d_Rd_readGap_90 (by decide) ?_
                refine lv_istore_n (lv' := [(2, .int (1)), (4, .int (hereF Z T (a1))), (3, .int (nI k)), (1, .int (nI a)), (0, .ref (ad 222))]) Bx.1 Bx.2.1 d_Rd_readGap_91 rfl hl (by decide) rfl (fun ls hl => ?_)
                refine lv_goto Bx.1 Bx.2.1 d_Rd_readGap_92 rfl ?_
                refine lv_aload_n Bx.1 Bx.2.1 d_Rd_readGap_109 rfl (lv_at hl 4 rfl) ?_
                refine lv_dup Bx.1 Bx.2.1 d_Rd_readGap_110 rfl ?_
                refine f_get Bx hP (by omega) h9_20 rfl inRd 2 (by decide) kw_146 rfl rfl d_Rd_readGap_111 ?_
                refine lv_iconst (v := 1) Bx.1 Bx.2.1 d_Rd_readGap_114 (by decide) ?_
                refine lv_iadd Bx.1 Bx.2.1 d_Rd_readGap_115 ?_
                rw [show nI a1 + 1 = nI (a1 + 1) from nI_add (a1) (1)]
                refine f_put Bx hP hD hS (by omega) h9_20 rfl inRd tyRd okRd nmRd 2 (by decide) kw_146 rfl rfl rfl rfl (Nat.le_of_ble_eq_true rfl) d_Rd_readGap_116 (fun H locs hP hS => ?_)
                obtain ⟨mem123, e_mem123⟩ : ∃ z, z = va_up mem9 (222) (.inr (4, [.ref (ad 1), .ref (ad 5), .int (nI (a1 + 1)), .int (ft19)])) := ⟨_, rfl⟩
                have hP : va_P D vcl (fw n ad mem123) H := by rw [e_mem123]; exact hP
                have hD : va_D (Az sz) (fw n ad mem123) := fw_D hD
                have h_mem123 : mem123 (222) = .inr (4, [.ref (ad 1), .ref (ad 5), .int (nI (a1 + 1)), .int (ft19)]) := by rw [e_mem123, va_up_self]
                have hh124 := (va_up_ne mem9 (.inr (4, [.ref (ad 1), .ref (ad 5), .int (nI (a1 + 1)), .int (ft19)])) (show (1 : Nat) ≠ 222 by first | decide | assumption | omega)).trans h1_21
                rw [← e_mem123] at hh124
                have hh125 := (va_up_ne mem9 (.inr (4, [.ref (ad 1), .ref (ad 5), .int (nI (a1 + 1)), .int (ft19)])) (show (5 : Nat) ≠ 222 by first | decide | assumption | omega)).trans h5_23
                rw [← e_mem123] at hh125
                have hh126 := (va_up_ne mem9 (.inr (4, [.ref (ad 1), .ref (ad 5), .int (nI (a1 + 1)), .int (ft19)])) (show (220 : Nat) ≠ 222 by first | decide | assumption | omega)).trans h220_27
                rw [← e_mem123] at hh126
                have hRX127 : RX cy ad lim (a1 + 1) (R) (Ec) (to) (nm) m0 mem123 := by rw [e_mem123]; exact hz14.at
                refine lv_iinc (lv' := [(3, .int ((nI k + (1)))), (2, .int (1)), (4, .int (hereF Z T (a1))), (1, .int (nI a)), (0, .ref (ad 222))]) Bx.1 Bx.2.1 d_Rd_readGap_119 hl (k := 2) rfl rfl (by decide) rfl (fun ls hl => ?_)
                rw [show (nI k + (1) : Int32) = nI (k + 1) from nI_1 (k)] at hl
                refine lv_goto Bx.1 Bx.2.1 d_Rd_readGap_122 rfl ?_
                exact ih17 mem123 (a1 + 1) (k + 1) (true) _ _ _ (by have := hmeas18; omega) (hRX127) (⟨by omega, by omega, by omega, by omega⟩) (by show gapC T Z _ = _; rw [← hz16r, gapC_on (by omega) hn10]) hP hD hS (lv_sub hl [0, 1, 3, 4] rfl)
            · have hlt128 := hereF_lt (by rw [hb107]; decide)
              have h10 : T a1 = 10 := hTk.symm.trans hb107
              refine lv_aload_n Bx.1 Bx.2.1 d_Rd_readGap_43 rfl (lv_at hl 4 rfl) ?_
              refine lv_aload_n Bx.1 Bx.2.1 d_Rd_readGap_44 rfl (lv_at hl 4 rfl) ?_
              refine f_get Bx hP (by omega) h9_20 rfl inRd 2 (by decide) kw_146 rfl rfl d_Rd_readGap_45 ?_
              refine lv_iconst (v := 1) Bx.1 Bx.2.1 d_Rd_readGap_48 (by decide) ?_
              refine lv_iadd Bx.1 Bx.2.1 d_Rd_readGap_49 ?_
              rw [show nI a1 + 1 = nI (a1 + 1) from nI_add (a1) (1)]
              refine f_callVi (na := 1) (As := [.int (nI (a1 + 1))]) (rest := []) Bx hml E hP hD hS (by omega) h9_20 rfl (m_Rd_fullLineFromX l hn hT hf hz14 (k0 := a1 + 1) (by omega)) kw_337 kw_339 sel_Rd_fullLineFrom kw_6 kw_340 (by decide +kernel) ⟨rfl, rfl⟩ ⟨Nat.le_of_ble_eq_true rfl, Nat.le_of_ble_eq_true rfl⟩ rfl hl.1 (Nat.le_of_ble_eq_true rfl) d_Rd_readGap_50 ⟨Nat.le_of_ble_eq_true rfl, Nat.le_of_ble_eq_true rfl⟩ (fun r130 mem131 H locs hq hP hS => ?_)
              have hD : va_D (Az sz) (fw n ad mem131) := fw_D hD
              obtain ⟨hqe, hfl129⟩ := hq
              rw [hqe] at hP hD
              obtain ⟨li133, ea134⟩ : ∃ z, z = lineF T Z (a1 + 1) := ⟨_, rfl⟩
              rw [← ea134] at hfl129
              subst hfl129
              have hb135 : li133 ≤ Z := by rw [ea134]; exact lineF_le T Z _
              refine lv_istore (lv' := [(5, .int (nI li133)), (4, .int (hereF Z T (a1))), (3, .int (nI k)), (2, .int (1)), (1, .int (nI a)), (0, .ref (ad 222))]) Bx.1 Bx.2.1 d_Rd_readGap_53 hl (by decide) rfl (fun ls hl => ?_)
              refine lv_aload_n Bx.1 Bx.2.1 d_Rd_readGap_55 rfl (lv_at hl 5 rfl) ?_
              refine f_get Bx hP (by omega) h9_20 rfl inRd 0 (by decide) kw_144 rfl rfl d_Rd_readGap_56 ?_
              refine lv_iload Bx.1 Bx.2.1 d_Rd_readGap_59 (lv_at hl 0 rfl) ?_
              refine f_callVi (na := 1) (As := [.int (nI li133)]) (rest := []) Bx hml E hP hD hS (by omega) h1_21 rfl (m_Ch_codeAt l (by omega) h1_21 (by omega) h2_22 (by rw [nI_toInt (by omega)]; omega)) kw_341 kw_342 kw_343 kw_2 kw_344 (by decide +kernel) ⟨rfl, rfl⟩ ⟨Nat.le_of_ble_eq_true rfl, Nat.le_of_ble_eq_true rfl⟩ rfl hl.1 (Nat.le_of_ble_eq_true rfl) d_Rd_readGap_61 ⟨Nat.le_of_ble_eq_true rfl, Nat.le_of_ble_eq_true rfl⟩ (fun r136 mem137 H locs hq hP hS => ?_)
              have hD : va_D (Az sz) (fw n ad mem137) := fw_D hD
              obtain ⟨hco138, hqe⟩ := hq
              rw [hqe] at hP hD
              rw [code_here hf hT.2.1 (k := li133) (by omega)] at hco138
              subst hco138
              refine lv_bipush (v := 32) Bx.1 Bx.2.1 d_Rd_readGap_64 (by decide) ?_
              refine lv_icmp_eq Bx.1 Bx.2.1 d_Rd_readGap_66 rfl (fun hb139 => ?_) (fun hb139 => ?_)
              · have hlt140 := hereF_lt (by rw [hb139]; decide)
                obtain ⟨hll, hgy⟩ := gapF_lfy (by omega) h10 (show hereF Z T (lineF T Z (a1 + 1)) = 32 by rw [← ea134]; exact hb139)
                rw [← ea134] at hll hgy
                have hge : a1 + 1 ≤ li133 := by rw [ea134]; exact lineF_ge T (by omega)
                refine lv_aload_n Bx.1 Bx.2.1 d_Rd_readGap_72 rfl (lv_at hl 5 rfl) ?_
                refine lv_iload Bx.1 Bx.2.1 d_Rd_readGap_73 (lv_at hl 0 rfl) ?_
                refine f_put Bx hP hD hS (by omega) h9_20 rfl inRd tyRd okRd nmRd 2 (by decide) kw_146 rfl rfl rfl rfl (Nat.le_of_ble_eq_true rfl) d_Rd_readGap_75 (fun H locs hP hS => ?_)
                obtain ⟨mem141, e_mem141⟩ : ∃ z, z = va_up mem9 (222) (.inr (4, [.ref (ad 1), .ref (ad 5), .int (nI li133), .int (ft19)])) := ⟨_, rfl⟩
                have hP : va_P D vcl (fw n ad mem141) H := by rw [e_mem141]; exact hP
                have hD : va_D (Az sz) (fw n ad mem141) := fw_D hD
                have h_mem141 : mem141 (222) = .inr (4, [.ref (ad 1), .ref (ad 5), .int (nI li133), .int (ft19)]) := by rw [e_mem141, va_up_self]
                have hh142 := (va_up_ne mem9 (.inr (4, [.ref (ad 1), .ref (ad 5), .int (nI li133), .int (ft19)])) (show (1 : Nat) ≠ 222 by first | decide | assumption | omega)).trans h1_21
                rw [← e_mem141] at hh142
                have hh143 := (va_up_ne mem9 (.inr (4, [.ref (ad 1), .ref (ad 5), .int (nI li133), .int (ft19)])) (show (5 : Nat) ≠ 222 by first | decide | assumption | omega)).trans h5_23
                rw [← e_mem141] at hh143
                have hh144 := (va_up_ne mem9 (.inr (4, [.ref (ad 1), .ref (ad 5), .int (nI li133), .int (ft19)])) (show (220 : Nat) ≠ 222 by first | decide | assumption | omega)).trans h220_27
                rw [← e_mem141] at hh144
                have hRX145 : RX cy ad lim (li133) (R) (Ec) (to) (nm) m0 mem141 := by rw [e_mem141]; exact hz14.at
                refine lv_iconst (v := 0) Bx.1 Bx.2.1 d_Rd_readGap_78 (by decide) ?_
                refine lv_istore_n (lv' := [(2, .int (0)), (5, .int (nI li133)), (4, .int (hereF Z T (a1))), (3, .int (nI k)), (1, .int (nI a)), (0, .ref (ad 222))]) Bx.1 Bx.2.1 d_Rd_readGap_79 rfl hl (by decide) rfl (fun ls hl => ?_)
                refine lv_goto Bx.1 Bx.2.1 d_Rd_readGap_80 rfl ?_
                refine lv_aload_n Bx.1 Bx.2.1 d_Rd_readGap_109 rfl (lv_at hl 5 rfl) ?_
                refine lv_dup Bx.1 Bx.2.1 d_Rd_readGap_110 rfl ?_
                refine f_get Bx hP (by omega) h_mem141 rfl inRd 2 (by decide) kw_146 rfl rfl d_Rd_readGap_111 ?_
                refine lv_iconst (v := 1) Bx.1 Bx.2.1 d_Rd_readGap_114 (by decide) ?_
                refine lv_iadd Bx.1 Bx.2.1 d_Rd_readGap_115 ?_
                rw [show nI li133 + 1 = nI (li133 + 1) from nI_add (li133) (1)]
                refine f_put Bx hP hD hS (by omega) h_mem141 rfl inRd tyRd okRd nmRd 2 (by decide) kw_146 rfl rfl rfl rfl (Nat.le_of_ble_eq_true rfl) d_Rd_readGap_116 (fun H locs hP hS => ?_)
                obtain ⟨mem146, e_mem146⟩ : ∃ z, z = va_up mem141 (222) (.inr (4, [.ref (ad 1), .ref (ad 5), .int (nI (li133 + 1)), .int (ft19)])) := ⟨_, rfl⟩
                have hP : va_P D vcl (fw n ad mem146) H := by rw [e_mem146]; exact hP
                have hD : va_D (Az sz) (fw n ad mem146) := fw_D hD
                have h_mem146 : mem146 (222) = .inr (4, [.ref (ad 1), .ref (ad 5), .int (nI (li133 + 1)), .int (ft19)]) := by rw [e_mem146, va_up_self]
                have hh147 := (va_up_ne mem141 (.inr (4, [.ref (ad 1), .ref (ad 5), .int (nI (li133 + 1)), .int (ft19)])) (show (1 : Nat) ≠ 222 by first | decide | assumption | omega)).trans hh142
                rw [← e_mem146] at hh147
                have hh148 := (va_up_ne mem141 (.inr (4, [.ref (ad 1), .ref (ad 5), .int (nI (li133 + 1)), .int (ft19)])) (show (5 : Nat) ≠ 222 by first | decide | assumption | omega)).trans hh143
                rw [← e_mem146] at hh148
                have hh149 := (va_up_ne mem141 (.inr (4, [.ref (ad 1), .ref (ad 5), .int (nI (li133 + 1)), .int (ft19)])) (show (220 : Nat) ≠ 222 by first | decide | assumption | omega)).trans hh144
                rw [← e_mem146] at hh149
                have hRX150 : RX cy ad lim (li133 + 1) (R) (Ec) (to) (nm) m0 mem146 := by rw [e_mem146]; exact hRX145.at
                refine lv_iinc (lv' := [(3, .int ((nI k + (1)))), (2, .int (0)), (5, .int (nI li133)), (4, .int (hereF Z T (a1))), (1, .int (nI a)), (0, .ref (ad 222))]) Bx.1 Bx.2.1 d_Rd_readGap_119 hl (k := 3) rfl rfl (by decide) rfl (fun ls hl => ?_)
                rw [show (nI k + (1) : Int32) = nI (k + 1) from nI_1 (k)] at hl
                refine lv_goto Bx.1 Bx.2.1 d_Rd_readGap_122 rfl ?_
                exact ih17 mem146 (li133 + 1) (k + 1) (false) _ _ _ (by have := hmeas18; omega) (hRX150) (⟨by omega, by omega, by omega, by omega⟩) (by show gapF T Z _ = _; rw [← hz16r, gapC_lf (by omega) h10, hgy]) hP hD hS (lv_sub hl [0, 1, 4, 5] rfl)
              · refine lv_goto Bx.1 Bx.2.1 d_Rd_readGap_69 rfl ?_
                have hga : gapF T Z a = a1 := by rw [← hz16r]; exact (gapC_lf (by omega) h10).trans (gapF_lfn (by omega) h10 (by rw [← ea134]; exact hb139))
                refine lv_aload_n Bx.1 Bx.2.1 d_Rd_readGap_125 rfl (lv_at hl 5 rfl) ?_
                refine f_get Bx hP (by omega) h9_20 rfl inRd 2 (by decide) kw_146 rfl rfl d_Rd_readGap_126 ?_
                refine lv_iload_n Bx.1 Bx.2.1 d_Rd_readGap_129 rfl (lv_at hl 4 rfl) ?_
                refine lv_icmp_le Bx.1 Bx.2.1 d_Rd_readGap_130 rfl (fun hb151 => ?_) (fun hb151 => ?_)
                · have hN152 : a1 ≤ a := (nI_leI (by omega) (by omega)).mp (show nI (a1) ≤ nI (a) from hb151)
                  refine lv_iconst (v := 0) Bx.1 Bx.2.1 d_Rd_readGap_137 (by decide) ?_
                  exact W.zret (v := 0) hx hb hr rfl (fun t ht hW => ⟨⟨0, mem9, rfl, ⟨by rw [hga]; exact hz14, Or.inr ⟨rfl, by omega⟩⟩, by show va_P _ _ _ t.heap; rw [ht]; exact hP⟩, hS.F ht⟩) hS.2.2 d_Rd_readGap_138
                · have hN153 : ¬ a1 ≤ a := fun q9 => hb151 (show nI (a1) ≤ nI (a) from (nI_leI (by omega) (by omega)).mpr q9)
                  refine lv_iconst (v := 1) Bx.1 Bx.2.1 d_Rd_readGap_133 (by decide) ?_
                  refine lv_goto Bx.1 Bx.2.1 d_Rd_readGap_134 rfl ?_
                  exact W.zret (v := 1) hx hb hr rfl (fun t ht hW => ⟨⟨1, mem9, rfl, ⟨by rw [hga]; exact hz14, Or.inl ⟨rfl, by omega⟩⟩, by show va_P _ _ _ t.heap; rw [ht]; exact hP⟩, hS.F ht⟩) hS.2.2 d_Rd_readGap_138
  exact loop12 _ mem (a) (0) (false) _ _ _ (Nat.lt_succ_self _) (hRX) (⟨by omega, by omega, by omega, by omega⟩) (rfl) hP hD hS (lv_sub hl [0, 1, 2, 3] rfl)
