theorem stc_e {ch inp : Nat → Int32} {I i o r m : Nat} {sm : Bool} (hs : sm = false) (h : ch (o + m) = hereF I inp (i + m)) : stcN ch inp I sm i o (r + 1) m = stcN ch inp I sm i o r (m + 1) := by subst hs; rw [stcN]; simp only [Bool.false_eq_true, if_false]; rw [if_pos h]
theorem stc_en {ch inp : Nat → Int32} {I i o r m : Nat} {sm : Bool} (hs : sm = false) (h : ¬ ch (o + m) = hereF I inp (i + m)) : stcN ch inp I sm i o (r + 1) m = false := by subst hs; rw [stcN]; simp only [Bool.false_eq_true, if_false]; rw [if_neg h]
theorem stc_s {ch inp : Nat → Int32} {I i o r m : Nat} {sm : Bool} (hs : sm = true) (h : smF (ch (o + m)) = smF (hereF I inp (i + m))) : stcN ch inp I sm i o (r + 1) m = stcN ch inp I sm i o r (m + 1) := by subst hs; rw [stcN]; simp only [if_true]; rw [if_pos h]
theorem stc_sn {ch inp : Nat → Int32} {I i o r m : Nat} {sm : Bool} (hs : sm = true) (h : ¬ smF (ch (o + m)) = smF (hereF I inp (i + m))) : stcN ch inp I sm i o (r + 1) m = false := by subst hs; rw [stcN]; simp only [if_true]; rw [if_neg h]
set_option maxHeartbeats 4000000 in
set_option maxRecDepth 100000 in
theorem m_Ct_isStringAtX (l : Launch) {D : va_G} {cy : Nat → ClassId} {sz n : Nat} {ad : Nat → Nat} {mem : Nat → va_E} {I lim rc ec : Nat} {wh fl : Int32} {m0 : Nat → va_E} {Bw : Ro} {g inp : Nat → Int32} {k o9 t9 i0 : Nat} (hn : 224 ≤ n) (hY : IY cy ad I inp m0) (hC : CS cy ad lim rc ec wh fl m0 mem) (hE : EM cy ad rc ec Bw g mem) (hi0 : i0 ≤ I) (hk : k < ec) (ho9 : Bw 229 k = nI o9) (ht9 : Bw 230 k = nI (o9 + t9)) (hot : o9 + t9 ≤ 240) (hstr : ∃ S : Nat, S ≤ 240 ∧ mem 220 = .inr (0, [.ref (ad 221), .int (nI S)]) ∧ o9 + t9 ≤ S) : MI l D cy sz n ad y_Ct_isStringAt c_Ct_isStringAt 6 (some .boolean) ({ frames := 1, cells := 0, slots := 0, locals := 30 } : Room) mem [.ref (ad 223), .ref (ad (20 + 2 * k)), .int (nI i0)] (fun r mem' => mem' = mem ∧ r = (if stcN (Bw 234) inp I (decide (Bw 228 k = 5)) i0 o9 t9 0 then 1 else 0)) := by
  refine Met.ofW (cc := c_Ct_isStringAt) (maxL := 6) (ret := (some .boolean)) (by decide) rfl ?_
  intro p e s m args below meth c s₁ B hml hv
  obtain ⟨rfl, E, hP, hD⟩ := hv
  have hx := B.exec
  have hb := B.bytes
  have hr := B.returns
  have hlocks := B.notSynchronized
  have Bx : MB p s m [.ref (ad 223), .ref (ad (20 + 2 * k)), .int (nI i0)].toArray c c_Ct_isStringAt "AbnfChart$Chart" D cy := ⟨hx, hb, tb_all (atoms_spec B.pre) E.2.1, findClass_of_methodNamed B.named, E.1⟩
  have hS : va_S (Az sz) s.heap s.heap [] := va_S.rf
  have hl := lv_entry ([.ref (ad 223), .ref (ad (20 + 2 * k)), .int (nI i0)]) (n := 6) (Nat.le_of_ble_eq_true rfl)
  rw [lg_entry_eq]
  generalize (lg_sl ([.ref (ad 223), .ref (ad (20 + 2 * k)), .int (nI i0)]) ++ List.replicate (6 - (lg_sl ([.ref (ad 223), .ref (ad (20 + 2 * k)), .int (nI i0)])).length) Slot.unset).toArray = ls at hl ⊢
  have hl : lv_has ls 6 [(0, .ref (ad 223)), (1, .ref (ad (20 + 2 * k))), (2, .int (nI i0))] := hl
  have h3_1 : mem 3 = .inr (0, [.ref (ad 4), .int (nI I)]) := (hC.2.2 3 (by omega)).trans hY.1
  have h4_2 : mem 4 = .inl (cy 0, 24, .inl inp) := (hC.2.2 4 (by omega)).trans hY.2.2
  have h223_4 : mem 223 = .inr (1, [.ref (ad 3), .ref (ad 5), .int fl]) := (hC.2.2 223 (by omega)).trans hC.2.1
  have h5_3 := hC.1.2.1
  have hbd10 := hC.1.1
  have hbI11 := hY.2.1
  obtain ⟨S5, hS_6, h220_7, h221_8, hst9⟩ := hE.2.2
  have he_12 := hE.1 k (by omega)
  obtain ⟨S2, hS2, h2202, hst2⟩ := hstr
  have hSS : S2 = S5 := by
    have e := h2202.symm.trans h220_7
    injection e with e1
    injection e1 with _ e2
    injection e2 with _ e3
    injection e3 with e4
    injection e4 with e5
    exact (nI_eq (by omega) (by omega)).mp e5
  refine lv_aload_n Bx.1 Bx.2.1 d_Ct_isStringAt_0 rfl (lv_at hl 1 rfl) ?_
  refine f_getN Bx hP (by omega) he_12.1 rfl inEl 1 (by decide) kw_78 rfl rfl d_Ct_isStringAt_1 ?_
  rw [ho9]
  refine lv_istore_n (lv' := [(3, .int (nI o9)), (0, .ref (ad 223)), (1, .ref (ad (20 + 2 * k))), (2, .int (nI i0))]) Bx.1 Bx.2.1 d_Ct_isStringAt_4 rfl hl (by decide) rfl (fun ls hl => ?_)
  have loop13 : ∀ (d14 : Nat) (mq : Nat) (ls : Array Slot) (H : Heap) (locs : List Loc), (t9 - mq < d14) → (mq ≤ t9) → ((if stcN (Bw 234) inp I (decide (Bw 228 k = 5)) i0 o9 (t9 - mq) mq then (1 : Int32) else 0) = (if stcN (Bw 234) inp I (decide (Bw 228 k = 5)) i0 o9 t9 0 then 1 else 0)) → (va_P D vcl (fw n ad mem) H) → (va_D (Az sz) (fw n ad mem)) → (va_S (Az sz) s.heap H locs) → (lv_has ls 6 [(3, .int (nI (o9 + mq))), (0, .ref (ad 223)), (1, .ref (ad (20 + 2 * k))), (2, .int (nI i0))]) → W p l e (headSpec (Cond.code y_Ct_isStringAt c_Ct_isStringAt 6 (some .boolean) :: tg) ({ frames := 1, cells := 0, slots := 0, locals := 30 } : Room)).room s m [.ref (ad 223), .ref (ad (20 + 2 * k)), .int (nI i0)].toArray below meth c H locs 0 0 (MQ below (va_Qi (fun r mem' => mem' = mem ∧ r = (if stcN (Bw 234) inp I (decide (Bw 228 k = 5)) i0 o9 t9 0 then 1 else 0)) (PP D n ad) (Az sz)) [.ref (ad 223), .ref (ad (20 + 2 * k)), .int (nI i0)].toArray s 0 0 (Az sz)) (F0 m 5 ls []) := by
    intro d14
    induction d14 with
    | zero => intro mq ls H locs hmeas18; exact absurd hmeas18 (Nat.not_lt_zero _)
    | succ d14 ih17 =>
      intro mq ls H locs hmeas18 hz15 hz16 hP hD hS hl
      refine lv_iload_n Bx.1 Bx.2.1 d_Ct_isStringAt_5 rfl (lv_at hl 0 rfl) ?_
      refine lv_aload_n Bx.1 Bx.2.1 d_Ct_isStringAt_6 rfl (lv_at hl 2 rfl) ?_
      refine f_getN Bx hP (by omega) he_12.1 rfl inEl 2 (by decide) kw_81 rfl rfl d_Ct_isStringAt_7 ?_
      rw [ht9]
      refine lv_icmp_ge Bx.1 Bx.2.1 d_Ct_isStringAt_10 rfl (fun hb19 => ?_) (fun hb19 => ?_)
      · have hN20 : o9 + t9 ≤ o9 + mq := (nI_leI (by omega) (by omega)).mp (show nI (o9 + t9) ≤ nI (o9 + mq) from hb19)
        refine lv_iconst (v := 1) Bx.1 Bx.2.1 d_Ct_isStringAt_80 (by decide) ?_
        exact W.zret (v := 1) hx hb hr rfl (fun t ht hW => ⟨⟨1, mem, rfl, ⟨rfl, by rw [← hz16, show t9 - mq = 0 by omega]; rfl⟩, by show va_P _ _ _ t.heap; rw [ht]; exact hP⟩, hS.F ht⟩) hS.2.2 d_Ct_isStringAt_81
      · have hN21 : ¬ o9 + t9 ≤ o9 + mq := fun q9 => hb19 (show nI (o9 + t9) ≤ nI (o9 + mq) from (nI_leI (by omega) (by omega)).mpr q9)
        obtain ⟨r6, hr6⟩ : ∃ r6, t9 - mq = r6 + 1 := ⟨t9 - mq - 1, by omega⟩
        have hst9 := hz16
        rw [hr6] at hst9
        refine lv_aload_n Bx.1 Bx.2.1 d_Ct_isStringAt_13 rfl (lv_at hl 1 rfl) ?_
        refine f_get Bx hP (by omega) h223_4 rfl inCt 1 (by decide) kw_165 rfl rfl d_Ct_isStringAt_14 ?_
        refine f_getN Bx hP (by omega) h5_3 rfl inGr 2 (by decide) kw_119 rfl rfl d_Ct_isStringAt_17 ?_
        refine lv_iload_n Bx.1 Bx.2.1 d_Ct_isStringAt_20 rfl (lv_at hl 0 rfl) ?_
        refine f_callVi (na := 1) (As := [.int (nI (o9 + mq))]) (rest := []) Bx hml E hP hD hS (by omega) h220_7 rfl (m_Ch_codeAt l (by omega) h220_7 (by omega) h221_8 (by rw [nI_toInt (by omega)]; omega)) kw_583 kw_342 kw_343 kw_2 kw_344 (by decide +kernel) ⟨rfl, rfl⟩ ⟨Nat.le_of_ble_eq_true rfl, Nat.le_of_ble_eq_true rfl⟩ rfl hl.1 (Nat.le_of_ble_eq_true rfl) d_Ct_isStringAt_21 ⟨Nat.le_of_ble_eq_true rfl, Nat.le_of_ble_eq_true rfl⟩ (fun r22 mem23 H locs hq hP hS => ?_)
        have hD : va_D (Az sz) (fw n ad mem23) := fw_D hD
        obtain ⟨hco24, hqe⟩ := hq
        rw [hqe] at hP hD
        rw [code_here (f := Bw 234) (T := Bw 234) (fun _ _ => rfl) (by omega) (k := o9 + mq) (by omega), hereF_at (by omega)] at hco24
        subst hco24
        refine lv_istore (lv' := [(4, .int (Bw 234 (o9 + mq))), (3, .int (nI (o9 + mq))), (0, .ref (ad 223)), (1, .ref (ad (20 + 2 * k))), (2, .int (nI i0))]) Bx.1 Bx.2.1 d_Ct_isStringAt_24 hl (by decide) rfl (fun ls hl => ?_)
        refine lv_aload_n Bx.1 Bx.2.1 d_Ct_isStringAt_26 rfl (lv_at hl 2 rfl) ?_
        refine f_get Bx hP (by omega) h223_4 rfl inCt 0 (by decide) kw_164 rfl rfl d_Ct_isStringAt_27 ?_
        refine lv_iload_n Bx.1 Bx.2.1 d_Ct_isStringAt_30 rfl (lv_at hl 4 rfl) ?_
        refine lv_iload_n Bx.1 Bx.2.1 d_Ct_isStringAt_31 rfl (lv_at hl 1 rfl) ?_
        refine lv_iadd Bx.1 Bx.2.1 d_Ct_isStringAt_32 ?_
        rw [show nI i0 + nI (o9 + mq) = nI (i0 + (o9 + mq)) from nI_add (i0) (o9 + mq)]
        refine lv_aload_n Bx.1 Bx.2.1 d_Ct_isStringAt_33 rfl (lv_at hl 3 rfl) ?_
        refine f_getN Bx hP (by omega) he_12.1 rfl inEl 1 (by decide) kw_78 rfl rfl d_Ct_isStringAt_34 ?_
        rw [ho9]
        refine lv_isub Bx.1 Bx.2.1 d_Ct_isStringAt_37 ?_
        rw [show nI (i0 + (o9 + mq)) - nI o9 = nI (i0 + mq) from nI_subx i0 o9 mq]
        refine f_callVi (na := 1) (As := [.int (nI (i0 + mq))]) (rest := []) Bx hml E hP hD hS (by omega) h3_1 rfl (m_Ch_codeAt l (by omega) h3_1 (by omega) h4_2 (by rw [nI_toInt (by omega)]; omega)) kw_583 kw_342 kw_343 kw_2 kw_344 (by decide +kernel) ⟨rfl, rfl⟩ ⟨Nat.le_of_ble_eq_true rfl, Nat.le_of_ble_eq_true rfl⟩ rfl hl.1 (Nat.le_of_ble_eq_true rfl) d_Ct_isStringAt_38 ⟨Nat.le_of_ble_eq_true rfl, Nat.le_of_ble_eq_true rfl⟩ (fun r25 mem26 H locs hq hP hS => ?_)
        have hD : va_D (Az sz) (fw n ad mem26) := fw_D hD
        obtain ⟨hco27, hqe⟩ := hq
        rw [hqe] at hP hD
        rw [code_here (f := inp) (T := inp) (fun _ _ => rfl) (by omega) (k := i0 + mq) (by omega)] at hco27
        subst hco27
        refine lv_istore (lv' := [(5, .int (hereF I inp (i0 + mq))), (4, .int (Bw 234 (o9 + mq))), (3, .int (nI (o9 + mq))), (0, .ref (ad 223)), (1, .ref (ad (20 + 2 * k))), (2, .int (nI i0))]) Bx.1 Bx.2.1 d_Ct_isStringAt_41 hl (by decide) rfl (fun ls hl => ?_)
        refine lv_aload_n Bx.1 Bx.2.1 d_Ct_isStringAt_43 rfl (lv_at hl 4 rfl) ?_
        refine f_getN Bx hP (by omega) he_12.1 rfl inEl 0 (by decide) kw_75 rfl rfl d_Ct_isStringAt_44 ?_
        refine lv_iconst (v := 5) Bx.1 Bx.2.1 d_Ct_isStringAt_47 (by decide) ?_
        refine lv_icmp_ne Bx.1 Bx.2.1 d_Ct_isStringAt_48 rfl (fun hb28 => ?_) (fun hb28 => ?_)
        · have hd5 : decide (Bw 228 k = 5) = false := decide_eq_false hb28
          refine lv_iload Bx.1 Bx.2.1 d_Ct_isStringAt_65 (lv_at hl 1 rfl) ?_
          refine lv_iload Bx.1 Bx.2.1 d_Ct_isStringAt_67 (lv_at hl 0 rfl) ?_
          refine lv_icmp_eq Bx.1 Bx.2.1 d_Ct_isStringAt_69 rfl (fun hb29 => ?_) (fun hb29 => ?_)
          · rw [stc_e hd5 hb29] at hst9
            refine lv_iinc (lv' := [(3, .int ((nI (o9 + mq) + (1)))), (5, .int (hereF I inp (i0 + mq))), (4, .int (Bw 234 (o9 + mq))), (0, .ref (ad 223)), (1, .ref (ad (20 + 2 * k))), (2, .int (nI i0))]) Bx.1 Bx.2.1 d_Ct_isStringAt_74 hl (k := 2) rfl rfl (by decide) rfl (fun ls hl => ?_)
            rw [show (nI (o9 + mq) + (1) : Int32) = nI (o9 + mq + 1) from nI_1 (o9 + mq)] at hl
            refine lv_goto Bx.1 Bx.2.1 d_Ct_isStringAt_77 rfl ?_
            exact ih17 (mq + 1) _ _ _ (by have := hmeas18; omega) (by omega) (by rw [show t9 - (mq + 1) = r6 by omega]; exact hst9) hP hD hS (lv_sub hl [0, 3, 4, 5] rfl)
          · rw [stc_en hd5 hb29] at hst9
            refine lv_iconst (v := 0) Bx.1 Bx.2.1 d_Ct_isStringAt_72 (by decide) ?_
            exact W.zret (v := 0) hx hb hr rfl (fun t ht hW => ⟨⟨0, mem, rfl, ⟨rfl, hst9⟩, by show va_P _ _ _ t.heap; rw [ht]; exact hP⟩, hS.F ht⟩) hS.2.2 d_Ct_isStringAt_73
        · have hd5 : decide (Bw 228 k = 5) = true := decide_eq_true hb28
          refine lv_iload Bx.1 Bx.2.1 d_Ct_isStringAt_51 (lv_at hl 1 rfl) ?_
          refine f_callSNi (na := 1) (As := [.int (Bw 234 (o9 + mq))]) (rest := []) Bx hml E.2.1 (m_Ab_smallOfX l (Bw 234 (o9 + mq))) kw_584 kw_373 kw_1 kw_374 (by decide +kernel) ⟨rfl, rfl⟩ ⟨Nat.le_of_ble_eq_true rfl, Nat.le_of_ble_eq_true rfl⟩ rfl hl.1 (Nat.le_of_ble_eq_true rfl) d_Ct_isStringAt_53 ⟨Nat.le_of_ble_eq_true rfl, Nat.le_of_ble_eq_true rfl⟩ (fun r31 hs30 => ?_)
          subst hs30
          refine lv_istore (lv' := [(4, .int (smF (Bw 234 (o9 + mq)))), (5, .int (hereF I inp (i0 + mq))), (3, .int (nI (o9 + mq))), (0, .ref (ad 223)), (1, .ref (ad (20 + 2 * k))), (2, .int (nI i0))]) Bx.1 Bx.2.1 d_Ct_isStringAt_56 hl (by decide) rfl (fun ls hl => ?_)
          refine lv_iload Bx.1 Bx.2.1 d_Ct_isStringAt_58 (lv_at hl 1 rfl) ?_
          refine f_callSNi (na := 1) (As := [.int (hereF I inp (i0 + mq))]) (rest := []) Bx hml E.2.1 (m_Ab_smallOfX l (hereF I inp (i0 + mq))) kw_584 kw_373 kw_1 kw_374 (by decide +kernel) ⟨rfl, rfl⟩ ⟨Nat.le_of_ble_eq_true rfl, Nat.le_of_ble_eq_true rfl⟩ rfl hl.1 (Nat.le_of_ble_eq_true rfl) d_Ct_isStringAt_60 ⟨Nat.le_of_ble_eq_true rfl, Nat.le_of_ble_eq_true rfl⟩ (fun r33 hs32 => ?_)
          subst hs32
          refine lv_istore (lv' := [(5, .int (smF (hereF I inp (i0 + mq)))), (4, .int (smF (Bw 234 (o9 + mq)))), (3, .int (nI (o9 + mq))), (0, .ref (ad 223)), (1, .ref (ad (20 + 2 * k))), (2, .int (nI i0))]) Bx.1 Bx.2.1 d_Ct_isStringAt_63 hl (by decide) rfl (fun ls hl => ?_)
          refine lv_iload Bx.1 Bx.2.1 d_Ct_isStringAt_65 (lv_at hl 1 rfl) ?_
          refine lv_iload Bx.1 Bx.2.1 d_Ct_isStringAt_67 (lv_at hl 0 rfl) ?_
          refine lv_icmp_eq Bx.1 Bx.2.1 d_Ct_isStringAt_69 rfl (fun hb34 => ?_) (fun hb34 => ?_)
          · rw [stc_s hd5 hb34] at hst9
            refine lv_iinc (lv' := [(3, .int ((nI (o9 + mq) + (1)))), (5, .int (smF (hereF I inp (i0 + mq)))), (4, .int (smF (Bw 234 (o9 + mq)))), (0, .ref (ad 223)), (1, .ref (ad (20 + 2 * k))), (2, .int (nI i0))]) Bx.1 Bx.2.1 d_Ct_isStringAt_74 hl (k := 2) rfl rfl (by decide) rfl (fun ls hl => ?_)
            rw [show (nI (o9 + mq) + (1) : Int32) = nI (o9 + mq + 1) from nI_1 (o9 + mq)] at hl
            refine lv_goto Bx.1 Bx.2.1 d_Ct_isStringAt_77 rfl ?_
            exact ih17 (mq + 1) _ _ _ (by have := hmeas18; omega) (by omega) (by rw [show t9 - (mq + 1) = r6 by omega]; exact hst9) hP hD hS (lv_sub hl [0, 3, 4, 5] rfl)
          · rw [stc_sn hd5 hb34] at hst9
            refine lv_iconst (v := 0) Bx.1 Bx.2.1 d_Ct_isStringAt_72 (by decide) ?_
            exact W.zret (v := 0) hx hb hr rfl (fun t ht hW => ⟨⟨0, mem, rfl, ⟨rfl, hst9⟩, by show va_P _ _ _ t.heap; rw [ht]; exact hP⟩, hS.F ht⟩) hS.2.2 d_Ct_isStringAt_73
  exact loop13 _ (0) _ _ _ (Nat.lt_succ_self _) (by omega) (rfl) hP hD hS (lv_sub hl [0, 1, 2, 3] rfl)
set_option maxHeartbeats 4000000 in
set_option maxRecDepth 100000 in
theorem m_Ct_endsOfCharactersX (l : Launch) {D : va_G} {cy : Nat → ClassId} {sz n : Nat} {ad : Nat → Nat} {mem : Nat → va_E} {I lim rc ec : Nat} {wh fl : Int32} {m0 : Nat → va_E} {Bw : Ro} {g inp : Nat → Int32} {k i0 : Nat} (hn : 224 ≤ n) (hY : IY cy ad I inp m0) (hC : CS cy ad lim rc ec wh fl m0 mem) (hE : EM cy ad rc ec Bw g mem) (hi0 : i0 ≤ I) (hk : k < ec) : MI l D cy sz n ad y_Ct_endsOfCharacters c_Ct_endsOfCharacters 4 (some .int) ({ frames := 2, cells := 0, slots := 0, locals := 60 } : Room) mem [.ref (ad 223), .ref (ad (20 + 2 * k)), .int (nI i0)] (fun r mem' => mem' = mem ∧ r = chrF Bw inp I k i0) := by
  refine Met.ofW (cc := c_Ct_endsOfCharacters) (maxL := 4) (ret := (some .int)) (by decide) rfl ?_
  intro p e s m args below meth c s₁ B hml hv
  obtain ⟨rfl, E, hP, hD⟩ := hv
  have hx := B.exec
  have hb := B.bytes
  have hr := B.returns
  have hlocks := B.notSynchronized
  have Bx : MB p s m [.ref (ad 223), .ref (ad (20 + 2 * k)), .int (nI i0)].toArray c c_Ct_endsOfCharacters "AbnfChart$Chart" D cy := ⟨hx, hb, tb_all (atoms_spec B.pre) E.2.1, findClass_of_methodNamed B.named, E.1⟩
  have hS : va_S (Az sz) s.heap s.heap [] := va_S.rf
  have hl := lv_entry ([.ref (ad 223), .ref (ad (20 + 2 * k)), .int (nI i0)]) (n := 4) (Nat.le_of_ble_eq_true rfl)
  rw [lg_entry_eq]
  generalize (lg_sl ([.ref (ad 223), .ref (ad (20 + 2 * k)), .int (nI i0)]) ++ List.replicate (4 - (lg_sl ([.ref (ad 223), .ref (ad (20 + 2 * k)), .int (nI i0)])).length) Slot.unset).toArray = ls at hl ⊢
  have hl : lv_has ls 4 [(0, .ref (ad 223)), (1, .ref (ad (20 + 2 * k))), (2, .int (nI i0))] := hl
  have h3_1 : mem 3 = .inr (0, [.ref (ad 4), .int (nI I)]) := (hC.2.2 3 (by omega)).trans hY.1
  have h4_2 : mem 4 = .inl (cy 0, 24, .inl inp) := (hC.2.2 4 (by omega)).trans hY.2.2
  have h223_4 : mem 223 = .inr (1, [.ref (ad 3), .ref (ad 5), .int fl]) := (hC.2.2 223 (by omega)).trans hC.2.1
  have h5_3 := hC.1.2.1
  have hbd10 := hC.1.1
  have hbI11 := hY.2.1
  obtain ⟨S5, hS_6, h220_7, h221_8, hst9⟩ := hE.2.2
  have he_12 := hE.1 k (by omega)
  refine lv_aload_n Bx.1 Bx.2.1 d_Ct_endsOfCharacters_0 rfl (lv_at hl 1 rfl) ?_
  refine f_getN Bx hP (by omega) he_12.1 rfl inEl 0 (by decide) kw_75 rfl rfl d_Ct_endsOfCharacters_1 ?_
  refine lv_topi (fun kd13 e_kd13 => ?_)
  by_cases c5 : kd13 = 5
  · rw [c5]
    refine lv_tableIn Bx.1 Bx.2.1 d_Ct_endsOfCharacters_4 (by decide) (by decide) (off := 28) (by decide) (tgt := 32) rfl ?_
    rw [e_kd13] at c5
    obtain ⟨o9, t9, ho9, ht9, hot⟩ := hst9 k hk (Or.inl c5)
    have e1 : (Bw 229 k).toNatClampNeg = o9 := by rw [ho9]; exact nI_clamp (by omega)
    have e2 : (Bw 230 k - Bw 229 k).toNatClampNeg = t9 := by rw [ho9, ht9, nI_suby]; exact nI_clamp (by omega)
    refine lv_aload_n Bx.1 Bx.2.1 d_Ct_endsOfCharacters_32 rfl (lv_at hl 0 rfl) ?_
    refine lv_aload_n Bx.1 Bx.2.1 d_Ct_endsOfCharacters_33 rfl (lv_at hl 1 rfl) ?_
    refine lv_iload_n Bx.1 Bx.2.1 d_Ct_endsOfCharacters_34 rfl (lv_at hl 2 rfl) ?_
    refine f_callVi (na := 2) (As := [.ref (ad (20 + 2 * k)), .int (nI i0)]) (rest := []) Bx hml E hP hD hS (by omega) h223_4 rfl (m_Ct_isStringAtX l hn hY hC hE hi0 hk ho9 ht9 (by omega) ⟨S5, hS_6, h220_7, hot⟩) kw_579 kw_581 sel_Ct_isStringAt kw_7 kw_582 (by decide +kernel) ⟨rfl, rfl⟩ ⟨Nat.le_of_ble_eq_true rfl, Nat.le_of_ble_eq_true rfl⟩ rfl hl.1 (Nat.le_of_ble_eq_true rfl) d_Ct_endsOfCharacters_35 ⟨Nat.le_of_ble_eq_true rfl, Nat.le_of_ble_eq_true rfl⟩ (fun r14 mem15 H locs hq hP hS => ?_)
    have hD : va_D (Az sz) (fw n ad mem15) := fw_D hD
    obtain ⟨hqe, hv16⟩ := hq
    rw [hqe] at hP hD
    subst hv16
    refine lv_if_eq Bx.1 Bx.2.1 d_Ct_endsOfCharacters_38 rfl (fun hb17 => ?_) (fun hb17 => ?_)
    · refine lv_iconst (v := 0) Bx.1 Bx.2.1 d_Ct_endsOfCharacters_57 (by decide) ?_
      exact W.iret (v := 0) hx hb hr (fun t ht hW => ⟨⟨0, mem, rfl, ⟨rfl, by unfold chrF; rw [if_pos (Or.inl c5), e1, e2, bg_0 hb17]; rfl⟩, by show va_P _ _ _ t.heap; rw [ht]; exact hP⟩, hS.F ht⟩) hS.2.2 d_Ct_endsOfCharacters_58
    · refine lv_iconst (v := 1) Bx.1 Bx.2.1 d_Ct_endsOfCharacters_41 (by decide) ?_
      refine lv_iload_n Bx.1 Bx.2.1 d_Ct_endsOfCharacters_42 rfl (lv_at hl 2 rfl) ?_
      refine lv_aload_n Bx.1 Bx.2.1 d_Ct_endsOfCharacters_43 rfl (lv_at hl 1 rfl) ?_
      refine f_getN Bx hP (by omega) he_12.1 rfl inEl 2 (by decide) kw_81 rfl rfl d_Ct_endsOfCharacters_44 ?_
      rw [ht9]
      refine lv_iadd Bx.1 Bx.2.1 d_Ct_endsOfCharacters_47 ?_
      rw [show nI i0 + nI (o9 + t9) = nI (i0 + (o9 + t9)) from nI_add (i0) (o9 + t9)]
      refine lv_aload_n Bx.1 Bx.2.1 d_Ct_endsOfCharacters_48 rfl (lv_at hl 1 rfl) ?_
      refine f_getN Bx hP (by omega) he_12.1 rfl inEl 1 (by decide) kw_78 rfl rfl d_Ct_endsOfCharacters_49 ?_
      rw [ho9]
      refine lv_isub Bx.1 Bx.2.1 d_Ct_endsOfCharacters_52 ?_
      rw [show nI (i0 + (o9 + t9)) - nI o9 = nI (i0 + t9) from nI_subx i0 o9 t9]
      refine lv_ishl Bx.1 Bx.2.1 d_Ct_endsOfCharacters_53 ?_
      refine lv_goto Bx.1 Bx.2.1 d_Ct_endsOfCharacters_54 rfl ?_
      exact W.iret (v := (1) <<< ((nI (i0 + t9)) &&& 31)) hx hb hr (fun t ht hW => ⟨⟨(1) <<< ((nI (i0 + t9)) &&& 31), mem, rfl, ⟨rfl, by unfold chrF; rw [if_pos (Or.inl c5), e1, e2, bg_1 hb17]; rfl⟩, by show va_P _ _ _ t.heap; rw [ht]; exact hP⟩, hS.F ht⟩) hS.2.2 d_Ct_endsOfCharacters_58
  by_cases c6 : kd13 = 6
  · rw [c6]
    refine lv_tableIn Bx.1 Bx.2.1 d_Ct_endsOfCharacters_4 (by decide) (by decide) (off := 28) (by decide) (tgt := 32) rfl ?_
    rw [e_kd13] at c5 c6
    obtain ⟨o9, t9, ho9, ht9, hot⟩ := hst9 k hk (Or.inr c6)
    have e1 : (Bw 229 k).toNatClampNeg = o9 := by rw [ho9]; exact nI_clamp (by omega)
    have e2 : (Bw 230 k - Bw 229 k).toNatClampNeg = t9 := by rw [ho9, ht9, nI_suby]; exact nI_clamp (by omega)
    refine lv_aload_n Bx.1 Bx.2.1 d_Ct_endsOfCharacters_32 rfl (lv_at hl 0 rfl) ?_
    refine lv_aload_n Bx.1 Bx.2.1 d_Ct_endsOfCharacters_33 rfl (lv_at hl 1 rfl) ?_
    refine lv_iload_n Bx.1 Bx.2.1 d_Ct_endsOfCharacters_34 rfl (lv_at hl 2 rfl) ?_
    refine f_callVi (na := 2) (As := [.ref (ad (20 + 2 * k)), .int (nI i0)]) (rest := []) Bx hml E hP hD hS (by omega) h223_4 rfl (m_Ct_isStringAtX l hn hY hC hE hi0 hk ho9 ht9 (by omega) ⟨S5, hS_6, h220_7, hot⟩) kw_579 kw_581 sel_Ct_isStringAt kw_7 kw_582 (by decide +kernel) ⟨rfl, rfl⟩ ⟨Nat.le_of_ble_eq_true rfl, Nat.le_of_ble_eq_true rfl⟩ rfl hl.1 (Nat.le_of_ble_eq_true rfl) d_Ct_endsOfCharacters_35 ⟨Nat.le_of_ble_eq_true rfl, Nat.le_of_ble_eq_true rfl⟩ (fun r18 mem19 H locs hq hP hS => ?_)
    have hD : va_D (Az sz) (fw n ad mem19) := fw_D hD
    obtain ⟨hqe, hv20⟩ := hq
    rw [hqe] at hP hD
    subst hv20
    refine lv_if_eq Bx.1 Bx.2.1 d_Ct_endsOfCharacters_38 rfl (fun hb21 => ?_) (fun hb21 => ?_)
    · refine lv_iconst (v := 0) Bx.1 Bx.2.1 d_Ct_endsOfCharacters_57 (by decide) ?_
      exact W.iret (v := 0) hx hb hr (fun t ht hW => ⟨⟨0, mem, rfl, ⟨rfl, by unfold chrF; rw [if_pos (Or.inr c6), e1, e2, bg_0 hb21]; rfl⟩, by show va_P _ _ _ t.heap; rw [ht]; exact hP⟩, hS.F ht⟩) hS.2.2 d_Ct_endsOfCharacters_58
    · refine lv_iconst (v := 1) Bx.1 Bx.2.1 d_Ct_endsOfCharacters_41 (by decide) ?_
      refine lv_iload_n Bx.1 Bx.2.1 d_Ct_endsOfCharacters_42 rfl (lv_at hl 2 rfl) ?_
      refine lv_aload_n Bx.1 Bx.2.1 d_Ct_endsOfCharacters_43 rfl (lv_at hl 1 rfl) ?_
      refine f_getN Bx hP (by omega) he_12.1 rfl inEl 2 (by decide) kw_81 rfl rfl d_Ct_endsOfCharacters_44 ?_
      rw [ht9]
      refine lv_iadd Bx.1 Bx.2.1 d_Ct_endsOfCharacters_47 ?_
      rw [show nI i0 + nI (o9 + t9) = nI (i0 + (o9 + t9)) from nI_add (i0) (o9 + t9)]
      refine lv_aload_n Bx.1 Bx.2.1 d_Ct_endsOfCharacters_48 rfl (lv_at hl 1 rfl) ?_
      refine f_getN Bx hP (by omega) he_12.1 rfl inEl 1 (by decide) kw_78 rfl rfl d_Ct_endsOfCharacters_49 ?_
      rw [ho9]
      refine lv_isub Bx.1 Bx.2.1 d_Ct_endsOfCharacters_52 ?_
      rw [show nI (i0 + (o9 + t9)) - nI o9 = nI (i0 + t9) from nI_subx i0 o9 t9]
      refine lv_ishl Bx.1 Bx.2.1 d_Ct_endsOfCharacters_53 ?_
      refine lv_goto Bx.1 Bx.2.1 d_Ct_endsOfCharacters_54 rfl ?_
      exact W.iret (v := (1) <<< ((nI (i0 + t9)) &&& 31)) hx hb hr (fun t ht hW => ⟨⟨(1) <<< ((nI (i0 + t9)) &&& 31), mem, rfl, ⟨rfl, by unfold chrF; rw [if_pos (Or.inr c6), e1, e2, bg_1 hb21]; rfl⟩, by show va_P _ _ _ t.heap; rw [ht]; exact hP⟩, hS.F ht⟩) hS.2.2 d_Ct_endsOfCharacters_58
  by_cases c7 : kd13 = 7
  · rw [c7]
    refine lv_tableIn Bx.1 Bx.2.1 d_Ct_endsOfCharacters_4 (by decide) (by decide) (off := 55) (by decide) (tgt := 59) rfl ?_
    rw [e_kd13] at c5 c6 c7
    refine lv_aload_n Bx.1 Bx.2.1 d_Ct_endsOfCharacters_59 rfl (lv_at hl 0 rfl) ?_
    refine f_get Bx hP (by omega) h223_4 rfl inCt 0 (by decide) kw_164 rfl rfl d_Ct_endsOfCharacters_60 ?_
    refine lv_iload_n Bx.1 Bx.2.1 d_Ct_endsOfCharacters_63 rfl (lv_at hl 2 rfl) ?_
    refine f_callVi (na := 1) (As := [.int (nI i0)]) (rest := []) Bx hml E hP hD hS (by omega) h3_1 rfl (m_Ch_codeAt l (by omega) h3_1 (by omega) h4_2 (by rw [nI_toInt (by omega)]; omega)) kw_583 kw_342 kw_343 kw_2 kw_344 (by decide +kernel) ⟨rfl, rfl⟩ ⟨Nat.le_of_ble_eq_true rfl, Nat.le_of_ble_eq_true rfl⟩ rfl hl.1 (Nat.le_of_ble_eq_true rfl) d_Ct_endsOfCharacters_64 ⟨Nat.le_of_ble_eq_true rfl, Nat.le_of_ble_eq_true rfl⟩ (fun r22 mem23 H locs hq hP hS => ?_)
    have hD : va_D (Az sz) (fw n ad mem23) := fw_D hD
    obtain ⟨hco24, hqe⟩ := hq
    rw [hqe] at hP hD
    rw [code_here (f := inp) (T := inp) (fun _ _ => rfl) (by omega) (k := i0) (by omega)] at hco24
    subst hco24
    refine lv_istore_n (lv' := [(3, .int (hereF I inp (i0))), (0, .ref (ad 223)), (1, .ref (ad (20 + 2 * k))), (2, .int (nI i0))]) Bx.1 Bx.2.1 d_Ct_endsOfCharacters_67 rfl hl (by decide) rfl (fun ls hl => ?_)
    refine lv_iload_n Bx.1 Bx.2.1 d_Ct_endsOfCharacters_68 rfl (lv_at hl 0 rfl) ?_
    refine lv_iconst (v := -1) Bx.1 Bx.2.1 d_Ct_endsOfCharacters_69 (by decide) ?_
    refine lv_icmp_eq Bx.1 Bx.2.1 d_Ct_endsOfCharacters_70 rfl (fun hb25 => ?_) (fun hb25 => ?_)
    · refine lv_iconst (v := 0) Bx.1 Bx.2.1 d_Ct_endsOfCharacters_97 (by decide) ?_
      exact W.iret (v := 0) hx hb hr (fun t ht hW => ⟨⟨0, mem, rfl, ⟨rfl, by unfold chrF; rw [if_neg (fun z => z.elim c5 c6), if_pos c7, if_neg (fun z => z.1 hb25)]⟩, by show va_P _ _ _ t.heap; rw [ht]; exact hP⟩, hS.F ht⟩) hS.2.2 d_Ct_endsOfCharacters_98
    · refine lv_iload_n Bx.1 Bx.2.1 d_Ct_endsOfCharacters_73 rfl (lv_at hl 0 rfl) ?_
      refine lv_aload_n Bx.1 Bx.2.1 d_Ct_endsOfCharacters_74 rfl (lv_at hl 2 rfl) ?_
      refine f_getN Bx hP (by omega) he_12.1 rfl inEl 1 (by decide) kw_78 rfl rfl d_Ct_endsOfCharacters_75 ?_
      refine lv_icmp_lt Bx.1 Bx.2.1 d_Ct_endsOfCharacters_78 rfl (fun hb26 => ?_) (fun hb26 => ?_)
      · refine lv_iconst (v := 0) Bx.1 Bx.2.1 d_Ct_endsOfCharacters_97 (by decide) ?_
        exact W.iret (v := 0) hx hb hr (fun t ht hW => ⟨⟨0, mem, rfl, ⟨rfl, by unfold chrF; rw [if_neg (fun z => z.elim c5 c6), if_pos c7, if_neg (fun z => z.2.1 hb26)]⟩, by show va_P _ _ _ t.heap; rw [ht]; exact hP⟩, hS.F ht⟩) hS.2.2 d_Ct_endsOfCharacters_98
      · refine lv_iload_n Bx.1 Bx.2.1 d_Ct_endsOfCharacters_81 rfl (lv_at hl 0 rfl) ?_
        refine lv_aload_n Bx.1 Bx.2.1 d_Ct_endsOfCharacters_82 rfl (lv_at hl 2 rfl) ?_
        refine f_getN Bx hP (by omega) he_12.1 rfl inEl 2 (by decide) kw_81 rfl rfl d_Ct_endsOfCharacters_83 ?_
        refine lv_icmp_gt Bx.1 Bx.2.1 d_Ct_endsOfCharacters_86 rfl (fun hb27 => ?_) (fun hb27 => ?_)
        · refine lv_iconst (v := 0) Bx.1 Bx.2.1 d_Ct_endsOfCharacters_97 (by decide) ?_
          exact W.iret (v := 0) hx hb hr (fun t ht hW => ⟨⟨0, mem, rfl, ⟨rfl, by unfold chrF; rw [if_neg (fun z => z.elim c5 c6), if_pos c7, if_neg (fun z => z.2.2 hb27)]⟩, by show va_P _ _ _ t.heap; rw [ht]; exact hP⟩, hS.F ht⟩) hS.2.2 d_Ct_endsOfCharacters_98
        · refine lv_iconst (v := 1) Bx.1 Bx.2.1 d_Ct_endsOfCharacters_89 (by decide) ?_
          refine lv_iload_n Bx.1 Bx.2.1 d_Ct_endsOfCharacters_90 rfl (lv_at hl 3 rfl) ?_
          refine lv_iconst (v := 1) Bx.1 Bx.2.1 d_Ct_endsOfCharacters_91 (by decide) ?_
          refine lv_iadd Bx.1 Bx.2.1 d_Ct_endsOfCharacters_92 ?_
          rw [show nI i0 + 1 = nI (i0 + 1) from nI_add (i0) (1)]
          refine lv_ishl Bx.1 Bx.2.1 d_Ct_endsOfCharacters_93 ?_
          refine lv_goto Bx.1 Bx.2.1 d_Ct_endsOfCharacters_94 rfl ?_
          exact W.iret (v := (1) <<< ((nI (i0 + 1)) &&& 31)) hx hb hr (fun t ht hW => ⟨⟨(1) <<< ((nI (i0 + 1)) &&& 31), mem, rfl, ⟨rfl, by unfold chrF; rw [if_neg (fun z => z.elim c5 c6), if_pos c7, if_pos ⟨hb25, hb26, hb27⟩]⟩, by show va_P _ _ _ t.heap; rw [ht]; exact hP⟩, hS.F ht⟩) hS.2.2 d_Ct_endsOfCharacters_98
  have hko : (kd13).toInt < 5 ∨ 7 < (kd13).toInt := by
    have q5 := lv_neT c5 (a := 5) (by decide)
    have q6 := lv_neT c6 (a := 6) (by decide)
    have q7 := lv_neT c7 (a := 7) (by decide)
    omega
  refine lv_tableOut Bx.1 Bx.2.1 d_Ct_endsOfCharacters_4 hko (tgt := 99) rfl ?_
  rw [e_kd13] at c5 c6 c7
  refine lv_iconst (v := 0) Bx.1 Bx.2.1 d_Ct_endsOfCharacters_99 (by decide) ?_
  exact W.iret (v := 0) hx hb hr (fun t ht hW => ⟨⟨0, mem, rfl, ⟨rfl, by unfold chrF; rw [if_neg (fun z => z.elim c5 c6), if_neg c7]⟩, by show va_P _ _ _ t.heap; rw [ht]; exact hP⟩, hS.F ht⟩) hS.2.2 d_Ct_endsOfCharacters_100
set_option maxHeartbeats 4000000 in
set_option maxRecDepth 100000 in
theorem m_Ct_findMoreX (l : Launch) {D : va_G} {cy : Nat → ClassId} {sz n : Nat} {ad : Nat → Nat} {mem : Nat → va_E} {I lim rc ec : Nat} {wh fl : Int32} {m0 : Nat → va_E} {Bw : Ro} {g inp : Nat → Int32} {i0 : Nat} (hn : 224 ≤ n) (hY : IY cy ad I inp m0) (hC : CS cy ad lim rc ec wh fl m0 mem) (hE : EM cy ad rc ec Bw g mem) (hi0 : i0 ≤ I) : MI l D cy sz n ad y_Ct_findMore c_Ct_findMore 6 (some .boolean) ({ frames := 3, cells := 0, slots := 0, locals := 90 } : Room) mem [.ref (ad 223), .int (nI i0)] (fun r mem' => CS cy ad lim rc ec wh fl m0 mem' ∧ EM cy ad rc ec Bw (fmN Bw I i0 ec g false).1 mem' ∧ r = (if (fmN Bw I i0 ec g false).2 then 1 else 0)) := by
  refine Met.ofW (cc := c_Ct_findMore) (maxL := 6) (ret := (some .boolean)) (by decide) rfl ?_
  intro p e s m args below meth c s₁ B hml hv
  obtain ⟨rfl, E, hP, hD⟩ := hv
  have hx := B.exec
  have hb := B.bytes
  have hr := B.returns
  have hlocks := B.notSynchronized
  have Bx : MB p s m [.ref (ad 223), .int (nI i0)].toArray c c_Ct_findMore "AbnfChart$Chart" D cy := ⟨hx, hb, tb_all (atoms_spec B.pre) E.2.1, findClass_of_methodNamed B.named, E.1⟩
  have hS : va_S (Az sz) s.heap s.heap [] := va_S.rf
  have hl := lv_entry ([.ref (ad 223), .int (nI i0)]) (n := 6) (Nat.le_of_ble_eq_true rfl)
  rw [lg_entry_eq]
  generalize (lg_sl ([.ref (ad 223), .int (nI i0)]) ++ List.replicate (6 - (lg_sl ([.ref (ad 223), .int (nI i0)])).length) Slot.unset).toArray = ls at hl ⊢
  have hl : lv_has ls 6 [(0, .ref (ad 223)), (1, .int (nI i0))] := hl
  have h3_1 : mem 3 = .inr (0, [.ref (ad 4), .int (nI I)]) := (hC.2.2 3 (by omega)).trans hY.1
  have h4_2 : mem 4 = .inl (cy 0, 24, .inl inp) := (hC.2.2 4 (by omega)).trans hY.2.2
  have h223_4 : mem 223 = .inr (1, [.ref (ad 3), .ref (ad 5), .int fl]) := (hC.2.2 223 (by omega)).trans hC.2.1
  have h5_3 := hC.1.2.1
  have hbd10 := hC.1.1
  have hbI11 := hY.2.1
  obtain ⟨S5, hS_6, h220_7, h221_8, hst9⟩ := hE.2.2
  refine lv_iconst (v := 0) Bx.1 Bx.2.1 d_Ct_findMore_0 (by decide) ?_
  refine lv_istore_n (lv' := [(2, .int (0)), (0, .ref (ad 223)), (1, .int (nI i0))]) Bx.1 Bx.2.1 d_Ct_findMore_1 rfl hl (by decide) rfl (fun ls hl => ?_)
  refine lv_aload_n Bx.1 Bx.2.1 d_Ct_findMore_2 rfl (lv_at hl 1 rfl) ?_
  refine f_get Bx hP (by omega) h223_4 rfl inCt 1 (by decide) kw_165 rfl rfl d_Ct_findMore_3 ?_
  refine f_getN Bx hP (by omega) h5_3 rfl inGr 4 (by decide) kw_123 rfl rfl d_Ct_findMore_6 ?_
  refine lv_iconst (v := 1) Bx.1 Bx.2.1 d_Ct_findMore_9 (by decide) ?_
  refine lv_isub Bx.1 Bx.2.1 d_Ct_findMore_10 ?_
  refine lv_istore_n (lv' := [(3, .int (nI ec - 1)), (2, .int (0)), (0, .ref (ad 223)), (1, .int (nI i0))]) Bx.1 Bx.2.1 d_Ct_findMore_11 rfl hl (by decide) rfl (fun ls hl => ?_)
  have loop12 : ∀ (d13 : Nat) (mem9 : Nat → va_E) (kk : Nat) (g9 : Nat → Int32) (mo : Bool) (ls : Array Slot) (H : Heap) (locs : List Loc), (kk < d13) → (CS cy ad lim rc ec wh fl m0 mem9) → (EM cy ad rc ec Bw g9 mem9) → (kk ≤ ec) → (fmN Bw I i0 kk g9 mo = fmN Bw I i0 ec g false) → (va_P D vcl (fw n ad mem9) H) → (va_D (Az sz) (fw n ad mem9)) → (va_S (Az sz) s.heap H locs) → (lv_has ls 6 [(3, .int (nI kk + (-1))), (2, .int ((if mo then 1 else 0))), (0, .ref (ad 223)), (1, .int (nI i0))]) → W p l e (headSpec (Cond.code y_Ct_findMore c_Ct_findMore 6 (some .boolean) :: tg) ({ frames := 3, cells := 0, slots := 0, locals := 90 } : Room)).room s m [.ref (ad 223), .int (nI i0)].toArray below meth c H locs 0 0 (MQ below (va_Qi (fun r mem' => CS cy ad lim rc ec wh fl m0 mem' ∧ EM cy ad rc ec Bw (fmN Bw I i0 ec g false).1 mem' ∧ r = (if (fmN Bw I i0 ec g false).2 then 1 else 0)) (PP D n ad) (Az sz)) [.ref (ad 223), .int (nI i0)].toArray s 0 0 (Az sz)) (F0 m 12 ls []) := by
    intro d13
    induction d13 with
    | zero => intro mem9 kk g9 mo ls H locs hmeas19; exact absurd hmeas19 (Nat.not_lt_zero _)
    | succ d13 ih18 =>
      intro mem9 kk g9 mo ls H locs hmeas19 hz14 hz15 hz16 hz17 hP hD hS hl
      have h3_20 : mem9 3 = .inr (0, [.ref (ad 4), .int (nI I)]) := (hz14.2.2 3 (by omega)).trans hY.1
      have h4_21 : mem9 4 = .inl (cy 0, 24, .inl inp) := (hz14.2.2 4 (by omega)).trans hY.2.2
      have h223_23 : mem9 223 = .inr (1, [.ref (ad 3), .ref (ad 5), .int fl]) := (hz14.2.2 223 (by omega)).trans hz14.2.1
      have h5_22 := hz14.1.2.1
      have hbd29 := hz14.1.1
      have hbI30 := hY.2.1
      obtain ⟨S24, hS_25, h220_26, h221_27, hst28⟩ := hz15.2.2
      refine lv_iload_n Bx.1 Bx.2.1 d_Ct_findMore_12 rfl (lv_at hl 0 rfl) ?_
      refine lv_if_lt Bx.1 Bx.2.1 d_Ct_findMore_13 rfl (fun hb31 => ?_) (fun hb31 => ?_)
      · have hkk : kk = 0 := by
          rcases kk with _ | j
          · rfl
          · exact absurd hb31 (by rw [nI_m1]; exact nI_pos (by omega))
        subst hkk
        have hfin : (g9, mo) = fmN Bw I i0 ec g false := hz17
        refine lv_iload_n Bx.1 Bx.2.1 d_Ct_findMore_65 rfl (lv_at hl 1 rfl) ?_
        exact W.zret (v := (if mo then 1 else 0)) hx hb hr (by cases mo <;> rfl) (fun t ht hW => ⟨⟨(if mo then 1 else 0), mem9, rfl, ⟨hz14, by rw [← hfin]; exact hz15, by rw [← hfin]⟩, by show va_P _ _ _ t.heap; rw [ht]; exact hP⟩, hS.F ht⟩) hS.2.2 d_Ct_findMore_66
      · obtain ⟨j, rfl⟩ : ∃ j, kk = j + 1 := by
          rcases kk with _ | j
          · exact absurd (by rw [nI_0m1]; decide) hb31
          · exact ⟨j, rfl⟩
        rw [nI_m1] at hl
        have hfm := hz17
        rw [fmN] at hfm
        refine lv_aload_n Bx.1 Bx.2.1 d_Ct_findMore_16 rfl (lv_at hl 2 rfl) ?_
        refine f_get Bx hP (by omega) h223_23 rfl inCt 1 (by decide) kw_165 rfl rfl d_Ct_findMore_17 ?_
        refine f_getN Bx hP (by omega) h5_22 rfl inGr 1 (by decide) kw_117 rfl rfl d_Ct_findMore_20 ?_
        refine lv_iload_n Bx.1 Bx.2.1 d_Ct_findMore_23 rfl (lv_at hl 0 rfl) ?_
        refine f_aald (t0 := 4) Bx hP (by omega) hz14.1.2.2.2.1 rfl j rfl (by omega) (by decide) (q := ad (20 + 2 * j)) (if_pos (by omega)) d_Ct_findMore_24 ?_
        have he_32 := hz15.1 j (by omega)
        refine lv_astore (lv' := [(4, .ref (ad (20 + 2 * j))), (3, .int (nI j)), (2, .int ((if mo then 1 else 0))), (0, .ref (ad 223)), (1, .int (nI i0))]) Bx.1 Bx.2.1 d_Ct_findMore_25 hl (by decide) rfl (fun ls hl => ?_)
        refine lv_aload_n Bx.1 Bx.2.1 d_Ct_findMore_27 rfl (lv_at hl 3 rfl) ?_
        refine lv_aload Bx.1 Bx.2.1 d_Ct_findMore_28 (lv_at hl 0 rfl) ?_
        refine lv_iload_n Bx.1 Bx.2.1 d_Ct_findMore_30 rfl (lv_at hl 4 rfl) ?_
        refine f_callVi (na := 2) (As := [.ref (ad (20 + 2 * j)), .int (nI i0)]) (rest := []) Bx hml E hP hD hS (by omega) h223_23 rfl (m_Ct_endsOfPartsX l hn hY hz14 hz15 hi0 (by omega)) kw_589 kw_591 sel_Ct_endsOfParts kw_7 kw_592 (by decide +kernel) ⟨rfl, rfl⟩ ⟨Nat.le_of_ble_eq_true rfl, Nat.le_of_ble_eq_true rfl⟩ rfl hl.1 (Nat.le_of_ble_eq_true rfl) d_Ct_findMore_31 ⟨Nat.le_of_ble_eq_true rfl, Nat.le_of_ble_eq_true rfl⟩ (fun r33 mem34 H locs hq hP hS => ?_)
        have hD : va_D (Az sz) (fw n ad mem34) := fw_D hD
        obtain ⟨hqe, hv35⟩ := hq
        rw [hqe] at hP hD
        subst hv35
        refine lv_istore (lv' := [(5, .int (fcF Bw I j i0 g9)), (4, .ref (ad (20 + 2 * j))), (3, .int (nI j)), (2, .int ((if mo then 1 else 0))), (0, .ref (ad 223)), (1, .int (nI i0))]) Bx.1 Bx.2.1 d_Ct_findMore_34 hl (by decide) rfl (fun ls hl => ?_)
        refine lv_iload Bx.1 Bx.2.1 d_Ct_findMore_36 (lv_at hl 0 rfl) ?_
        refine lv_aload Bx.1 Bx.2.1 d_Ct_findMore_38 (lv_at hl 1 rfl) ?_
        refine f_getN Bx hP (by omega) he_32.1 rfl inEl 6 (by decide) kw_94 rfl rfl d_Ct_findMore_40 ?_
        refine lv_iload_n Bx.1 Bx.2.1 d_Ct_findMore_43 rfl (lv_at hl 5 rfl) ?_
        obtain ⟨g36, hg37, hge38⟩ := (hz15.1 j (by omega)).2.2.2.2.2
        refine f_iald Bx hP (by omega) hg37 (vp_in_nI (n := i0) (by omega) (by decide)) d_Ct_findMore_44 ?_
        rw [nI_clamp (n := i0) (by omega), hge38 (i0) (by omega)]
        refine lv_icmp_eq Bx.1 Bx.2.1 d_Ct_findMore_45 rfl (fun hb39 => ?_) (fun hb39 => ?_)
        · rw [if_pos hb39] at hfm
          refine lv_iinc (lv' := [(3, .int ((nI j + (-1)))), (5, .int (fcF Bw I j i0 g9)), (4, .ref (ad (20 + 2 * j))), (2, .int ((if mo then 1 else 0))), (0, .ref (ad 223)), (1, .int (nI i0))]) Bx.1 Bx.2.1 d_Ct_findMore_59 hl (k := 2) rfl rfl (by decide) rfl (fun ls hl => ?_)
          refine lv_goto Bx.1 Bx.2.1 d_Ct_findMore_62 rfl ?_
          exact ih18 mem9 (j) (g9) (mo) _ _ _ (by have := hmeas19; omega) (hz14) (hz15) (by omega) (hfm) hP hD hS (lv_sub hl [0, 3, 4, 5] rfl)
        · rw [if_neg hb39] at hfm
          refine lv_aload Bx.1 Bx.2.1 d_Ct_findMore_48 (lv_at hl 1 rfl) ?_
          refine f_getN Bx hP (by omega) he_32.1 rfl inEl 6 (by decide) kw_94 rfl rfl d_Ct_findMore_50 ?_
          refine lv_iload_n Bx.1 Bx.2.1 d_Ct_findMore_53 rfl (lv_at hl 5 rfl) ?_
          refine lv_iload Bx.1 Bx.2.1 d_Ct_findMore_54 (lv_at hl 0 rfl) ?_
          obtain ⟨g40, hg41, hge42⟩ := (hz15.1 j (by omega)).2.2.2.2.2
          refine f_iast (x := fcF Bw I j i0 g9) (i := nI (i0)) Bx hP hD hS (by omega) hg41 (vp_in_nI (n := i0) (by omega) (by decide)) d_Ct_findMore_56 (fun H locs hP hS => ?_)
          rw [nI_clamp (n := i0) (by omega)] at hP
          obtain ⟨mem43, e_mem43⟩ : ∃ z, z = va_up mem9 (21 + 2 * j) (.inl (cy 1, 25, .inl (upd g40 (i0) (fcF Bw I j i0 g9)))) := ⟨_, rfl⟩
          have hP : va_P D vcl (fw n ad mem43) H := by rw [e_mem43]; exact hP
          have hD : va_D (Az sz) (fw n ad mem43) := fw_D hD
          have hC44 : CS cy ad lim rc ec wh fl m0 mem43 := by rw [e_mem43]; exact hz14.ends (by omega)
          obtain ⟨gt46, egt46⟩ : ∃ z, z = upd g9 (25 * j + i0) (fcF Bw I j i0 g9) := ⟨_, rfl⟩
          have hE45 : EM cy ad rc ec Bw gt46 mem43 := by rw [e_mem43, egt46]; exact hz15.up (by omega) (by omega) (by omega) hge42
          have h3_47 : mem43 3 = .inr (0, [.ref (ad 4), .int (nI I)]) := (hC44.2.2 3 (by omega)).trans hY.1
          have h4_48 : mem43 4 = .inl (cy 0, 24, .inl inp) := (hC44.2.2 4 (by omega)).trans hY.2.2
          have h223_50 : mem43 223 = .inr (1, [.ref (ad 3), .ref (ad 5), .int fl]) := (hC44.2.2 223 (by omega)).trans hC44.2.1
          have h5_49 := hC44.1.2.1
          have hbd56 := hC44.1.1
          have hbI57 := hY.2.1
          obtain ⟨S51, hS_52, h220_53, h221_54, hst55⟩ := hE45.2.2
          have he_58 := hE45.1 j (by omega)
          refine lv_iconst (v := 1) Bx.1 Bx.2.1 d_Ct_findMore_57 (by decide) ?_
          refine lv_istore_n (lv' := [(2, .int (1)), (5, .int (fcF Bw I j i0 g9)), (4, .ref (ad (20 + 2 * j))), (3, .int (nI j)), (0, .ref (ad 223)), (1, .int (nI i0))]) Bx.1 Bx.2.1 d_Ct_findMore_58 rfl hl (by decide) rfl (fun ls hl => ?_)
          refine lv_iinc (lv' := [(3, .int ((nI j + (-1)))), (2, .int (1)), (5, .int (fcF Bw I j i0 g9)), (4, .ref (ad (20 + 2 * j))), (0, .ref (ad 223)), (1, .int (nI i0))]) Bx.1 Bx.2.1 d_Ct_findMore_59 hl (k := 3) rfl rfl (by decide) rfl (fun ls hl => ?_)
          refine lv_goto Bx.1 Bx.2.1 d_Ct_findMore_62 rfl ?_
          exact ih18 mem43 (j) (gt46) (true) _ _ _ (by have := hmeas19; omega) (hC44) (hE45) (by omega) (by rw [egt46]; exact hfm) hP hD hS (lv_sub hl [0, 1, 4, 5] rfl)
  exact loop12 _ mem (ec) (g) (false) _ _ _ (Nat.lt_succ_self _) (hC) (hE) (Nat.le_refl _) (rfl) hP hD hS (by rw [← nI_sub1]; exact (lv_sub hl [0, 1, 2, 3] rfl))
set_option maxHeartbeats 4000000 in
set_option maxRecDepth 100000 in
theorem m_Ct_fillX (l : Launch) {D : va_G} {cy : Nat → ClassId} {sz n : Nat} {ad : Nat → Nat} {mem : Nat → va_E} {I lim rc ec : Nat} {wh fl : Int32} {m0 : Nat → va_E} {Bw : Ro} {g inp : Nat → Int32} (hn : 224 ≤ n) (hY : IY cy ad I inp m0) (hC : CS cy ad lim rc ec wh fl m0 mem) (hE : EM cy ad rc ec Bw g mem) : MV l D cy sz n ad y_Ct_fill c_Ct_fill 4 ({ frames := 4, cells := 0, slots := 0, locals := 120 } : Room) mem [.ref (ad 223)] (fun mem' => CS cy ad lim rc ec wh fl m0 mem' ∧ EM cy ad rc ec Bw (fillN Bw inp I ec (I + 1) g) mem') := by
  refine Met.ofW (cc := c_Ct_fill) (maxL := 4) (ret := none) (by decide) rfl ?_
  intro p e s m args below meth c s₁ B hml hv
  obtain ⟨rfl, E, hP, hD⟩ := hv
  have hx := B.exec
  have hb := B.bytes
  have hr := B.returns
  have hlocks := B.notSynchronized
  have Bx : MB p s m [.ref (ad 223)].toArray c c_Ct_fill "AbnfChart$Chart" D cy := ⟨hx, hb, tb_all (atoms_spec B.pre) E.2.1, findClass_of_methodNamed B.named, E.1⟩
  have hS : va_S (Az sz) s.heap s.heap [] := va_S.rf
  have hl := lv_entry ([.ref (ad 223)]) (n := 4) (Nat.le_of_ble_eq_true rfl)
  rw [lg_entry_eq]
  generalize (lg_sl ([.ref (ad 223)]) ++ List.replicate (4 - (lg_sl ([.ref (ad 223)])).length) Slot.unset).toArray = ls at hl ⊢
  have hl : lv_has ls 4 [(0, .ref (ad 223))] := hl
  have h3_1 : mem 3 = .inr (0, [.ref (ad 4), .int (nI I)]) := (hC.2.2 3 (by omega)).trans hY.1
  have h4_2 : mem 4 = .inl (cy 0, 24, .inl inp) := (hC.2.2 4 (by omega)).trans hY.2.2
  have h223_4 : mem 223 = .inr (1, [.ref (ad 3), .ref (ad 5), .int fl]) := (hC.2.2 223 (by omega)).trans hC.2.1
  have h5_3 := hC.1.2.1
  have hbd10 := hC.1.1
  have hbI11 := hY.2.1
  obtain ⟨S5, hS_6, h220_7, h221_8, hst9⟩ := hE.2.2
  refine lv_aload_n Bx.1 Bx.2.1 d_Ct_fill_0 rfl (lv_at hl 0 rfl) ?_
  refine f_get Bx hP (by omega) h223_4 rfl inCt 0 (by decide) kw_164 rfl rfl d_Ct_fill_1 ?_
  refine f_getN Bx hP (by omega) h3_1 rfl inCh 1 (by decide) kw_35 rfl rfl d_Ct_fill_4 ?_
  refine lv_istore_n (lv' := [(1, .int (nI I)), (0, .ref (ad 223))]) Bx.1 Bx.2.1 d_Ct_fill_7 rfl hl (by decide) rfl (fun ls hl => ?_)
  have loop12 : ∀ (d13 : Nat) (mem9 : Nat → va_E) (ii : Nat) (g9 : Nat → Int32) (ls : Array Slot) (H : Heap) (locs : List Loc), (ii < d13) → (CS cy ad lim rc ec wh fl m0 mem9) → (EM cy ad rc ec Bw g9 mem9) → (ii ≤ I + 1) → (fillN Bw inp I ec ii g9 = fillN Bw inp I ec (I + 1) g) → (va_P D vcl (fw n ad mem9) H) → (va_D (Az sz) (fw n ad mem9)) → (va_S (Az sz) s.heap H locs) → (lv_has ls 4 [(1, .int (nI ii + (-1))), (0, .ref (ad 223))]) → W p l e (headSpec (Cond.code y_Ct_fill c_Ct_fill 4 none :: tg) ({ frames := 4, cells := 0, slots := 0, locals := 120 } : Room)).room s m [.ref (ad 223)].toArray below meth c H locs 0 0 (MQ below (va_Qv (fun mem' => CS cy ad lim rc ec wh fl m0 mem' ∧ EM cy ad rc ec Bw (fillN Bw inp I ec (I + 1) g) mem') (PP D n ad) (Az sz)) [.ref (ad 223)].toArray s 0 0 (Az sz)) (F0 m 8 ls []) := by
    intro d13
    induction d13 with
    | zero => intro mem9 ii g9 ls H locs hmeas19; exact absurd hmeas19 (Nat.not_lt_zero _)
    | succ d13 ih18 =>
      intro mem9 ii g9 ls H locs hmeas19 hz14 hz15 hz16 hz17 hP hD hS hl
      have h3_20 : mem9 3 = .inr (0, [.ref (ad 4), .int (nI I)]) := (hz14.2.2 3 (by omega)).trans hY.1
      have h4_21 : mem9 4 = .inl (cy 0, 24, .inl inp) := (hz14.2.2 4 (by omega)).trans hY.2.2
      have h223_23 : mem9 223 = .inr (1, [.ref (ad 3), .ref (ad 5), .int fl]) := (hz14.2.2 223 (by omega)).trans hz14.2.1
      have h5_22 := hz14.1.2.1
      have hbd29 := hz14.1.1
      have hbI30 := hY.2.1
      obtain ⟨S24, hS_25, h220_26, h221_27, hst28⟩ := hz15.2.2
      refine lv_iload_n Bx.1 Bx.2.1 d_Ct_fill_8 rfl (lv_at hl 0 rfl) ?_
      refine lv_if_lt Bx.1 Bx.2.1 d_Ct_fill_9 rfl (fun hb31 => ?_) (fun hb31 => ?_)
      · have hii : ii = 0 := by
          rcases ii with _ | j
          · rfl
          · exact absurd hb31 (by rw [nI_m1]; exact nI_pos (by omega))
        subst hii
        have hfin : g9 = fillN Bw inp I ec (I + 1) g := hz17
        exact W.vret hx hb hr (fun t ht hW => ⟨⟨mem9, rfl, ⟨hz14, by rw [← hfin]; exact hz15⟩, by show va_P _ _ _ t.heap; rw [ht]; exact hP⟩, hS.F ht⟩) hS.2.2 d_Ct_fill_86
      · obtain ⟨i0, rfl⟩ : ∃ j, ii = j + 1 := by
          rcases ii with _ | j
          · exact absurd (by rw [nI_0m1]; decide) hb31
          · exact ⟨j, rfl⟩
        rw [nI_m1] at hl
        have hi0 : i0 ≤ I := by omega
        have hfl := hz17
        rw [fillN] at hfl
        refine lv_iconst (v := 0) Bx.1 Bx.2.1 d_Ct_fill_12 (by decide) ?_
        refine lv_istore_n (lv' := [(2, .int (0)), (1, .int (nI i0)), (0, .ref (ad 223))]) Bx.1 Bx.2.1 d_Ct_fill_13 rfl hl (by decide) rfl (fun ls hl => ?_)
        have loop32 : ∀ (d33 : Nat) (mem10 : Nat → va_E) (kk : Nat) (g10 : Nat → Int32) (ls : Array Slot) (H : Heap) (locs : List Loc), (ec - kk < d33) → (CS cy ad lim rc ec wh fl m0 mem10) → (EM cy ad rc ec Bw g10 mem10) → (kk ≤ ec) → (inN Bw inp I i0 (ec - kk) kk g10 = inN Bw inp I i0 ec 0 g9) → (va_P D vcl (fw n ad mem10) H) → (va_D (Az sz) (fw n ad mem10)) → (va_S (Az sz) s.heap H locs) → (lv_has ls 4 [(2, .int (nI kk)), (1, .int (nI i0)), (0, .ref (ad 223))]) → W p l e (headSpec (Cond.code y_Ct_fill c_Ct_fill 4 none :: tg) ({ frames := 4, cells := 0, slots := 0, locals := 120 } : Room)).room s m [.ref (ad 223)].toArray below meth c H locs 0 0 (MQ below (va_Qv (fun mem' => CS cy ad lim rc ec wh fl m0 mem' ∧ EM cy ad rc ec Bw (fillN Bw inp I ec (I + 1) g) mem') (PP D n ad) (Az sz)) [.ref (ad 223)].toArray s 0 0 (Az sz)) (F0 m 14 ls []) := by
          intro d33
          induction d33 with
          | zero => intro mem10 kk g10 ls H locs hmeas39; exact absurd hmeas39 (Nat.not_lt_zero _)
          | succ d33 ih38 =>
            intro mem10 kk g10 ls H locs hmeas39 hz34 hz35 hz36 hz37 hP hD hS hl
            have h3_40 : mem10 3 = .inr (0, [.ref (ad 4), .int (nI I)]) := (hz34.2.2 3 (by omega)).trans hY.1
            have h4_41 : mem10 4 = .inl (cy 0, 24, .inl inp) := (hz34.2.2 4 (by omega)).trans hY.2.2
            have h223_43 : mem10 223 = .inr (1, [.ref (ad 3), .ref (ad 5), .int fl]) := (hz34.2.2 223 (by omega)).trans hz34.2.1
            have h5_42 := hz34.1.2.1
            have hbd49 := hz34.1.1
            have hbI50 := hY.2.1
            obtain ⟨S44, hS_45, h220_46, h221_47, hst48⟩ := hz35.2.2
            refine lv_iload_n Bx.1 Bx.2.1 d_Ct_fill_14 rfl (lv_at hl 0 rfl) ?_
            refine lv_aload_n Bx.1 Bx.2.1 d_Ct_fill_15 rfl (lv_at hl 2 rfl) ?_
            refine f_get Bx hP (by omega) h223_43 rfl inCt 1 (by decide) kw_165 rfl rfl d_Ct_fill_16 ?_
            refine f_getN Bx hP (by omega) h5_42 rfl inGr 4 (by decide) kw_123 rfl rfl d_Ct_fill_19 ?_
            refine lv_icmp_ge Bx.1 Bx.2.1 d_Ct_fill_22 rfl (fun hb51 => ?_) (fun hb51 => ?_)
            · have hN52 : ec ≤ kk := (nI_leI (by omega) (by omega)).mp (show nI (ec) ≤ nI (kk) from hb51)
              have hin : g10 = inN Bw inp I i0 ec 0 g9 := by rw [← hz37, show ec - kk = 0 by omega]; rfl
              refine lv_iconst (v := 1) Bx.1 Bx.2.1 d_Ct_fill_53 (by decide) ?_
              refine lv_istore_n (lv' := [(2, .int (1)), (1, .int (nI i0)), (0, .ref (ad 223))]) Bx.1 Bx.2.1 d_Ct_fill_54 rfl hl (by decide) rfl (fun ls hl => ?_)
              refine lv_iconst (v := 0) Bx.1 Bx.2.1 d_Ct_fill_55 (by decide) ?_
              refine lv_istore_n (lv' := [(3, .int (0)), (2, .int (1)), (1, .int (nI i0)), (0, .ref (ad 223))]) Bx.1 Bx.2.1 d_Ct_fill_56 rfl hl (by decide) rfl (fun ls hl => ?_)
              have loop53 : ∀ (d54 : Nat) (mem11 : Nat → va_E) (ps : Nat) (g11 : Nat → Int32) (mo : Bool) (ls : Array Slot) (H : Heap) (locs : List Loc), (2501 - ps < d54) → (CS cy ad lim rc ec wh fl m0 mem11) → (EM cy ad rc ec Bw g11 mem11) → (psN Bw I ec i0 (2501 - ps) g11 mo = psN Bw I ec i0 2501 (inN Bw inp I i0 ec 0 g9) true) → (ps ≤ 2501) → (va_P D vcl (fw n ad mem11) H) → (va_D (Az sz) (fw n ad mem11)) → (va_S (Az sz) s.heap H locs) → (lv_has ls 4 [(3, .int (nI ps)), (2, .int ((if mo then 1 else 0))), (1, .int (nI i0)), (0, .ref (ad 223))]) → W p l e (headSpec (Cond.code y_Ct_fill c_Ct_fill 4 none :: tg) ({ frames := 4, cells := 0, slots := 0, locals := 120 } : Room)).room s m [.ref (ad 223)].toArray below meth c H locs 0 0 (MQ below (va_Qv (fun mem' => CS cy ad lim rc ec wh fl m0 mem' ∧ EM cy ad rc ec Bw (fillN Bw inp I ec (I + 1) g) mem') (PP D n ad) (Az sz)) [.ref (ad 223)].toArray s 0 0 (Az sz)) (F0 m 57 ls []) := by
                intro d54
                induction d54 with
                | zero => intro mem11 ps g11 mo ls H locs hmeas60; exact absurd hmeas60 (Nat.not_lt_zero _)
                | succ d54 ih59 =>
                  intro mem11 ps g11 mo ls H locs hmeas60 hz55 hz56 hz57 hz58 hP hD hS hl
                  have h3_61 : mem11 3 = .inr (0, [.ref (ad 4), .int (nI I)]) := (hz55.2.2 3 (by omega)).trans hY.1
                  have h4_62 : mem11 4 = .inl (cy 0, 24, .inl inp) := (hz55.2.2 4 (by omega)).trans hY.2.2
                  have h223_64 : mem11 223 = .inr (1, [.ref (ad 3), .ref (ad 5), .int fl]) := (hz55.2.2 223 (by omega)).trans hz55.2.1
                  have h5_63 := hz55.1.2.1
                  have hbd70 := hz55.1.1
                  have hbI71 := hY.2.1
                  obtain ⟨S65, hS_66, h220_67, h221_68, hst69⟩ := hz56.2.2
                  cases mo with
                  | false =>
                    have hz57r : g11 = psN Bw I ec i0 2501 (inN Bw inp I i0 ec 0 g9) true := by rw [← hz57]; cases 2501 - ps <;> rfl
                    have hl : lv_has ls 4 [(3, .int (nI ps)), (2, .int (0)), (1, .int (nI i0)), (0, .ref (ad 223))] := hl
                    refine lv_iload_n Bx.1 Bx.2.1 d_Ct_fill_57 rfl (lv_at hl 0 rfl) ?_
                    refine lv_sipush (v := 2501) Bx.1 Bx.2.1 d_Ct_fill_58 (by decide) ?_
                    refine lv_icmp_ge Bx.1 Bx.2.1 d_Ct_fill_61 rfl (fun hb72 => ?_) (fun hb72 => ?_)
                    · have hN73 : 2501 ≤ ps := (nI_leI (by omega) (by omega)).mp (show nI (2501) ≤ nI (ps) from hb72)
                      have hps : g11 = psN Bw I ec i0 2501 (inN Bw inp I i0 ec 0 g9) true := hz57r
                      refine lv_iinc (lv' := [(1, .int ((nI i0 + (-1)))), (3, .int (nI ps)), (2, .int (0)), (0, .ref (ad 223))]) Bx.1 Bx.2.1 d_Ct_fill_80 hl (k := 2) rfl rfl (by decide) rfl (fun ls hl => ?_)
                      refine lv_goto Bx.1 Bx.2.1 d_Ct_fill_83 rfl ?_
                      exact ih18 mem11 (i0) (g11) _ _ _ (by have := hmeas19; omega) (hz55) (hz56) (by omega) (by rw [hps]; exact hfl) hP hD hS (lv_sub hl [0, 3] rfl)
                    · have hN74 : ¬ 2501 ≤ ps := fun q9 => hb72 (show nI (2501) ≤ nI (ps) from (nI_leI (by omega) (by omega)).mpr q9)
                      refine lv_iload_n Bx.1 Bx.2.1 d_Ct_fill_64 rfl (lv_at hl 1 rfl) ?_
                      refine lv_if_eq Bx.1 Bx.2.1 d_Ct_fill_65 rfl (fun hb75 => ?_) (fun hb75 => ?_)
                      · have hps : g11 = psN Bw I ec i0 2501 (inN Bw inp I i0 ec 0 g9) true := hz57r
                        refine lv_iinc (lv' := [(1, .int ((nI i0 + (-1)))), (3, .int (nI ps)), (2, .int (0)), (0, .ref (ad 223))]) Bx.1 Bx.2.1 d_Ct_fill_80 hl (k := 2) rfl rfl (by decide) rfl (fun ls hl => ?_)
                        refine lv_goto Bx.1 Bx.2.1 d_Ct_fill_83 rfl ?_
                        exact ih18 mem11 (i0) (g11) _ _ _ (by have := hmeas19; omega) (hz55) (hz56) (by omega) (by rw [hps]; exact hfl) hP hD hS (lv_sub hl [0, 3] rfl)
                      · exact absurd hb75 (by decide)
                  | true =>
                    have hz57r : psN Bw I ec i0 (2501 - ps) g11 true = psN Bw I ec i0 2501 (inN Bw inp I i0 ec 0 g9) true := hz57
                    have hl : lv_has ls 4 [(3, .int (nI ps)), (2, .int (1)), (1, .int (nI i0)), (0, .ref (ad 223))] := hl
                    refine lv_iload_n Bx.1 Bx.2.1 d_Ct_fill_57 rfl (lv_at hl 0 rfl) ?_
                    refine lv_sipush (v := 2501) Bx.1 Bx.2.1 d_Ct_fill_58 (by decide) ?_
                    refine lv_icmp_ge Bx.1 Bx.2.1 d_Ct_fill_61 rfl (fun hb76 => ?_) (fun hb76 => ?_)
                    · have hN77 : 2501 ≤ ps := (nI_leI (by omega) (by omega)).mp (show nI (2501) ≤ nI (ps) from hb76)
                      have hps : g11 = psN Bw I ec i0 2501 (inN Bw inp I i0 ec 0 g9) true := by rw [← hz57r, show 2501 - ps = 0 by omega]; rfl
                      refine lv_iinc (lv' := [(1, .int ((nI i0 + (-1)))), (3, .int (nI ps)), (2, .int (1)), (0, .ref (ad 223))]) Bx.1 Bx.2.1 d_Ct_fill_80 hl (k := 2) rfl rfl (by decide) rfl (fun ls hl => ?_)
                      refine lv_goto Bx.1 Bx.2.1 d_Ct_fill_83 rfl ?_
                      exact ih18 mem11 (i0) (g11) _ _ _ (by have := hmeas19; omega) (hz55) (hz56) (by omega) (by rw [hps]; exact hfl) hP hD hS (lv_sub hl [0, 3] rfl)
                    · have hN78 : ¬ 2501 ≤ ps := fun q9 => hb76 (show nI (2501) ≤ nI (ps) from (nI_leI (by omega) (by omega)).mpr q9)
                      refine lv_iload_n Bx.1 Bx.2.1 d_Ct_fill_64 rfl (lv_at hl 1 rfl) ?_
                      refine lv_if_eq Bx.1 Bx.2.1 d_Ct_fill_65 rfl (fun hb79 => ?_) (fun hb79 => ?_)
                      · exact absurd hb79 (by decide)
                      · obtain ⟨r6, hr6⟩ : ∃ r6, 2501 - ps = r6 + 1 := ⟨2500 - ps, by omega⟩
                        have hps := hz57r
                        rw [hr6, psN, if_pos rfl] at hps
                        refine lv_aload_n Bx.1 Bx.2.1 d_Ct_fill_68 rfl (lv_at hl 3 rfl) ?_
                        refine lv_iload_n Bx.1 Bx.2.1 d_Ct_fill_69 rfl (lv_at hl 2 rfl) ?_
                        refine f_callVi (na := 1) (As := [.int (nI i0)]) (rest := []) Bx hml E hP hD hS (by omega) h223_64 rfl (m_Ct_findMoreX l hn hY hz55 hz56 hi0) kw_585 kw_587 sel_Ct_findMore kw_7 kw_588 (by decide +kernel) ⟨rfl, rfl⟩ ⟨Nat.le_of_ble_eq_true rfl, Nat.le_of_ble_eq_true rfl⟩ rfl hl.1 (Nat.le_of_ble_eq_true rfl) d_Ct_fill_70 ⟨Nat.le_of_ble_eq_true rfl, Nat.le_of_ble_eq_true rfl⟩ (fun r83 mem84 H locs hq hP hS => ?_)
                        have hD : va_D (Az sz) (fw n ad mem84) := fw_D hD
                        obtain ⟨hC80, hE81, hv82⟩ := hq
                        subst hv82
                        have h3_85 : mem84 3 = .inr (0, [.ref (ad 4), .int (nI I)]) := (hC80.2.2 3 (by omega)).trans hY.1
                        have h4_86 : mem84 4 = .inl (cy 0, 24, .inl inp) := (hC80.2.2 4 (by omega)).trans hY.2.2
                        have h223_88 : mem84 223 = .inr (1, [.ref (ad 3), .ref (ad 5), .int fl]) := (hC80.2.2 223 (by omega)).trans hC80.2.1
                        have h5_87 := hC80.1.2.1
                        have hbd94 := hC80.1.1
                        have hbI95 := hY.2.1
                        obtain ⟨S89, hS_90, h220_91, h221_92, hst93⟩ := hE81.2.2
                        refine lv_istore_n (lv' := [(2, .int ((if (fmN Bw I i0 ec g11 false).2 then 1 else 0))), (3, .int (nI ps)), (1, .int (nI i0)), (0, .ref (ad 223))]) Bx.1 Bx.2.1 d_Ct_fill_73 rfl hl (by decide) rfl (fun ls hl => ?_)
                        refine lv_iinc (lv' := [(3, .int ((nI ps + (1)))), (2, .int ((if (fmN Bw I i0 ec g11 false).2 then 1 else 0))), (1, .int (nI i0)), (0, .ref (ad 223))]) Bx.1 Bx.2.1 d_Ct_fill_74 hl (k := 1) rfl rfl (by decide) rfl (fun ls hl => ?_)
                        rw [show (nI ps + (1) : Int32) = nI (ps + 1) from nI_1 (ps)] at hl
                        refine lv_goto Bx.1 Bx.2.1 d_Ct_fill_77 rfl ?_
                        exact ih59 mem84 (ps + 1) ((fmN Bw I i0 ec g11 false).1) ((fmN Bw I i0 ec g11 false).2) _ _ _ (by have := hmeas60; omega) (hC80) (hE81) (by rw [show 2501 - (ps + 1) = r6 by omega]; exact hps) (by omega) hP hD hS (lv_sub hl [0, 1, 2, 3] rfl)
              exact loop53 _ mem10 (0) (g10) (true) _ _ _ (Nat.lt_succ_self _) (hz34) (hz35) (by rw [hin]) (by omega) hP hD hS (lv_sub hl [0, 1, 2, 3] rfl)
            · have hN96 : ¬ ec ≤ kk := fun q9 => hb51 (show nI (ec) ≤ nI (kk) from (nI_leI (by omega) (by omega)).mpr q9)
              refine lv_aload_n Bx.1 Bx.2.1 d_Ct_fill_25 rfl (lv_at hl 2 rfl) ?_
              refine f_get Bx hP (by omega) h223_43 rfl inCt 1 (by decide) kw_165 rfl rfl d_Ct_fill_26 ?_
              refine f_getN Bx hP (by omega) h5_42 rfl inGr 1 (by decide) kw_117 rfl rfl d_Ct_fill_29 ?_
              refine lv_iload_n Bx.1 Bx.2.1 d_Ct_fill_32 rfl (lv_at hl 0 rfl) ?_
              refine f_aald (t0 := 4) Bx hP (by omega) hz34.1.2.2.2.1 rfl kk rfl (by omega) (by decide) (q := ad (20 + 2 * kk)) (if_pos (by omega)) d_Ct_fill_33 ?_
              have he_97 := hz35.1 kk (by omega)
              refine lv_astore_n (lv' := [(3, .ref (ad (20 + 2 * kk))), (2, .int (nI kk)), (1, .int (nI i0)), (0, .ref (ad 223))]) Bx.1 Bx.2.1 d_Ct_fill_34 rfl hl (by decide) rfl (fun ls hl => ?_)
              refine lv_aload_n Bx.1 Bx.2.1 d_Ct_fill_35 rfl (lv_at hl 0 rfl) ?_
              refine f_getN Bx hP (by omega) he_97.1 rfl inEl 6 (by decide) kw_94 rfl rfl d_Ct_fill_36 ?_
              refine lv_iload_n Bx.1 Bx.2.1 d_Ct_fill_39 rfl (lv_at hl 2 rfl) ?_
              refine lv_aload_n Bx.1 Bx.2.1 d_Ct_fill_40 rfl (lv_at hl 3 rfl) ?_
              refine lv_aload_n Bx.1 Bx.2.1 d_Ct_fill_41 rfl (lv_at hl 0 rfl) ?_
              refine lv_iload_n Bx.1 Bx.2.1 d_Ct_fill_42 rfl (lv_at hl 2 rfl) ?_
              refine f_callVi (na := 2) (As := [.ref (ad (20 + 2 * kk)), .int (nI i0)]) (rest := [.int (nI i0), .ref (ad (21 + 2 * kk))]) Bx hml E hP hD hS (by omega) h223_43 rfl (m_Ct_endsOfCharactersX l hn hY hz34 hz35 hi0 (by omega)) kw_575 kw_577 sel_Ct_endsOfCharacters kw_7 kw_578 (by decide +kernel) ⟨rfl, rfl⟩ ⟨Nat.le_of_ble_eq_true rfl, Nat.le_of_ble_eq_true rfl⟩ rfl hl.1 (Nat.le_of_ble_eq_true rfl) d_Ct_fill_43 ⟨Nat.le_of_ble_eq_true rfl, Nat.le_of_ble_eq_true rfl⟩ (fun r98 mem99 H locs hq hP hS => ?_)
              have hD : va_D (Az sz) (fw n ad mem99) := fw_D hD
              obtain ⟨hqe, hv100⟩ := hq
              rw [hqe] at hP hD
              subst hv100
              obtain ⟨g101, hg102, hge103⟩ := (hz35.1 kk (by omega)).2.2.2.2.2
              refine f_iast (x := chrF Bw inp I kk i0) (i := nI (i0)) Bx hP hD hS (by omega) hg102 (vp_in_nI (n := i0) (by omega) (by decide)) d_Ct_fill_46 (fun H locs hP hS => ?_)
              rw [nI_clamp (n := i0) (by omega)] at hP
              obtain ⟨mem104, e_mem104⟩ : ∃ z, z = va_up mem10 (21 + 2 * kk) (.inl (cy 1, 25, .inl (upd g101 (i0) (chrF Bw inp I kk i0)))) := ⟨_, rfl⟩
              have hP : va_P D vcl (fw n ad mem104) H := by rw [e_mem104]; exact hP
              have hD : va_D (Az sz) (fw n ad mem104) := fw_D hD
              have hC105 : CS cy ad lim rc ec wh fl m0 mem104 := by rw [e_mem104]; exact hz34.ends (by omega)
              obtain ⟨gt107, egt107⟩ : ∃ z, z = upd g10 (25 * kk + i0) (chrF Bw inp I kk i0) := ⟨_, rfl⟩
              have hE106 : EM cy ad rc ec Bw gt107 mem104 := by rw [e_mem104, egt107]; exact hz35.up (by omega) (by omega) (by omega) hge103
              have h3_108 : mem104 3 = .inr (0, [.ref (ad 4), .int (nI I)]) := (hC105.2.2 3 (by omega)).trans hY.1
              have h4_109 : mem104 4 = .inl (cy 0, 24, .inl inp) := (hC105.2.2 4 (by omega)).trans hY.2.2
              have h223_111 : mem104 223 = .inr (1, [.ref (ad 3), .ref (ad 5), .int fl]) := (hC105.2.2 223 (by omega)).trans hC105.2.1
              have h5_110 := hC105.1.2.1
              have hbd117 := hC105.1.1
              have hbI118 := hY.2.1
              obtain ⟨S112, hS_113, h220_114, h221_115, hst116⟩ := hE106.2.2
              have he_119 := hE106.1 kk (by omega)
              refine lv_iinc (lv' := [(2, .int ((nI kk + (1)))), (3, .ref (ad (20 + 2 * kk))), (1, .int (nI i0)), (0, .ref (ad 223))]) Bx.1 Bx.2.1 d_Ct_fill_47 hl (k := 1) rfl rfl (by decide) rfl (fun ls hl => ?_)
              rw [show (nI kk + (1) : Int32) = nI (kk + 1) from nI_1 (kk)] at hl
              refine lv_goto Bx.1 Bx.2.1 d_Ct_fill_50 rfl ?_
              exact ih38 mem104 (kk + 1) (gt107) _ _ _ (by have := hmeas39; omega) (hC105) (hE106) (by omega) (by
                have hin := hz37
                obtain ⟨r6, hr6⟩ : ∃ r6, ec - kk = r6 + 1 := ⟨ec - kk - 1, by omega⟩
                rw [hr6, inN] at hin
                rw [show ec - (kk + 1) = r6 by omega, egt107]
                exact hin) hP hD hS (lv_sub hl [0, 2, 3] rfl)
        exact loop32 _ mem9 (0) (g9) _ _ _ (Nat.lt_succ_self _) (hz14) (hz15) (Nat.zero_le _) (rfl) hP hD hS (lv_sub hl [0, 1, 2] rfl)
  exact loop12 _ mem (I + 1) (g) _ _ _ (Nat.lt_succ_self _) (hC) (hE) (Nat.le_refl _) (rfl) hP hD hS (by rw [nI_m1]; exact (lv_sub hl [0, 1] rfl))
theorem EM.frame {cy : Nat → ClassId} {ad : Nat → Nat} {rc ec : Nat} {Bw : Ro} {g : Nat → Int32} {mem mem' : Nat → va_E} (h : EM cy ad rc ec Bw g mem) (hb : ec ≤ 100 ∧ rc ≤ 12) (e : ∀ i, 5 ≤ i ∧ i < 222 → mem' i = mem i) : EM cy ad rc ec Bw g mem' := by
  obtain ⟨h1, h2, S, hS, h3, h4, h5⟩ := h
  refine ⟨fun k hk => ?_, fun j hj => ?_, S, hS, (e 220 (by omega)).trans h3, (e 221 (by omega)).trans h4, h5⟩
  · obtain ⟨a1, a2, a3, a4, a5, g2, a6, a7⟩ := h1 k hk
    exact ⟨(e _ (by omega)).trans a1, a2, a3, a4, a5, g2, (e _ (by omega)).trans a6, a7⟩
  · obtain ⟨b1, nm, w, b2⟩ := h2 j hj
    exact ⟨b1, nm, w, (e _ (by omega)).trans b2⟩
set_option maxHeartbeats 4000000 in
set_option maxRecDepth 100000 in
theorem m_Ct_endsOfX (l : Launch) {D : va_G} {cy : Nat → ClassId} {sz n : Nat} {ad : Nat → Nat} {mem : Nat → va_E} {I lim rc ec : Nat} {wh fl : Int32} {m0 : Nat → va_E} {Bw : Ro} {g inp : Nat → Int32} {r0 : Nat} {i0 : Nat} (hn : 224 ≤ n) (hY : IY cy ad I inp m0) (hC : CS cy ad lim rc ec wh fl m0 mem) (hE : EM cy ad rc ec Bw g mem) (hi0 : i0 ≤ I) (hr0 : r0 < rc) : MI l D cy sz n ad y_Ct_endsOf c_Ct_endsOf 3 (some .int) ({ frames := 5, cells := 0, slots := 0, locals := 150 } : Room) mem [.ref (ad 223), .int (nI r0), .int (nI i0)] (fun r mem' => ∃ (fl' : Int32) (g' : Nat → Int32), ¬ fl' = 0 ∧ CS cy ad lim rc ec wh fl' (va_up m0 223 (.inr (1, [.ref (ad 3), .ref (ad 5), .int fl']))) mem' ∧ EM cy ad rc ec Bw g' mem' ∧ ((¬ fl = 0 ∧ g' = g) ∨ (fl = 0 ∧ g' = fillN Bw inp I ec (I + 1) g)) ∧ r = chF g' I i0 0 (chL (Bw 233) 100 (Bw 227 r0)) 0) := by
  refine Met.ofW (cc := c_Ct_endsOf) (maxL := 3) (ret := (some .int)) (by decide) rfl ?_
  intro p e s m args below meth c s₁ B hml hv
  obtain ⟨rfl, E, hP, hD⟩ := hv
  have hx := B.exec
  have hb := B.bytes
  have hr := B.returns
  have hlocks := B.notSynchronized
  have Bx : MB p s m [.ref (ad 223), .int (nI r0), .int (nI i0)].toArray c c_Ct_endsOf "AbnfChart$Chart" D cy := ⟨hx, hb, tb_all (atoms_spec B.pre) E.2.1, findClass_of_methodNamed B.named, E.1⟩
  have hS : va_S (Az sz) s.heap s.heap [] := va_S.rf
  have hl := lv_entry ([.ref (ad 223), .int (nI r0), .int (nI i0)]) (n := 3) (Nat.le_of_ble_eq_true rfl)
  rw [lg_entry_eq]
  generalize (lg_sl ([.ref (ad 223), .int (nI r0), .int (nI i0)]) ++ List.replicate (3 - (lg_sl ([.ref (ad 223), .int (nI r0), .int (nI i0)])).length) Slot.unset).toArray = ls at hl ⊢
  have hl : lv_has ls 3 [(0, .ref (ad 223)), (1, .int (nI r0)), (2, .int (nI i0))] := hl
  have h3_1 : mem 3 = .inr (0, [.ref (ad 4), .int (nI I)]) := (hC.2.2 3 (by omega)).trans hY.1
  have h4_2 : mem 4 = .inl (cy 0, 24, .inl inp) := (hC.2.2 4 (by omega)).trans hY.2.2
  have h223_4 : mem 223 = .inr (1, [.ref (ad 3), .ref (ad 5), .int fl]) := (hC.2.2 223 (by omega)).trans hC.2.1
  have h5_3 := hC.1.2.1
  have hbd10 := hC.1.1
  have hbI11 := hY.2.1
  obtain ⟨S5, hS_6, h220_7, h221_8, hst9⟩ := hE.2.2
  refine lv_aload_n Bx.1 Bx.2.1 d_Ct_endsOf_0 rfl (lv_at hl 0 rfl) ?_
  refine f_get Bx hP (by omega) h223_4 rfl inCt 2 (by decide) kw_166 rfl rfl d_Ct_endsOf_1 ?_
  refine lv_if_ne Bx.1 Bx.2.1 d_Ct_endsOf_4 rfl (fun hb12 => ?_) (fun hb12 => ?_)
  · have hup : va_up m0 223 (.inr (1, [.ref (ad 3), .ref (ad 5), .int fl])) = m0 := up_id _ hC.2.1
    refine lv_aload_n Bx.1 Bx.2.1 d_Ct_endsOf_16 rfl (lv_at hl 0 rfl) ?_
    refine lv_aload_n Bx.1 Bx.2.1 d_Ct_endsOf_17 rfl (lv_at hl 0 rfl) ?_
    refine f_get Bx hP (by omega) h223_4 rfl inCt 1 (by decide) kw_165 rfl rfl d_Ct_endsOf_18 ?_
    refine f_getN Bx hP (by omega) h5_3 rfl inGr 0 (by decide) kw_114 rfl rfl d_Ct_endsOf_21 ?_
    refine lv_iload_n Bx.1 Bx.2.1 d_Ct_endsOf_24 rfl (lv_at hl 1 rfl) ?_
    refine f_aald (t0 := 5) Bx hP (by omega) hC.1.2.2.1 rfl r0 rfl (by omega) (by decide) (q := ad (7 + r0)) (by unfold rfA; rw [if_pos (by omega), Nat.one_mul]) d_Ct_endsOf_25 ?_
    refine lv_iload_n Bx.1 Bx.2.1 d_Ct_endsOf_26 rfl (lv_at hl 2 rfl) ?_
    refine f_callVi (na := 2) (As := [.ref (ad (7 + r0)), .int (nI i0)]) (rest := []) Bx hml E hP hD hS (by omega) h223_4 rfl (m_Ct_endsOfRuleXR l hn hY hC hE hi0 hr0) kw_609 kw_611 sel_Ct_endsOfRule kw_7 kw_612 (by decide +kernel) ⟨rfl, rfl⟩ ⟨Nat.le_of_ble_eq_true rfl, Nat.le_of_ble_eq_true rfl⟩ rfl hl.1 (Nat.le_of_ble_eq_true rfl) d_Ct_endsOf_27 ⟨Nat.le_of_ble_eq_true rfl, Nat.le_of_ble_eq_true rfl⟩ (fun r13 mem14 H locs hq hP hS => ?_)
    have hD : va_D (Az sz) (fw n ad mem14) := fw_D hD
    obtain ⟨hqe, hv15⟩ := hq
    rw [hqe] at hP hD
    subst hv15
    exact W.iret (v := chF g I i0 0 (chL (Bw 233) 100 (Bw 227 r0)) 0) hx hb hr (fun t ht hW => ⟨⟨chF g I i0 0 (chL (Bw 233) 100 (Bw 227 r0)) 0, mem, rfl, ⟨fl, g, hb12, by rw [hup]; exact hC, hE, Or.inl ⟨hb12, rfl⟩, rfl⟩, by show va_P _ _ _ t.heap; rw [ht]; exact hP⟩, hS.F ht⟩) hS.2.2 d_Ct_endsOf_30
  · refine lv_aload_n Bx.1 Bx.2.1 d_Ct_endsOf_7 rfl (lv_at hl 0 rfl) ?_
    refine f_callVv (na := 0) (As := []) (rest := []) Bx hml E hP hD hS (by omega) h223_4 rfl (m_Ct_fillX l hn hY hC hE) kw_571 kw_573 sel_Ct_fill kw_7 kw_574 (by decide +kernel) ⟨rfl, rfl⟩ ⟨Nat.le_of_ble_eq_true rfl, Nat.le_of_ble_eq_true rfl⟩ rfl hl.1 (Nat.le_of_ble_eq_true rfl) d_Ct_endsOf_8 ⟨Nat.le_of_ble_eq_true rfl, Nat.le_of_ble_eq_true rfl⟩ (fun mem19 H locs hq hP hS => ?_)
    have hD : va_D (Az sz) (fw n ad mem19) := fw_D hD
    obtain ⟨hC16, hE17⟩ := hq
    have h3_20 : mem19 3 = .inr (0, [.ref (ad 4), .int (nI I)]) := (hC16.2.2 3 (by omega)).trans hY.1
    have h4_21 : mem19 4 = .inl (cy 0, 24, .inl inp) := (hC16.2.2 4 (by omega)).trans hY.2.2
    have h223_23 : mem19 223 = .inr (1, [.ref (ad 3), .ref (ad 5), .int fl]) := (hC16.2.2 223 (by omega)).trans hC16.2.1
    have h5_22 := hC16.1.2.1
    have hbd29 := hC16.1.1
    have hbI30 := hY.2.1
    obtain ⟨S24, hS_25, h220_26, h221_27, hst28⟩ := hE17.2.2
    refine lv_aload_n Bx.1 Bx.2.1 d_Ct_endsOf_11 rfl (lv_at hl 0 rfl) ?_
    refine lv_iconst (v := 1) Bx.1 Bx.2.1 d_Ct_endsOf_12 (by decide) ?_
    refine f_put Bx hP hD hS (by omega) h223_23 rfl inCt tyCt okCt nmCt 2 (by decide) kw_166 rfl rfl rfl rfl (Nat.le_of_ble_eq_true rfl) d_Ct_endsOf_13 (fun H locs hP hS => ?_)
    obtain ⟨mem31, e_mem31⟩ : ∃ z, z = va_up mem19 (223) (.inr (1, [.ref (ad 3), .ref (ad 5), .int (1)])) := ⟨_, rfl⟩
    have hP : va_P D vcl (fw n ad mem31) H := by rw [e_mem31]; exact hP
    have hD : va_D (Az sz) (fw n ad mem31) := fw_D hD
    have h_mem31 : mem31 (223) = .inr (1, [.ref (ad 3), .ref (ad 5), .int (1)]) := by rw [e_mem31, va_up_self]
    have hh32 := (va_up_ne mem19 (.inr (1, [.ref (ad 3), .ref (ad 5), .int (1)])) (show (3 : Nat) ≠ 223 by first | decide | assumption | omega)).trans h3_20
    rw [← e_mem31] at hh32
    have hh33 := (va_up_ne mem19 (.inr (1, [.ref (ad 3), .ref (ad 5), .int (1)])) (show (5 : Nat) ≠ 223 by first | decide | assumption | omega)).trans h5_22
    rw [← e_mem31] at hh33
    have hh34 := (va_up_ne mem19 (.inr (1, [.ref (ad 3), .ref (ad 5), .int (1)])) (show (220 : Nat) ≠ 223 by first | decide | assumption | omega)).trans h220_26
    rw [← e_mem31] at hh34
    have hC9 : CS cy ad lim rc ec wh 1 (va_up m0 223 (.inr (1, [.ref (ad 3), .ref (ad 5), .int 1]))) mem31 := by
      rw [e_mem31]
      refine ⟨hC16.1.upAny (by omega), va_up_self _ _ _, fun i hi => ?_⟩
      by_cases q : i = 223
      · subst q; rw [va_up_self, va_up_self]
      · rw [va_up_ne _ _ q, va_up_ne _ _ q]; exact hC16.2.2 i hi
    have hE9 : EM cy ad rc ec Bw (fillN Bw inp I ec (I + 1) g) mem31 := by rw [e_mem31]; exact hE17.frame (by omega) (fun i hi => va_up_ne _ _ (by omega))
    have hY9 : IY cy ad I inp (va_up m0 223 (.inr (1, [.ref (ad 3), .ref (ad 5), .int 1]))) := ⟨(va_up_ne _ _ (by omega)).trans hY.1, hY.2.1, (va_up_ne _ _ (by omega)).trans hY.2.2⟩
    refine lv_aload_n Bx.1 Bx.2.1 d_Ct_endsOf_16 rfl (lv_at hl 0 rfl) ?_
    refine lv_aload_n Bx.1 Bx.2.1 d_Ct_endsOf_17 rfl (lv_at hl 0 rfl) ?_
    refine f_get Bx hP (by omega) h_mem31 rfl inCt 1 (by decide) kw_165 rfl rfl d_Ct_endsOf_18 ?_
    refine f_getN Bx hP (by omega) hh33 rfl inGr 0 (by decide) kw_114 rfl rfl d_Ct_endsOf_21 ?_
    refine lv_iload_n Bx.1 Bx.2.1 d_Ct_endsOf_24 rfl (lv_at hl 1 rfl) ?_
    refine f_aald (t0 := 5) Bx hP (by omega) hC9.1.2.2.1 rfl r0 rfl (by omega) (by decide) (q := ad (7 + r0)) (by unfold rfA; rw [if_pos (by omega), Nat.one_mul]) d_Ct_endsOf_25 ?_
    refine lv_iload_n Bx.1 Bx.2.1 d_Ct_endsOf_26 rfl (lv_at hl 2 rfl) ?_
    refine f_callVi (na := 2) (As := [.ref (ad (7 + r0)), .int (nI i0)]) (rest := []) Bx hml E hP hD hS (by omega) h_mem31 rfl (m_Ct_endsOfRuleXR l hn hY9 hC9 hE9 hi0 hr0) kw_609 kw_611 sel_Ct_endsOfRule kw_7 kw_612 (by decide +kernel) ⟨rfl, rfl⟩ ⟨Nat.le_of_ble_eq_true rfl, Nat.le_of_ble_eq_true rfl⟩ rfl hl.1 (Nat.le_of_ble_eq_true rfl) d_Ct_endsOf_27 ⟨Nat.le_of_ble_eq_true rfl, Nat.le_of_ble_eq_true rfl⟩ (fun r35 mem36 H locs hq hP hS => ?_)
    have hD : va_D (Az sz) (fw n ad mem36) := fw_D hD
    obtain ⟨hqe, hv37⟩ := hq
    rw [hqe] at hP hD
    subst hv37
    exact W.iret (v := chF (fillN Bw inp I ec (I + 1) g) I i0 0 (chL (Bw 233) 100 (Bw 227 r0)) 0) hx hb hr (fun t ht hW => ⟨⟨chF (fillN Bw inp I ec (I + 1) g) I i0 0 (chL (Bw 233) 100 (Bw 227 r0)) 0, mem31, rfl, ⟨1, fillN Bw inp I ec (I + 1) g, by decide, hC9, hE9, Or.inr ⟨hb12, rfl⟩, rfl⟩, by show va_P _ _ _ t.heap; rw [ht]; exact hP⟩, hS.F ht⟩) hS.2.2 d_Ct_endsOf_30
