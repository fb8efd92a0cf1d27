theorem EM.up {cy : Nat → ClassId} {ad : Nat → Nat} {rc ec : Nat} {Bw : Ro} {g g' : Nat → Int32} {mem : Nat → va_E} (h : EM cy ad rc ec Bw g mem) {k i : Nat} {x : Int32} (hk : k < ec) (hec : ec ≤ 100 ∧ rc ≤ 12) (hi : i < 25) (hg : ∀ i, i < 25 → g' i = g (25 * k + i)) : EM cy ad rc ec Bw (upd g (25 * k + i) x) (va_up mem (21 + 2 * k) (.inl (cy 1, 25, .inl (upd g' i x)))) := by
  obtain ⟨h1, h2, S, hS, h3, h4, h5⟩ := h
  refine ⟨fun k2 hk2 => ?_, fun j hj => ?_, S, hS, ?_, ?_, h5⟩
  · obtain ⟨a1, a2, a3, a4, a5, g2, a6, a7⟩ := h1 k2 hk2
    refine ⟨(va_up_ne _ _ (by omega)).trans a1, a2, a3, a4, a5, ?_⟩
    by_cases q : k2 = k
    · subst q
      refine ⟨upd g' i x, va_up_self _ _ _, fun m hm => ?_⟩
      by_cases q2 : m = i
      · subst q2; rw [upd_self, upd_self]
      · rw [upd_ne q2, upd_ne (by omega)]; exact hg m hm
    · refine ⟨g2, (va_up_ne _ _ (by omega)).trans a6, fun m hm => ?_⟩
      rw [upd_ne (by omega)]; exact a7 m hm
  · obtain ⟨b1, nm, w, b2⟩ := h2 j hj
    exact ⟨b1, nm, w, (va_up_ne _ _ (by omega)).trans b2⟩
  · exact (va_up_ne _ _ (by omega)).trans h3
  · exact (va_up_ne _ _ (by omega)).trans h4
theorem nI_subx (a o m : Nat) : nI (a + (o + m)) - nI o = nI (a + m) := by
  have e : nI (a + (o + m)) = nI (a + m) + nI o := by rw [nI_add]; congr 1; omega
  rw [e, Int32.sub_eq_add_neg, Int32.add_assoc, Int32.add_right_neg, Int32.add_zero]
theorem nI_suby (o t : Nat) : nI (o + t) - nI o = nI t := by
  have := nI_subx 0 o t
  rw [Nat.zero_add, Nat.zero_add] at this
  exact this
def stcN (ch inp : Nat → Int32) (I : Nat) (sm : Bool) (i o : Nat) : Nat → Nat → Bool
  | 0, _ => true
  | r + 1, m => if (if sm then smF (ch (o + m)) = smF (hereF I inp (i + m)) else ch (o + m) = hereF I inp (i + m)) then stcN ch inp I sm i o r (m + 1) else false
def chrF (Bw : Ro) (inp : Nat → Int32) (I k i : Nat) : Int32 :=
  if Bw 228 k = 5 ∨ Bw 228 k = 6 then (if stcN (Bw 234) inp I (decide (Bw 228 k = 5)) i (Bw 229 k).toNatClampNeg (Bw 230 k - Bw 229 k).toNatClampNeg 0 then 1 <<< (nI (i + (Bw 230 k - Bw 229 k).toNatClampNeg) &&& 31) else 0)
  else if Bw 228 k = 7 then (if ¬ hereF I inp i = -1 ∧ ¬ hereF I inp i < Bw 229 k ∧ ¬ Bw 230 k < hereF I inp i then 1 <<< (nI (i + 1) &&& 31) else 0) else 0
def fmN (Bw : Ro) (I i : Nat) : Nat → (Nat → Int32) → Bool → (Nat → Int32) × Bool
  | 0, g, mo => (g, mo)
  | k + 1, g, mo => if fcF Bw I k i g = g (25 * k + i) then fmN Bw I i k g mo else fmN Bw I i k (upd g (25 * k + i) (fcF Bw I k i g)) true
def inN (Bw : Ro) (inp : Nat → Int32) (I i : Nat) : Nat → Nat → (Nat → Int32) → (Nat → Int32)
  | 0, _, g => g
  | r + 1, k, g => inN Bw inp I i r (k + 1) (upd g (25 * k + i) (chrF Bw inp I k i))
def psN (Bw : Ro) (I ec i : Nat) : Nat → (Nat → Int32) → Bool → (Nat → Int32)
  | 0, g, _ => g
  | r + 1, g, mo => if mo then psN Bw I ec i r (fmN Bw I i ec g false).1 (fmN Bw I i ec g false).2 else g
def fillN (Bw : Ro) (inp : Nat → Int32) (I ec : Nat) : Nat → (Nat → Int32) → (Nat → Int32)
  | 0, g => g
  | i + 1, g => fillN Bw inp I ec i (psN Bw I ec i 2501 (inN Bw inp I i ec 0 g) true)
set_option maxHeartbeats 4000000 in
set_option maxRecDepth 100000 in
theorem m_Ct_endsOfRepetitionX (l : Launch) {D : va_G} {cy : Nat → ClassId} {sz n : Nat} {ad : Nat → Nat} {mem : Nat → va_E} {I lim rc ec : Nat} {wh fl : Int32} {m0 : Nat → va_E} {Bw : Ro} {g inp : Nat → Int32} {k p9 : Nat} {i0 : Nat} (hn : 224 ≤ n) (hY : IY cy ad I inp m0) (hC : CS cy ad lim rc ec wh fl m0 mem) (hE : EM cy ad rc ec Bw g mem) (hi0 : i0 ≤ I) (hk : k < ec) (hp9 : p9 < ec) (hpa : Bw 232 k = nI p9) : MI l D cy sz n ad y_Ct_endsOfRepetition c_Ct_endsOfRepetition 8 (some .int) ({ frames := 1, cells := 0, slots := 0, locals := 30 } : Room) mem [.ref (ad 223), .ref (ad (20 + 2 * k)), .int (nI i0)] (fun r mem' => mem' = mem ∧ r = repF g I p9 i0 (Bw 229 k) (Bw 230 k)) := by
  refine Met.ofW (cc := c_Ct_endsOfRepetition) (maxL := 8) (ret := (some .int)) (by decide) rfl ?_
  intro p e s m args below meth c s₁ B hml hv
  obtain ⟨rfl, E, hP, hD⟩ := hv
  have hx := B.exec
  have hb := B.bytes
  have hr := B.returns
  have hlocks := B.notSynchronized
  have Bx : MB p s m [.ref (ad 223), .ref (ad (20 + 2 * k)), .int (nI i0)].toArray c c_Ct_endsOfRepetition "AbnfChart$Chart" D cy := ⟨hx, hb, tb_all (atoms_spec B.pre) E.2.1, findClass_of_methodNamed B.named, E.1⟩
  have hS : va_S (Az sz) s.heap s.heap [] := va_S.rf
  have hl := lv_entry ([.ref (ad 223), .ref (ad (20 + 2 * k)), .int (nI i0)]) (n := 8) (Nat.le_of_ble_eq_true rfl)
  rw [lg_entry_eq]
  generalize (lg_sl ([.ref (ad 223), .ref (ad (20 + 2 * k)), .int (nI i0)]) ++ List.replicate (8 - (lg_sl ([.ref (ad 223), .ref (ad (20 + 2 * k)), .int (nI i0)])).length) Slot.unset).toArray = ls at hl ⊢
  have hl : lv_has ls 8 [(0, .ref (ad 223)), (1, .ref (ad (20 + 2 * k))), (2, .int (nI i0))] := hl
  have h3_1 : mem 3 = .inr (0, [.ref (ad 4), .int (nI I)]) := (hC.2.2 3 (by omega)).trans hY.1
  have h4_2 : mem 4 = .inl (cy 0, 24, .inl inp) := (hC.2.2 4 (by omega)).trans hY.2.2
  have h223_4 : mem 223 = .inr (1, [.ref (ad 3), .ref (ad 5), .int fl]) := (hC.2.2 223 (by omega)).trans hC.2.1
  have h5_3 := hC.1.2.1
  have hbd10 := hC.1.1
  have hbI11 := hY.2.1
  obtain ⟨S5, hS_6, h220_7, h221_8, hst9⟩ := hE.2.2
  have he_12 := hE.1 k (by omega)
  have hw9 : vE ad (Bw 232 k) = .ref (ad (20 + 2 * p9)) := by rw [hpa]; exact vE_n ad (by omega)
  have hcl1 := clamp_lt (Bw 229 k)
  refine lv_iconst (v := 1) Bx.1 Bx.2.1 d_Ct_endsOfRepetition_0 (by decide) ?_
  refine lv_iload_n Bx.1 Bx.2.1 d_Ct_endsOfRepetition_1 rfl (lv_at hl 2 rfl) ?_
  refine lv_ishl Bx.1 Bx.2.1 d_Ct_endsOfRepetition_2 ?_
  refine lv_istore_n (lv' := [(3, .int ((1) <<< ((nI i0) &&& 31))), (0, .ref (ad 223)), (1, .ref (ad (20 + 2 * k))), (2, .int (nI i0))]) Bx.1 Bx.2.1 d_Ct_endsOfRepetition_3 rfl hl (by decide) rfl (fun ls hl => ?_)
  refine lv_iconst (v := 0) Bx.1 Bx.2.1 d_Ct_endsOfRepetition_4 (by decide) ?_
  refine lv_istore (lv' := [(4, .int (0)), (3, .int ((1) <<< ((nI i0) &&& 31))), (0, .ref (ad 223)), (1, .ref (ad (20 + 2 * k))), (2, .int (nI i0))]) Bx.1 Bx.2.1 d_Ct_endsOfRepetition_5 hl (by decide) rfl (fun ls hl => ?_)
  have loop13 : ∀ (d14 : Nat) (mq : Nat) (ls : Array Slot) (H : Heap) (locs : List Loc), (((Bw 229 k).toNatClampNeg - mq) < d14) → (mq ≤ (Bw 229 k).toNatClampNeg) → (va_P D vcl (fw n ad mem) H) → (va_D (Az sz) (fw n ad mem)) → (va_S (Az sz) s.heap H locs) → (lv_has ls 8 [(4, .int (nI mq)), (3, .int (iterG g I p9 i0 (1 <<< (nI i0 &&& 31)) mq)), (0, .ref (ad 223)), (1, .ref (ad (20 + 2 * k))), (2, .int (nI i0))]) → W p l e (headSpec (Cond.code y_Ct_endsOfRepetition c_Ct_endsOfRepetition 8 (some .int) :: tg) ({ frames := 1, cells := 0, slots := 0, locals := 30 } : Room)).room s m [.ref (ad 223), .ref (ad (20 + 2 * k)), .int (nI i0)].toArray below meth c H locs 0 0 (MQ below (va_Qi (fun r mem' => mem' = mem ∧ r = repF g I p9 i0 (Bw 229 k) (Bw 230 k)) (PP D n ad) (Az sz)) [.ref (ad 223), .ref (ad (20 + 2 * k)), .int (nI i0)].toArray s 0 0 (Az sz)) (F0 m 7 ls []) := by
    intro d14
    induction d14 with
    | zero => intro mq ls H locs hmeas17; exact absurd hmeas17 (Nat.not_lt_zero _)
    | succ d14 ih16 =>
      intro mq ls H locs hmeas17 hz15 hP hD hS hl
      refine lv_iload Bx.1 Bx.2.1 d_Ct_endsOfRepetition_7 (lv_at hl 0 rfl) ?_
      refine lv_aload_n Bx.1 Bx.2.1 d_Ct_endsOfRepetition_9 rfl (lv_at hl 3 rfl) ?_
      refine f_getN Bx hP (by omega) he_12.1 rfl inEl 1 (by decide) kw_78 rfl rfl d_Ct_endsOfRepetition_10 ?_
      refine lv_icmp_ge Bx.1 Bx.2.1 d_Ct_endsOfRepetition_13 rfl (fun hb18 => ?_) (fun hb18 => ?_)
      · have hmm : mq = (Bw 229 k).toNatClampNeg := by have := (clampN (by omega)).mp hb18; omega
        subst hmm
        refine lv_aload_n Bx.1 Bx.2.1 d_Ct_endsOfRepetition_33 rfl (lv_at hl 3 rfl) ?_
        refine f_getN Bx hP (by omega) he_12.1 rfl inEl 2 (by decide) kw_81 rfl rfl d_Ct_endsOfRepetition_34 ?_
        refine lv_iconst (v := -1) Bx.1 Bx.2.1 d_Ct_endsOfRepetition_37 (by decide) ?_
        refine lv_icmp_ne Bx.1 Bx.2.1 d_Ct_endsOfRepetition_38 rfl (fun hb19 => ?_) (fun hb19 => ?_)
        · refine lv_aload_n Bx.1 Bx.2.1 d_Ct_endsOfRepetition_51 rfl (lv_at hl 3 rfl) ?_
          refine f_getN Bx hP (by omega) he_12.1 rfl inEl 2 (by decide) kw_81 rfl rfl d_Ct_endsOfRepetition_52 ?_
          refine lv_aload_n Bx.1 Bx.2.1 d_Ct_endsOfRepetition_55 rfl (lv_at hl 3 rfl) ?_
          refine f_getN Bx hP (by omega) he_12.1 rfl inEl 1 (by decide) kw_78 rfl rfl d_Ct_endsOfRepetition_56 ?_
          refine lv_isub Bx.1 Bx.2.1 d_Ct_endsOfRepetition_59 ?_
          refine lv_istore (lv' := [(4, .int (Bw 230 k - Bw 229 k)), (3, .int ((iterG g I p9 i0 (1 <<< (nI i0 &&& 31)) (Bw 229 k).toNatClampNeg))), (0, .ref (ad 223)), (1, .ref (ad (20 + 2 * k))), (2, .int (nI i0))]) Bx.1 Bx.2.1 d_Ct_endsOfRepetition_60 hl (by decide) rfl (fun ls hl => ?_)
          refine lv_iconst (v := 1) Bx.1 Bx.2.1 d_Ct_endsOfRepetition_62 (by decide) ?_
          refine lv_istore (lv' := [(5, .int (1)), (4, .int (Bw 230 k - Bw 229 k)), (3, .int ((iterG g I p9 i0 (1 <<< (nI i0 &&& 31)) (Bw 229 k).toNatClampNeg))), (0, .ref (ad 223)), (1, .ref (ad (20 + 2 * k))), (2, .int (nI i0))]) Bx.1 Bx.2.1 d_Ct_endsOfRepetition_63 hl (by decide) rfl (fun ls hl => ?_)
          refine lv_iconst (v := 0) Bx.1 Bx.2.1 d_Ct_endsOfRepetition_65 (by decide) ?_
          refine lv_istore (lv' := [(6, .int (0)), (5, .int (1)), (4, .int (Bw 230 k - Bw 229 k)), (3, .int ((iterG g I p9 i0 (1 <<< (nI i0 &&& 31)) (Bw 229 k).toNatClampNeg))), (0, .ref (ad 223)), (1, .ref (ad (20 + 2 * k))), (2, .int (nI i0))]) Bx.1 Bx.2.1 d_Ct_endsOfRepetition_66 hl (by decide) rfl (fun ls hl => ?_)
          have hcl2 := clamp_lt ((Bw 230 k - Bw 229 k))
          have htot : iterH g I p9 i0 ((Bw 230 k - Bw 229 k)).toNatClampNeg (iterG g I p9 i0 (1 <<< (nI i0 &&& 31)) (Bw 229 k).toNatClampNeg) = repF g I p9 i0 (Bw 229 k) (Bw 230 k) := by unfold repF; rw [if_neg hb19]
          have loop20 : ∀ (d21 : Nat) (mq : Nat) (en : Int32) (mo : Bool) (ls : Array Slot) (H : Heap) (locs : List Loc), ((((Bw 230 k - Bw 229 k)).toNatClampNeg - mq) < d21) → (mq ≤ ((Bw 230 k - Bw 229 k)).toNatClampNeg) → ((if mo then iterH g I p9 i0 (((Bw 230 k - Bw 229 k)).toNatClampNeg - mq) en else en) = repF g I p9 i0 (Bw 229 k) (Bw 230 k)) → (va_P D vcl (fw n ad mem) H) → (va_D (Az sz) (fw n ad mem)) → (va_S (Az sz) s.heap H locs) → (lv_has ls 8 [(6, .int (nI mq)), (5, .int ((if mo then 1 else 0))), (4, .int (Bw 230 k - Bw 229 k)), (3, .int (en)), (0, .ref (ad 223)), (1, .ref (ad (20 + 2 * k))), (2, .int (nI i0))]) → W p l e (headSpec (Cond.code y_Ct_endsOfRepetition c_Ct_endsOfRepetition 8 (some .int) :: tg) ({ frames := 1, cells := 0, slots := 0, locals := 30 } : Room)).room s m [.ref (ad 223), .ref (ad (20 + 2 * k)), .int (nI i0)].toArray below meth c H locs 0 0 (MQ below (va_Qi (fun r mem' => mem' = mem ∧ r = repF g I p9 i0 (Bw 229 k) (Bw 230 k)) (PP D n ad) (Az sz)) [.ref (ad 223), .ref (ad (20 + 2 * k)), .int (nI i0)].toArray s 0 0 (Az sz)) (F0 m 68 ls []) := by
            intro d21
            induction d21 with
            | zero => intro mq en mo ls H locs hmeas25; exact absurd hmeas25 (Nat.not_lt_zero _)
            | succ d21 ih24 =>
              intro mq en mo ls H locs hmeas25 hz22 hz23 hP hD hS hl
              cases mo with
              | false =>
                have hz23r : en = repF g I p9 i0 (Bw 229 k) (Bw 230 k) := hz23
                have hl : lv_has ls 8 [(6, .int (nI mq)), (5, .int (0)), (4, .int (Bw 230 k - Bw 229 k)), (3, .int (en)), (0, .ref (ad 223)), (1, .ref (ad (20 + 2 * k))), (2, .int (nI i0))] := hl
                refine lv_iload Bx.1 Bx.2.1 d_Ct_endsOfRepetition_68 (lv_at hl 0 rfl) ?_
                refine lv_iload Bx.1 Bx.2.1 d_Ct_endsOfRepetition_70 (lv_at hl 2 rfl) ?_
                refine lv_icmp_ge Bx.1 Bx.2.1 d_Ct_endsOfRepetition_72 rfl (fun hb26 => ?_) (fun hb26 => ?_)
                · refine lv_iload_n Bx.1 Bx.2.1 d_Ct_endsOfRepetition_115 rfl (lv_at hl 3 rfl) ?_
                  exact W.iret (v := en) hx hb hr (fun t ht hW => ⟨⟨en, mem, rfl, ⟨rfl, hz23r⟩, by show va_P _ _ _ t.heap; rw [ht]; exact hP⟩, hS.F ht⟩) hS.2.2 d_Ct_endsOfRepetition_116
                · have hmlt : mq < ((Bw 230 k - Bw 229 k)).toNatClampNeg := by
                    rcases Nat.lt_or_ge mq ((Bw 230 k - Bw 229 k)).toNatClampNeg with q | q
                    · exact q
                    · exact absurd ((clampN (by omega)).mpr q) hb26
                  refine lv_iload Bx.1 Bx.2.1 d_Ct_endsOfRepetition_75 (lv_at hl 1 rfl) ?_
                  refine lv_if_eq Bx.1 Bx.2.1 d_Ct_endsOfRepetition_77 rfl (fun hb27 => ?_) (fun hb27 => ?_)
                  · refine lv_iload_n Bx.1 Bx.2.1 d_Ct_endsOfRepetition_115 rfl (lv_at hl 3 rfl) ?_
                    exact W.iret (v := en) hx hb hr (fun t ht hW => ⟨⟨en, mem, rfl, ⟨rfl, hz23r⟩, by show va_P _ _ _ t.heap; rw [ht]; exact hP⟩, hS.F ht⟩) hS.2.2 d_Ct_endsOfRepetition_116
                  · exact absurd hb27 (by decide)
              | true =>
                have hz23r : iterH g I p9 i0 (((Bw 230 k - Bw 229 k)).toNatClampNeg - mq) en = repF g I p9 i0 (Bw 229 k) (Bw 230 k) := hz23
                have hl : lv_has ls 8 [(6, .int (nI mq)), (5, .int (1)), (4, .int (Bw 230 k - Bw 229 k)), (3, .int (en)), (0, .ref (ad 223)), (1, .ref (ad (20 + 2 * k))), (2, .int (nI i0))] := hl
                refine lv_iload Bx.1 Bx.2.1 d_Ct_endsOfRepetition_68 (lv_at hl 0 rfl) ?_
                refine lv_iload Bx.1 Bx.2.1 d_Ct_endsOfRepetition_70 (lv_at hl 2 rfl) ?_
                refine lv_icmp_ge Bx.1 Bx.2.1 d_Ct_endsOfRepetition_72 rfl (fun hb28 => ?_) (fun hb28 => ?_)
                · refine lv_iload_n Bx.1 Bx.2.1 d_Ct_endsOfRepetition_115 rfl (lv_at hl 3 rfl) ?_
                  exact W.iret (v := en) hx hb hr (fun t ht hW => ⟨⟨en, mem, rfl, ⟨rfl, by rw [← hz23r, show ((Bw 230 k - Bw 229 k)).toNatClampNeg - mq = 0 by have := (clampN (by omega)).mp hb28; omega]; rfl⟩, by show va_P _ _ _ t.heap; rw [ht]; exact hP⟩, hS.F ht⟩) hS.2.2 d_Ct_endsOfRepetition_116
                · have hmlt : mq < ((Bw 230 k - Bw 229 k)).toNatClampNeg := by
                    rcases Nat.lt_or_ge mq ((Bw 230 k - Bw 229 k)).toNatClampNeg with q | q
                    · exact q
                    · exact absurd ((clampN (by omega)).mpr q) hb28
                  refine lv_iload Bx.1 Bx.2.1 d_Ct_endsOfRepetition_75 (lv_at hl 1 rfl) ?_
                  refine lv_if_eq Bx.1 Bx.2.1 d_Ct_endsOfRepetition_77 rfl (fun hb29 => ?_) (fun hb29 => ?_)
                  · exact absurd hb29 (by decide)
                  · obtain ⟨r6, hr6⟩ : ∃ r6, ((Bw 230 k - Bw 229 k)).toNatClampNeg - mq = r6 + 1 := ⟨((Bw 230 k - Bw 229 k)).toNatClampNeg - mq - 1, by omega⟩
                    have hit := hz23r
                    rw [hr6, iterH] at hit
                    refine lv_iload_n Bx.1 Bx.2.1 d_Ct_endsOfRepetition_80 rfl (lv_at hl 3 rfl) ?_
                    refine lv_istore (lv' := [(7, .int (en)), (6, .int (nI mq)), (5, .int (1)), (4, .int (Bw 230 k - Bw 229 k)), (3, .int (en)), (0, .ref (ad 223)), (1, .ref (ad (20 + 2 * k))), (2, .int (nI i0))]) Bx.1 Bx.2.1 d_Ct_endsOfRepetition_81 hl (by decide) rfl (fun ls hl => ?_)
                    refine lv_iload_n Bx.1 Bx.2.1 d_Ct_endsOfRepetition_83 rfl (lv_at hl 4 rfl) ?_
                    refine lv_aload_n Bx.1 Bx.2.1 d_Ct_endsOfRepetition_84 rfl (lv_at hl 5 rfl) ?_
                    refine lv_iload_n Bx.1 Bx.2.1 d_Ct_endsOfRepetition_85 rfl (lv_at hl 4 rfl) ?_
                    refine lv_aload_n Bx.1 Bx.2.1 d_Ct_endsOfRepetition_86 rfl (lv_at hl 6 rfl) ?_
                    refine f_getN Bx hP (by omega) he_12.1 rfl inEl 4 (by decide) kw_88 rfl rfl d_Ct_endsOfRepetition_87 ?_
                    rw [hw9]
                    refine lv_iload_n Bx.1 Bx.2.1 d_Ct_endsOfRepetition_90 rfl (lv_at hl 7 rfl) ?_
                    refine f_callVi (na := 3) (As := [.int (en), .ref (ad (20 + 2 * p9)), .int (nI i0)]) (rest := [.int (en)]) Bx hml E hP hD hS (by omega) h223_4 rfl (m_Ct_goOnXR l hn hY hC hE hi0 hp9) kw_601 kw_603 sel_Ct_goOn kw_7 kw_604 (by decide +kernel) ⟨rfl, rfl⟩ ⟨Nat.le_of_ble_eq_true rfl, Nat.le_of_ble_eq_true rfl⟩ rfl hl.1 (Nat.le_of_ble_eq_true rfl) d_Ct_endsOfRepetition_91 ⟨Nat.le_of_ble_eq_true rfl, Nat.le_of_ble_eq_true rfl⟩ (fun r30 mem31 H locs hq hP hS => ?_)
                    have hD : va_D (Az sz) (fw n ad mem31) := fw_D hD
                    obtain ⟨hqe, hv32⟩ := hq
                    rw [hqe] at hP hD
                    subst hv32
                    refine lv_ior Bx.1 Bx.2.1 d_Ct_endsOfRepetition_94 ?_
                    refine lv_istore_n (lv' := [(3, .int (en ||| goF g I p9 (en) i0)), (7, .int (en)), (6, .int (nI mq)), (5, .int (1)), (4, .int (Bw 230 k - Bw 229 k)), (0, .ref (ad 223)), (1, .ref (ad (20 + 2 * k))), (2, .int (nI i0))]) Bx.1 Bx.2.1 d_Ct_endsOfRepetition_95 rfl hl (by decide) rfl (fun ls hl => ?_)
                    refine lv_iload_n Bx.1 Bx.2.1 d_Ct_endsOfRepetition_96 rfl (lv_at hl 0 rfl) ?_
                    refine lv_iload Bx.1 Bx.2.1 d_Ct_endsOfRepetition_97 (lv_at hl 1 rfl) ?_
                    refine lv_icmp_eq Bx.1 Bx.2.1 d_Ct_endsOfRepetition_99 rfl (fun hb33 => ?_) (fun hb33 => ?_)
                    · rw [if_pos hb33] at hit
                      refine lv_iconst (v := 0) Bx.1 Bx.2.1 d_Ct_endsOfRepetition_106 (by decide) ?_
                      refine lv_istore (lv' := [(5, .int (0)), (3, .int (en ||| goF g I p9 (en) i0)), (7, .int (en)), (6, .int (nI mq)), (4, .int (Bw 230 k - Bw 229 k)), (0, .ref (ad 223)), (1, .ref (ad (20 + 2 * k))), (2, .int (nI i0))]) Bx.1 Bx.2.1 d_Ct_endsOfRepetition_107 hl (by decide) rfl (fun ls hl => ?_)
                      refine lv_iinc (lv' := [(6, .int ((nI mq + (1)))), (5, .int (0)), (3, .int (en ||| goF g I p9 (en) i0)), (7, .int (en)), (4, .int (Bw 230 k - Bw 229 k)), (0, .ref (ad 223)), (1, .ref (ad (20 + 2 * k))), (2, .int (nI i0))]) Bx.1 Bx.2.1 d_Ct_endsOfRepetition_109 hl (k := 3) rfl rfl (by decide) rfl (fun ls hl => ?_)
                      rw [show (nI mq + (1) : Int32) = nI (mq + 1) from nI_1 (mq)] at hl
                      refine lv_goto Bx.1 Bx.2.1 d_Ct_endsOfRepetition_112 rfl ?_
                      exact ih24 (mq + 1) (en ||| goF g I p9 (en) i0) (false) _ _ _ (by have := hmeas25; omega) (by omega) (by show _ = _; rw [hb33]; exact hit) hP hD hS (lv_sub hl [0, 1, 4, 2, 5, 6, 7] rfl)
                    · rw [if_neg hb33] at hit
                      refine lv_iconst (v := 1) Bx.1 Bx.2.1 d_Ct_endsOfRepetition_102 (by decide) ?_
                      refine lv_goto Bx.1 Bx.2.1 d_Ct_endsOfRepetition_103 rfl ?_
                      refine lv_istore (lv' := [(5, .int (1)), (3, .int (en ||| goF g I p9 (en) i0)), (7, .int (en)), (6, .int (nI mq)), (4, .int (Bw 230 k - Bw 229 k)), (0, .ref (ad 223)), (1, .ref (ad (20 + 2 * k))), (2, .int (nI i0))]) Bx.1 Bx.2.1 d_Ct_endsOfRepetition_107 hl (by decide) rfl (fun ls hl => ?_)
                      refine lv_iinc (lv' := [(6, .int ((nI mq + (1)))), (5, .int (1)), (3, .int (en ||| goF g I p9 (en) i0)), (7, .int (en)), (4, .int (Bw 230 k - Bw 229 k)), (0, .ref (ad 223)), (1, .ref (ad (20 + 2 * k))), (2, .int (nI i0))]) Bx.1 Bx.2.1 d_Ct_endsOfRepetition_109 hl (k := 3) rfl rfl (by decide) rfl (fun ls hl => ?_)
                      rw [show (nI mq + (1) : Int32) = nI (mq + 1) from nI_1 (mq)] at hl
                      refine lv_goto Bx.1 Bx.2.1 d_Ct_endsOfRepetition_112 rfl ?_
                      exact ih24 (mq + 1) (en ||| goF g I p9 (en) i0) (true) _ _ _ (by have := hmeas25; omega) (by omega) (by show iterH _ _ _ _ _ _ = _; rw [show ((Bw 230 k - Bw 229 k)).toNatClampNeg - (mq + 1) = r6 by omega]; exact hit) hP hD hS (lv_sub hl [0, 1, 4, 2, 5, 6, 7] rfl)
          exact loop20 _ (0) ((iterG g I p9 i0 (1 <<< (nI i0 &&& 31)) (Bw 229 k).toNatClampNeg)) (true) _ _ _ (Nat.lt_succ_self _) (by omega) (by show iterH _ _ _ _ _ _ = _; rw [Nat.sub_zero]; exact htot) hP hD hS (lv_sub hl [0, 1, 2, 3, 4, 5, 6] rfl)
        · refine lv_aload_n Bx.1 Bx.2.1 d_Ct_endsOfRepetition_41 rfl (lv_at hl 2 rfl) ?_
          refine f_get Bx hP (by omega) h223_4 rfl inCt 0 (by decide) kw_164 rfl rfl d_Ct_endsOfRepetition_42 ?_
          refine f_getN Bx hP (by omega) h3_1 rfl inCh 1 (by decide) kw_35 rfl rfl d_Ct_endsOfRepetition_45 ?_
          refine lv_goto Bx.1 Bx.2.1 d_Ct_endsOfRepetition_48 rfl ?_
          refine lv_istore (lv' := [(4, .int (nI I)), (3, .int ((iterG g I p9 i0 (1 <<< (nI i0 &&& 31)) (Bw 229 k).toNatClampNeg))), (0, .ref (ad 223)), (1, .ref (ad (20 + 2 * k))), (2, .int (nI i0))]) Bx.1 Bx.2.1 d_Ct_endsOfRepetition_60 hl (by decide) rfl (fun ls hl => ?_)
          refine lv_iconst (v := 1) Bx.1 Bx.2.1 d_Ct_endsOfRepetition_62 (by decide) ?_
          refine lv_istore (lv' := [(5, .int (1)), (4, .int (nI I)), (3, .int ((iterG g I p9 i0 (1 <<< (nI i0 &&& 31)) (Bw 229 k).toNatClampNeg))), (0, .ref (ad 223)), (1, .ref (ad (20 + 2 * k))), (2, .int (nI i0))]) Bx.1 Bx.2.1 d_Ct_endsOfRepetition_63 hl (by decide) rfl (fun ls hl => ?_)
          refine lv_iconst (v := 0) Bx.1 Bx.2.1 d_Ct_endsOfRepetition_65 (by decide) ?_
          refine lv_istore (lv' := [(6, .int (0)), (5, .int (1)), (4, .int (nI I)), (3, .int ((iterG g I p9 i0 (1 <<< (nI i0 &&& 31)) (Bw 229 k).toNatClampNeg))), (0, .ref (ad 223)), (1, .ref (ad (20 + 2 * k))), (2, .int (nI i0))]) Bx.1 Bx.2.1 d_Ct_endsOfRepetition_66 hl (by decide) rfl (fun ls hl => ?_)
          have hcl2 := clamp_lt (nI I)
          have htot : iterH g I p9 i0 (nI I).toNatClampNeg (iterG g I p9 i0 (1 <<< (nI i0 &&& 31)) (Bw 229 k).toNatClampNeg) = repF g I p9 i0 (Bw 229 k) (Bw 230 k) := by unfold repF; rw [if_pos hb19]
          have loop34 : ∀ (d35 : Nat) (mq : Nat) (en : Int32) (mo : Bool) (ls : Array Slot) (H : Heap) (locs : List Loc), (((nI I).toNatClampNeg - mq) < d35) → (mq ≤ (nI I).toNatClampNeg) → ((if mo then iterH g I p9 i0 ((nI I).toNatClampNeg - mq) en else en) = repF g I p9 i0 (Bw 229 k) (Bw 230 k)) → (va_P D vcl (fw n ad mem) H) → (va_D (Az sz) (fw n ad mem)) → (va_S (Az sz) s.heap H locs) → (lv_has ls 8 [(6, .int (nI mq)), (5, .int ((if mo then 1 else 0))), (4, .int (nI I)), (3, .int (en)), (0, .ref (ad 223)), (1, .ref (ad (20 + 2 * k))), (2, .int (nI i0))]) → W p l e (headSpec (Cond.code y_Ct_endsOfRepetition c_Ct_endsOfRepetition 8 (some .int) :: tg) ({ frames := 1, cells := 0, slots := 0, locals := 30 } : Room)).room s m [.ref (ad 223), .ref (ad (20 + 2 * k)), .int (nI i0)].toArray below meth c H locs 0 0 (MQ below (va_Qi (fun r mem' => mem' = mem ∧ r = repF g I p9 i0 (Bw 229 k) (Bw 230 k)) (PP D n ad) (Az sz)) [.ref (ad 223), .ref (ad (20 + 2 * k)), .int (nI i0)].toArray s 0 0 (Az sz)) (F0 m 68 ls []) := by
            intro d35
            induction d35 with
            | zero => intro mq en mo ls H locs hmeas39; exact absurd hmeas39 (Nat.not_lt_zero _)
            | succ d35 ih38 =>
              intro mq en mo ls H locs hmeas39 hz36 hz37 hP hD hS hl
              cases mo with
              | false =>
                have hz37r : en = repF g I p9 i0 (Bw 229 k) (Bw 230 k) := hz37
                have hl : lv_has ls 8 [(6, .int (nI mq)), (5, .int (0)), (4, .int (nI I)), (3, .int (en)), (0, .ref (ad 223)), (1, .ref (ad (20 + 2 * k))), (2, .int (nI i0))] := hl
                refine lv_iload Bx.1 Bx.2.1 d_Ct_endsOfRepetition_68 (lv_at hl 0 rfl) ?_
                refine lv_iload Bx.1 Bx.2.1 d_Ct_endsOfRepetition_70 (lv_at hl 2 rfl) ?_
                refine lv_icmp_ge Bx.1 Bx.2.1 d_Ct_endsOfRepetition_72 rfl (fun hb40 => ?_) (fun hb40 => ?_)
                · have hN41 : I ≤ mq := (nI_leI (by omega) (by omega)).mp (show nI (I) ≤ nI (mq) from hb40)
                  refine lv_iload_n Bx.1 Bx.2.1 d_Ct_endsOfRepetition_115 rfl (lv_at hl 3 rfl) ?_
                  exact W.iret (v := en) hx hb hr (fun t ht hW => ⟨⟨en, mem, rfl, ⟨rfl, hz37r⟩, by show va_P _ _ _ t.heap; rw [ht]; exact hP⟩, hS.F ht⟩) hS.2.2 d_Ct_endsOfRepetition_116
                · have hN42 : ¬ I ≤ mq := fun q9 => hb40 (show nI (I) ≤ nI (mq) from (nI_leI (by omega) (by omega)).mpr q9)
                  have hmlt : mq < (nI I).toNatClampNeg := by
                    rcases Nat.lt_or_ge mq (nI I).toNatClampNeg with q | q
                    · exact q
                    · exact absurd ((clampN (by omega)).mpr q) hb40
                  refine lv_iload Bx.1 Bx.2.1 d_Ct_endsOfRepetition_75 (lv_at hl 1 rfl) ?_
                  refine lv_if_eq Bx.1 Bx.2.1 d_Ct_endsOfRepetition_77 rfl (fun hb43 => ?_) (fun hb43 => ?_)
                  · refine lv_iload_n Bx.1 Bx.2.1 d_Ct_endsOfRepetition_115 rfl (lv_at hl 3 rfl) ?_
                    exact W.iret (v := en) hx hb hr (fun t ht hW => ⟨⟨en, mem, rfl, ⟨rfl, hz37r⟩, by show va_P _ _ _ t.heap; rw [ht]; exact hP⟩, hS.F ht⟩) hS.2.2 d_Ct_endsOfRepetition_116
                  · exact absurd hb43 (by decide)
              | true =>
                have hz37r : iterH g I p9 i0 ((nI I).toNatClampNeg - mq) en = repF g I p9 i0 (Bw 229 k) (Bw 230 k) := hz37
                have hl : lv_has ls 8 [(6, .int (nI mq)), (5, .int (1)), (4, .int (nI I)), (3, .int (en)), (0, .ref (ad 223)), (1, .ref (ad (20 + 2 * k))), (2, .int (nI i0))] := hl
                refine lv_iload Bx.1 Bx.2.1 d_Ct_endsOfRepetition_68 (lv_at hl 0 rfl) ?_
                refine lv_iload Bx.1 Bx.2.1 d_Ct_endsOfRepetition_70 (lv_at hl 2 rfl) ?_
                refine lv_icmp_ge Bx.1 Bx.2.1 d_Ct_endsOfRepetition_72 rfl (fun hb44 => ?_) (fun hb44 => ?_)
                · have hN45 : I ≤ mq := (nI_leI (by omega) (by omega)).mp (show nI (I) ≤ nI (mq) from hb44)
                  refine lv_iload_n Bx.1 Bx.2.1 d_Ct_endsOfRepetition_115 rfl (lv_at hl 3 rfl) ?_
                  exact W.iret (v := en) hx hb hr (fun t ht hW => ⟨⟨en, mem, rfl, ⟨rfl, by rw [← hz37r, show (nI I).toNatClampNeg - mq = 0 by have := (clampN (by omega)).mp hb44; omega]; rfl⟩, by show va_P _ _ _ t.heap; rw [ht]; exact hP⟩, hS.F ht⟩) hS.2.2 d_Ct_endsOfRepetition_116
                · have hN46 : ¬ I ≤ mq := fun q9 => hb44 (show nI (I) ≤ nI (mq) from (nI_leI (by omega) (by omega)).mpr q9)
                  have hmlt : mq < (nI I).toNatClampNeg := by
                    rcases Nat.lt_or_ge mq (nI I).toNatClampNeg with q | q
                    · exact q
                    · exact absurd ((clampN (by omega)).mpr q) hb44
                  refine lv_iload Bx.1 Bx.2.1 d_Ct_endsOfRepetition_75 (lv_at hl 1 rfl) ?_
                  refine lv_if_eq Bx.1 Bx.2.1 d_Ct_endsOfRepetition_77 rfl (fun hb47 => ?_) (fun hb47 => ?_)
                  · exact absurd hb47 (by decide)
                  · obtain ⟨r6, hr6⟩ : ∃ r6, (nI I).toNatClampNeg - mq = r6 + 1 := ⟨(nI I).toNatClampNeg - mq - 1, by omega⟩
                    have hit := hz37r
                    rw [hr6, iterH] at hit
                    refine lv_iload_n Bx.1 Bx.2.1 d_Ct_endsOfRepetition_80 rfl (lv_at hl 3 rfl) ?_
                    refine lv_istore (lv' := [(7, .int (en)), (6, .int (nI mq)), (5, .int (1)), (4, .int (nI I)), (3, .int (en)), (0, .ref (ad 223)), (1, .ref (ad (20 + 2 * k))), (2, .int (nI i0))]) Bx.1 Bx.2.1 d_Ct_endsOfRepetition_81 hl (by decide) rfl (fun ls hl => ?_)
                    refine lv_iload_n Bx.1 Bx.2.1 d_Ct_endsOfRepetition_83 rfl (lv_at hl 4 rfl) ?_
                    refine lv_aload_n Bx.1 Bx.2.1 d_Ct_endsOfRepetition_84 rfl (lv_at hl 5 rfl) ?_
                    refine lv_iload_n Bx.1 Bx.2.1 d_Ct_endsOfRepetition_85 rfl (lv_at hl 4 rfl) ?_
                    refine lv_aload_n Bx.1 Bx.2.1 d_Ct_endsOfRepetition_86 rfl (lv_at hl 6 rfl) ?_
                    refine f_getN Bx hP (by omega) he_12.1 rfl inEl 4 (by decide) kw_88 rfl rfl d_Ct_endsOfRepetition_87 ?_
                    rw [hw9]
                    refine lv_iload_n Bx.1 Bx.2.1 d_Ct_endsOfRepetition_90 rfl (lv_at hl 7 rfl) ?_
                    refine f_callVi (na := 3) (As := [.int (en), .ref (ad (20 + 2 * p9)), .int (nI i0)]) (rest := [.int (en)]) Bx hml E hP hD hS (by omega) h223_4 rfl (m_Ct_goOnXR l hn hY hC hE hi0 hp9) kw_601 kw_603 sel_Ct_goOn kw_7 kw_604 (by decide +kernel) ⟨rfl, rfl⟩ ⟨Nat.le_of_ble_eq_true rfl, Nat.le_of_ble_eq_true rfl⟩ rfl hl.1 (Nat.le_of_ble_eq_true rfl) d_Ct_endsOfRepetition_91 ⟨Nat.le_of_ble_eq_true rfl, Nat.le_of_ble_eq_true rfl⟩ (fun r48 mem49 H locs hq hP hS => ?_)
                    have hD : va_D (Az sz) (fw n ad mem49) := fw_D hD
                    obtain ⟨hqe, hv50⟩ := hq
                    rw [hqe] at hP hD
                    subst hv50
                    refine lv_ior Bx.1 Bx.2.1 d_Ct_endsOfRepetition_94 ?_
                    refine lv_istore_n (lv' := [(3, .int (en ||| goF g I p9 (en) i0)), (7, .int (en)), (6, .int (nI mq)), (5, .int (1)), (4, .int (nI I)), (0, .ref (ad 223)), (1, .ref (ad (20 + 2 * k))), (2, .int (nI i0))]) Bx.1 Bx.2.1 d_Ct_endsOfRepetition_95 rfl hl (by decide) rfl (fun ls hl => ?_)
                    refine lv_iload_n Bx.1 Bx.2.1 d_Ct_endsOfRepetition_96 rfl (lv_at hl 0 rfl) ?_
                    refine lv_iload Bx.1 Bx.2.1 d_Ct_endsOfRepetition_97 (lv_at hl 1 rfl) ?_
                    refine lv_icmp_eq Bx.1 Bx.2.1 d_Ct_endsOfRepetition_99 rfl (fun hb51 => ?_) (fun hb51 => ?_)
                    · rw [if_pos hb51] at hit
                      refine lv_iconst (v := 0) Bx.1 Bx.2.1 d_Ct_endsOfRepetition_106 (by decide) ?_
                      refine lv_istore (lv' := [(5, .int (0)), (3, .int (en ||| goF g I p9 (en) i0)), (7, .int (en)), (6, .int (nI mq)), (4, .int (nI I)), (0, .ref (ad 223)), (1, .ref (ad (20 + 2 * k))), (2, .int (nI i0))]) Bx.1 Bx.2.1 d_Ct_endsOfRepetition_107 hl (by decide) rfl (fun ls hl => ?_)
                      refine lv_iinc (lv' := [(6, .int ((nI mq + (1)))), (5, .int (0)), (3, .int (en ||| goF g I p9 (en) i0)), (7, .int (en)), (4, .int (nI I)), (0, .ref (ad 223)), (1, .ref (ad (20 + 2 * k))), (2, .int (nI i0))]) Bx.1 Bx.2.1 d_Ct_endsOfRepetition_109 hl (k := 3) rfl rfl (by decide) rfl (fun ls hl => ?_)
                      rw [show (nI mq + (1) : Int32) = nI (mq + 1) from nI_1 (mq)] at hl
                      refine lv_goto Bx.1 Bx.2.1 d_Ct_endsOfRepetition_112 rfl ?_
                      exact ih38 (mq + 1) (en ||| goF g I p9 (en) i0) (false) _ _ _ (by have := hmeas39; omega) (by omega) (by show _ = _; rw [hb51]; exact hit) hP hD hS (lv_sub hl [0, 1, 4, 2, 5, 6, 7] rfl)
                    · rw [if_neg hb51] at hit
                      refine lv_iconst (v := 1) Bx.1 Bx.2.1 d_Ct_endsOfRepetition_102 (by decide) ?_
                      refine lv_goto Bx.1 Bx.2.1 d_Ct_endsOfRepetition_103 rfl ?_
                      refine lv_istore (lv' := [(5, .int (1)), (3, .int (en ||| goF g I p9 (en) i0)), (7, .int (en)), (6, .int (nI mq)), (4, .int (nI I)), (0, .ref (ad 223)), (1, .ref (ad (20 + 2 * k))), (2, .int (nI i0))]) Bx.1 Bx.2.1 d_Ct_endsOfRepetition_107 hl (by decide) rfl (fun ls hl => ?_)
                      refine lv_iinc (lv' := [(6, .int ((nI mq + (1)))), (5, .int (1)), (3, .int (en ||| goF g I p9 (en) i0)), (7, .int (en)), (4, .int (nI I)), (0, .ref (ad 223)), (1, .ref (ad (20 + 2 * k))), (2, .int (nI i0))]) Bx.1 Bx.2.1 d_Ct_endsOfRepetition_109 hl (k := 3) rfl rfl (by decide) rfl (fun ls hl => ?_)
                      rw [show (nI mq + (1) : Int32) = nI (mq + 1) from nI_1 (mq)] at hl
                      refine lv_goto Bx.1 Bx.2.1 d_Ct_endsOfRepetition_112 rfl ?_
                      exact ih38 (mq + 1) (en ||| goF g I p9 (en) i0) (true) _ _ _ (by have := hmeas39; omega) (by omega) (by show iterH _ _ _ _ _ _ = _; rw [show (nI I).toNatClampNeg - (mq + 1) = r6 by omega]; exact hit) hP hD hS (lv_sub hl [0, 1, 4, 2, 5, 6, 7] rfl)
          exact loop34 _ (0) ((iterG g I p9 i0 (1 <<< (nI i0 &&& 31)) (Bw 229 k).toNatClampNeg)) (true) _ _ _ (Nat.lt_succ_self _) (by omega) (by show iterH _ _ _ _ _ _ = _; rw [Nat.sub_zero]; exact htot) hP hD hS (lv_sub hl [0, 1, 2, 3, 4, 5, 6] rfl)
      · have hmlt : mq < (Bw 229 k).toNatClampNeg := by
          rcases Nat.lt_or_ge mq (Bw 229 k).toNatClampNeg with q | q
          · exact q
          · exact absurd ((clampN (by omega)).mpr q) hb18
        refine lv_aload_n Bx.1 Bx.2.1 d_Ct_endsOfRepetition_16 rfl (lv_at hl 2 rfl) ?_
        refine lv_iload_n Bx.1 Bx.2.1 d_Ct_endsOfRepetition_17 rfl (lv_at hl 1 rfl) ?_
        refine lv_aload_n Bx.1 Bx.2.1 d_Ct_endsOfRepetition_18 rfl (lv_at hl 3 rfl) ?_
        refine f_getN Bx hP (by omega) he_12.1 rfl inEl 4 (by decide) kw_88 rfl rfl d_Ct_endsOfRepetition_19 ?_
        rw [hw9]
        refine lv_iload_n Bx.1 Bx.2.1 d_Ct_endsOfRepetition_22 rfl (lv_at hl 4 rfl) ?_
        refine f_callVi (na := 3) (As := [.int (iterG g I p9 i0 (1 <<< (nI i0 &&& 31)) mq), .ref (ad (20 + 2 * p9)), .int (nI i0)]) (rest := []) Bx hml E hP hD hS (by omega) h223_4 rfl (m_Ct_goOnXR l hn hY hC hE hi0 hp9) kw_601 kw_603 sel_Ct_goOn kw_7 kw_604 (by decide +kernel) ⟨rfl, rfl⟩ ⟨Nat.le_of_ble_eq_true rfl, Nat.le_of_ble_eq_true rfl⟩ rfl hl.1 (Nat.le_of_ble_eq_true rfl) d_Ct_endsOfRepetition_23 ⟨Nat.le_of_ble_eq_true rfl, Nat.le_of_ble_eq_true rfl⟩ (fun r52 mem53 H locs hq hP hS => ?_)
        have hD : va_D (Az sz) (fw n ad mem53) := fw_D hD
        obtain ⟨hqe, hv54⟩ := hq
        rw [hqe] at hP hD
        subst hv54
        refine lv_istore_n (lv' := [(3, .int (goF g I p9 (iterG g I p9 i0 (1 <<< (nI i0 &&& 31)) mq) i0)), (4, .int (nI mq)), (0, .ref (ad 223)), (1, .ref (ad (20 + 2 * k))), (2, .int (nI i0))]) Bx.1 Bx.2.1 d_Ct_endsOfRepetition_26 rfl hl (by decide) rfl (fun ls hl => ?_)
        refine lv_iinc (lv' := [(4, .int ((nI mq + (1)))), (3, .int (goF g I p9 (iterG g I p9 i0 (1 <<< (nI i0 &&& 31)) mq) i0)), (0, .ref (ad 223)), (1, .ref (ad (20 + 2 * k))), (2, .int (nI i0))]) Bx.1 Bx.2.1 d_Ct_endsOfRepetition_27 hl (k := 1) rfl rfl (by decide) rfl (fun ls hl => ?_)
        rw [show (nI mq + (1) : Int32) = nI (mq + 1) from nI_1 (mq)] at hl
        refine lv_goto Bx.1 Bx.2.1 d_Ct_endsOfRepetition_30 rfl ?_
        exact ih16 (mq + 1) _ _ _ (by have := hmeas17; omega) (by omega) hP hD hS (lv_sub hl [0, 1, 2, 3, 4] rfl)
  exact loop13 _ (0) _ _ _ (Nat.lt_succ_self _) (by omega) hP hD hS (lv_sub hl [0, 1, 2, 3, 4] rfl)
set_option maxHeartbeats 4000000 in
set_option maxRecDepth 100000 in
theorem m_Ct_endsOfRuleXN (l : Launch) {D : va_G} {cy : Nat → ClassId} {sz n : Nat} {ad : Nat → Nat} {mem : Nat → va_E} {I lim rc ec : Nat} {wh fl : Int32} {m0 : Nat → va_E} {Bw : Ro} {g inp : Nat → Int32} {i0 : Nat} (hn : 224 ≤ n) (hY : IY cy ad I inp m0) (hC : CS cy ad lim rc ec wh fl m0 mem) (hE : EM cy ad rc ec Bw g mem) (hi0 : i0 ≤ I) : MI l D cy sz n ad y_Ct_endsOfRule c_Ct_endsOfRule 3 (some .int) ({ frames := 1, cells := 0, slots := 0, locals := 30 } : Room) mem [.ref (ad 223), .null, .int (nI i0)] (fun r mem' => mem' = mem ∧ r = 0) := by
  refine Met.ofW (cc := c_Ct_endsOfRule) (maxL := 3) (ret := (some .int)) (by decide) rfl ?_
  intro p e s m args below meth c s₁ B hml hv
  obtain ⟨rfl, E, hP, hD⟩ := hv
  have hx := B.exec
  have hb := B.bytes
  have hr := B.returns
  have hlocks := B.notSynchronized
  have Bx : MB p s m [.ref (ad 223), .null, .int (nI i0)].toArray c c_Ct_endsOfRule "AbnfChart$Chart" D cy := ⟨hx, hb, tb_all (atoms_spec B.pre) E.2.1, findClass_of_methodNamed B.named, E.1⟩
  have hS : va_S (Az sz) s.heap s.heap [] := va_S.rf
  have hl := lv_entry ([.ref (ad 223), .null, .int (nI i0)]) (n := 3) (Nat.le_of_ble_eq_true rfl)
  rw [lg_entry_eq]
  generalize (lg_sl ([.ref (ad 223), .null, .int (nI i0)]) ++ List.replicate (3 - (lg_sl ([.ref (ad 223), .null, .int (nI i0)])).length) Slot.unset).toArray = ls at hl ⊢
  have hl : lv_has ls 3 [(0, .ref (ad 223)), (1, .null), (2, .int (nI i0))] := hl
  have h3_1 : mem 3 = .inr (0, [.ref (ad 4), .int (nI I)]) := (hC.2.2 3 (by omega)).trans hY.1
  have h4_2 : mem 4 = .inl (cy 0, 24, .inl inp) := (hC.2.2 4 (by omega)).trans hY.2.2
  have h223_4 : mem 223 = .inr (1, [.ref (ad 3), .ref (ad 5), .int fl]) := (hC.2.2 223 (by omega)).trans hC.2.1
  have h5_3 := hC.1.2.1
  have hbd10 := hC.1.1
  have hbI11 := hY.2.1
  obtain ⟨S5, hS_6, h220_7, h221_8, hst9⟩ := hE.2.2
  refine lv_aload_nN Bx.1 Bx.2.1 d_Ct_endsOfRule_0 rfl (lv_at hl 1 rfl) ?_
  refine lv_ifnonnullN Bx.1 Bx.2.1 d_Ct_endsOfRule_1 ?_
  refine lv_iconst (v := 0) Bx.1 Bx.2.1 d_Ct_endsOfRule_4 (by decide) ?_
  refine lv_goto Bx.1 Bx.2.1 d_Ct_endsOfRule_5 rfl ?_
  exact W.iret (v := 0) hx hb hr (fun t ht hW => ⟨⟨0, mem, rfl, ⟨rfl, rfl⟩, by show va_P _ _ _ t.heap; rw [ht]; exact hP⟩, hS.F ht⟩) hS.2.2 d_Ct_endsOfRule_17
set_option maxHeartbeats 4000000 in
set_option maxRecDepth 100000 in
theorem m_Ct_endsOfRuleXR (l : Launch) {D : va_G} {cy : Nat → ClassId} {sz n : Nat} {ad : Nat → Nat} {mem : Nat → va_E} {I lim rc ec : Nat} {wh fl : Int32} {m0 : Nat → va_E} {Bw : Ro} {g inp : Nat → Int32} {j : Nat} {i0 : Nat} (hn : 224 ≤ n) (hY : IY cy ad I inp m0) (hC : CS cy ad lim rc ec wh fl m0 mem) (hE : EM cy ad rc ec Bw g mem) (hi0 : i0 ≤ I) (hj : j < rc) : MI l D cy sz n ad y_Ct_endsOfRule c_Ct_endsOfRule 3 (some .int) ({ frames := 1, cells := 0, slots := 0, locals := 30 } : Room) mem [.ref (ad 223), .ref (ad (7 + j)), .int (nI i0)] (fun r mem' => mem' = mem ∧ r = chF g I i0 0 (chL (Bw 233) 100 (Bw 227 j)) 0) := by
  refine Met.ofW (cc := c_Ct_endsOfRule) (maxL := 3) (ret := (some .int)) (by decide) rfl ?_
  intro p e s m args below meth c s₁ B hml hv
  obtain ⟨rfl, E, hP, hD⟩ := hv
  have hx := B.exec
  have hb := B.bytes
  have hr := B.returns
  have hlocks := B.notSynchronized
  have Bx : MB p s m [.ref (ad 223), .ref (ad (7 + j)), .int (nI i0)].toArray c c_Ct_endsOfRule "AbnfChart$Chart" D cy := ⟨hx, hb, tb_all (atoms_spec B.pre) E.2.1, findClass_of_methodNamed B.named, E.1⟩
  have hS : va_S (Az sz) s.heap s.heap [] := va_S.rf
  have hl := lv_entry ([.ref (ad 223), .ref (ad (7 + j)), .int (nI i0)]) (n := 3) (Nat.le_of_ble_eq_true rfl)
  rw [lg_entry_eq]
  generalize (lg_sl ([.ref (ad 223), .ref (ad (7 + j)), .int (nI i0)]) ++ List.replicate (3 - (lg_sl ([.ref (ad 223), .ref (ad (7 + j)), .int (nI i0)])).length) Slot.unset).toArray = ls at hl ⊢
  have hl : lv_has ls 3 [(0, .ref (ad 223)), (1, .ref (ad (7 + j))), (2, .int (nI i0))] := hl
  have h3_1 : mem 3 = .inr (0, [.ref (ad 4), .int (nI I)]) := (hC.2.2 3 (by omega)).trans hY.1
  have h4_2 : mem 4 = .inl (cy 0, 24, .inl inp) := (hC.2.2 4 (by omega)).trans hY.2.2
  have h223_4 : mem 223 = .inr (1, [.ref (ad 3), .ref (ad 5), .int fl]) := (hC.2.2 223 (by omega)).trans hC.2.1
  have h5_3 := hC.1.2.1
  have hbd10 := hC.1.1
  have hbI11 := hY.2.1
  obtain ⟨S5, hS_6, h220_7, h221_8, hst9⟩ := hE.2.2
  refine lv_aload_n Bx.1 Bx.2.1 d_Ct_endsOfRule_0 rfl (lv_at hl 1 rfl) ?_
  refine lv_ifnonnull Bx.1 Bx.2.1 d_Ct_endsOfRule_1 rfl ?_
  obtain ⟨hfi9, nm9, w9, hru9⟩ := hE.2.1 j hj
  refine lv_aload_n Bx.1 Bx.2.1 d_Ct_endsOfRule_8 rfl (lv_at hl 0 rfl) ?_
  refine lv_aload_n Bx.1 Bx.2.1 d_Ct_endsOfRule_9 rfl (lv_at hl 1 rfl) ?_
  refine f_getN Bx hP (by omega) hru9 rfl inRu 1 (by decide) kw_58 rfl rfl d_Ct_endsOfRule_10 ?_
  refine lv_iload_n Bx.1 Bx.2.1 d_Ct_endsOfRule_13 rfl (lv_at hl 2 rfl) ?_
  refine f_callVi (na := 2) (As := [vE ad (Bw 227 j), .int (nI i0)]) (rest := []) Bx hml E hP hD hS (by omega) h223_4 rfl (m_Ct_endsOfAnyX l hn hY hC hE hi0 hfi9) kw_593 kw_595 sel_Ct_endsOfAny kw_7 kw_596 (by decide +kernel) ⟨rfl, rfl⟩ ⟨Nat.le_of_ble_eq_true rfl, Nat.le_of_ble_eq_true rfl⟩ rfl hl.1 (Nat.le_of_ble_eq_true rfl) d_Ct_endsOfRule_14 ⟨Nat.le_of_ble_eq_true rfl, Nat.le_of_ble_eq_true rfl⟩ (fun r12 mem13 H locs hq hP hS => ?_)
  have hD : va_D (Az sz) (fw n ad mem13) := fw_D hD
  obtain ⟨hqe, hv14⟩ := hq
  rw [hqe] at hP hD
  subst hv14
  exact W.iret (v := chF g I i0 0 (chL (Bw 233) 100 (Bw 227 j)) 0) hx hb hr (fun t ht hW => ⟨⟨chF g I i0 0 (chL (Bw 233) 100 (Bw 227 j)) 0, mem, rfl, ⟨rfl, rfl⟩, by show va_P _ _ _ t.heap; rw [ht]; exact hP⟩, hS.F ht⟩) hS.2.2 d_Ct_endsOfRule_17
set_option maxHeartbeats 4000000 in
set_option maxRecDepth 100000 in
theorem m_Ct_endsOfPartsX (l : Launch) {D : va_G} {cy : Nat → ClassId} {sz n : Nat} {ad : Nat → Nat} {mem : Nat → va_E} {I lim rc ec : Nat} {wh fl : Int32} {m0 : Nat → va_E} {Bw : Ro} {g inp : Nat → Int32} {k : Nat} {i0 : Nat} (hn : 224 ≤ n) (hY : IY cy ad I inp m0) (hC : CS cy ad lim rc ec wh fl m0 mem) (hE : EM cy ad rc ec Bw g mem) (hi0 : i0 ≤ I) (hk : k < ec) : MI l D cy sz n ad y_Ct_endsOfParts c_Ct_endsOfParts 3 (some .int) ({ frames := 2, cells := 0, slots := 0, locals := 60 } : Room) mem [.ref (ad 223), .ref (ad (20 + 2 * k)), .int (nI i0)] (fun r mem' => mem' = mem ∧ r = fcF Bw I k i0 g) := by
  refine Met.ofW (cc := c_Ct_endsOfParts) (maxL := 3) (ret := (some .int)) (by decide) rfl ?_
  intro p e s m args below meth c s₁ B hml hv
  obtain ⟨rfl, E, hP, hD⟩ := hv
  have hx := B.exec
  have hb := B.bytes
  have hr := B.returns
  have hlocks := B.notSynchronized
  have Bx : MB p s m [.ref (ad 223), .ref (ad (20 + 2 * k)), .int (nI i0)].toArray c c_Ct_endsOfParts "AbnfChart$Chart" D cy := ⟨hx, hb, tb_all (atoms_spec B.pre) E.2.1, findClass_of_methodNamed B.named, E.1⟩
  have hS : va_S (Az sz) s.heap s.heap [] := va_S.rf
  have hl := lv_entry ([.ref (ad 223), .ref (ad (20 + 2 * k)), .int (nI i0)]) (n := 3) (Nat.le_of_ble_eq_true rfl)
  rw [lg_entry_eq]
  generalize (lg_sl ([.ref (ad 223), .ref (ad (20 + 2 * k)), .int (nI i0)]) ++ List.replicate (3 - (lg_sl ([.ref (ad 223), .ref (ad (20 + 2 * k)), .int (nI i0)])).length) Slot.unset).toArray = ls at hl ⊢
  have hl : lv_has ls 3 [(0, .ref (ad 223)), (1, .ref (ad (20 + 2 * k))), (2, .int (nI i0))] := hl
  have h3_1 : mem 3 = .inr (0, [.ref (ad 4), .int (nI I)]) := (hC.2.2 3 (by omega)).trans hY.1
  have h4_2 : mem 4 = .inl (cy 0, 24, .inl inp) := (hC.2.2 4 (by omega)).trans hY.2.2
  have h223_4 : mem 223 = .inr (1, [.ref (ad 3), .ref (ad 5), .int fl]) := (hC.2.2 223 (by omega)).trans hC.2.1
  have h5_3 := hC.1.2.1
  have hbd10 := hC.1.1
  have hbI11 := hY.2.1
  obtain ⟨S5, hS_6, h220_7, h221_8, hst9⟩ := hE.2.2
  have he_12 := hE.1 k (by omega)
  refine lv_aload_n Bx.1 Bx.2.1 d_Ct_endsOfParts_0 rfl (lv_at hl 1 rfl) ?_
  refine f_getN Bx hP (by omega) he_12.1 rfl inEl 0 (by decide) kw_75 rfl rfl d_Ct_endsOfParts_1 ?_
  refine lv_topi (fun kd13 e_kd13 => ?_)
  by_cases c0 : kd13 = 0
  · rw [c0]
    refine lv_tableIn Bx.1 Bx.2.1 d_Ct_endsOfParts_4 (by decide) (by decide) (off := 36) (by decide) (tgt := 40) rfl ?_
    rw [e_kd13] at c0
    refine lv_aload_n Bx.1 Bx.2.1 d_Ct_endsOfParts_40 rfl (lv_at hl 0 rfl) ?_
    refine lv_aload_n Bx.1 Bx.2.1 d_Ct_endsOfParts_41 rfl (lv_at hl 1 rfl) ?_
    refine f_getN Bx hP (by omega) he_12.1 rfl inEl 4 (by decide) kw_88 rfl rfl d_Ct_endsOfParts_42 ?_
    refine lv_iload_n Bx.1 Bx.2.1 d_Ct_endsOfParts_45 rfl (lv_at hl 2 rfl) ?_
    refine f_callVi (na := 2) (As := [vE ad (Bw 232 k), .int (nI i0)]) (rest := []) Bx hml E hP hD hS (by omega) h223_4 rfl (m_Ct_endsOfAnyX l hn hY hC hE hi0 he_12.2.2.1.cl) kw_593 kw_595 sel_Ct_endsOfAny kw_7 kw_596 (by decide +kernel) ⟨rfl, rfl⟩ ⟨Nat.le_of_ble_eq_true rfl, Nat.le_of_ble_eq_true rfl⟩ rfl hl.1 (Nat.le_of_ble_eq_true rfl) d_Ct_endsOfParts_46 ⟨Nat.le_of_ble_eq_true rfl, Nat.le_of_ble_eq_true rfl⟩ (fun r14 mem15 H locs hq hP hS => ?_)
    have hD : va_D (Az sz) (fw n ad mem15) := fw_D hD
    obtain ⟨hqe, hv16⟩ := hq
    rw [hqe] at hP hD
    subst hv16
    exact W.iret (v := chF g I i0 0 (chL (Bw 233) 100 (Bw 232 k)) 0) hx hb hr (fun t ht hW => ⟨⟨chF g I i0 0 (chL (Bw 233) 100 (Bw 232 k)) 0, mem, rfl, ⟨rfl, by unfold fcF; rw [if_pos c0]⟩, by show va_P _ _ _ t.heap; rw [ht]; exact hP⟩, hS.F ht⟩) hS.2.2 d_Ct_endsOfParts_49
  by_cases c1 : kd13 = 1
  · rw [c1]
    refine lv_tableIn Bx.1 Bx.2.1 d_Ct_endsOfParts_4 (by decide) (by decide) (off := 46) (by decide) (tgt := 50) rfl ?_
    rw [e_kd13] at c0 c1
    refine lv_aload_n Bx.1 Bx.2.1 d_Ct_endsOfParts_50 rfl (lv_at hl 0 rfl) ?_
    refine lv_aload_n Bx.1 Bx.2.1 d_Ct_endsOfParts_51 rfl (lv_at hl 1 rfl) ?_
    refine f_getN Bx hP (by omega) he_12.1 rfl inEl 4 (by decide) kw_88 rfl rfl d_Ct_endsOfParts_52 ?_
    refine lv_iload_n Bx.1 Bx.2.1 d_Ct_endsOfParts_55 rfl (lv_at hl 2 rfl) ?_
    refine f_callVi (na := 2) (As := [vE ad (Bw 232 k), .int (nI i0)]) (rest := []) Bx hml E hP hD hS (by omega) h223_4 rfl (m_Ct_endsOfRowX l hn hY hC hE hi0 he_12.2.2.1.cl) kw_597 kw_599 sel_Ct_endsOfRow kw_7 kw_600 (by decide +kernel) ⟨rfl, rfl⟩ ⟨Nat.le_of_ble_eq_true rfl, Nat.le_of_ble_eq_true rfl⟩ rfl hl.1 (Nat.le_of_ble_eq_true rfl) d_Ct_endsOfParts_56 ⟨Nat.le_of_ble_eq_true rfl, Nat.le_of_ble_eq_true rfl⟩ (fun r17 mem18 H locs hq hP hS => ?_)
    have hD : va_D (Az sz) (fw n ad mem18) := fw_D hD
    obtain ⟨hqe, hv19⟩ := hq
    rw [hqe] at hP hD
    subst hv19
    exact W.iret (v := rowF g I i0 (chL (Bw 233) 100 (Bw 232 k)) (1 <<< (nI i0 &&& 31))) hx hb hr (fun t ht hW => ⟨⟨rowF g I i0 (chL (Bw 233) 100 (Bw 232 k)) (1 <<< (nI i0 &&& 31)), mem, rfl, ⟨rfl, by unfold fcF; rw [if_neg c0, if_pos c1]⟩, by show va_P _ _ _ t.heap; rw [ht]; exact hP⟩, hS.F ht⟩) hS.2.2 d_Ct_endsOfParts_59
  by_cases c2 : kd13 = 2
  · rw [c2]
    refine lv_tableIn Bx.1 Bx.2.1 d_Ct_endsOfParts_4 (by decide) (by decide) (off := 56) (by decide) (tgt := 60) rfl ?_
    rw [e_kd13] at c0 c1 c2
    obtain ⟨p9, hp1, hp9, hpa⟩ := he_12.2.2.1.resolve_left (he_12.2.2.2.2.1 (Or.inl c2))
    refine lv_aload_n Bx.1 Bx.2.1 d_Ct_endsOfParts_60 rfl (lv_at hl 0 rfl) ?_
    refine lv_aload_n Bx.1 Bx.2.1 d_Ct_endsOfParts_61 rfl (lv_at hl 1 rfl) ?_
    refine lv_iload_n Bx.1 Bx.2.1 d_Ct_endsOfParts_62 rfl (lv_at hl 2 rfl) ?_
    refine f_callVi (na := 2) (As := [.ref (ad (20 + 2 * k)), .int (nI i0)]) (rest := []) Bx hml E hP hD hS (by omega) h223_4 rfl (m_Ct_endsOfRepetitionX l hn hY hC hE hi0 hk hp9 hpa) kw_605 kw_607 sel_Ct_endsOfRepetition kw_7 kw_608 (by decide +kernel) ⟨rfl, rfl⟩ ⟨Nat.le_of_ble_eq_true rfl, Nat.le_of_ble_eq_true rfl⟩ rfl hl.1 (Nat.le_of_ble_eq_true rfl) d_Ct_endsOfParts_63 ⟨Nat.le_of_ble_eq_true rfl, Nat.le_of_ble_eq_true rfl⟩ (fun r20 mem21 H locs hq hP hS => ?_)
    have hD : va_D (Az sz) (fw n ad mem21) := fw_D hD
    obtain ⟨hqe, hv22⟩ := hq
    rw [hqe] at hP hD
    subst hv22
    exact W.iret (v := repF g I p9 i0 (Bw 229 k) (Bw 230 k)) hx hb hr (fun t ht hW => ⟨⟨repF g I p9 i0 (Bw 229 k) (Bw 230 k), mem, rfl, ⟨rfl, by unfold fcF; rw [if_neg c0, if_neg c1, if_pos c2, hpa, nI_clamp (n := p9) (by omega)]⟩, by show va_P _ _ _ t.heap; rw [ht]; exact hP⟩, hS.F ht⟩) hS.2.2 d_Ct_endsOfParts_66
  by_cases c3 : kd13 = 3
  · rw [c3]
    refine lv_tableIn Bx.1 Bx.2.1 d_Ct_endsOfParts_4 (by decide) (by decide) (off := 63) (by decide) (tgt := 67) rfl ?_
    rw [e_kd13] at c0 c1 c2 c3
    obtain ⟨p9, hp1, hp9, hpa⟩ := he_12.2.2.1.resolve_left (he_12.2.2.2.2.1 (Or.inr c3))
    have hw9 : vE ad (Bw 232 k) = .ref (ad (20 + 2 * p9)) := by rw [hpa]; exact vE_n ad (by omega)
    refine lv_iconst (v := 1) Bx.1 Bx.2.1 d_Ct_endsOfParts_67 (by decide) ?_
    refine lv_iload_n Bx.1 Bx.2.1 d_Ct_endsOfParts_68 rfl (lv_at hl 2 rfl) ?_
    refine lv_ishl Bx.1 Bx.2.1 d_Ct_endsOfParts_69 ?_
    refine lv_aload_n Bx.1 Bx.2.1 d_Ct_endsOfParts_70 rfl (lv_at hl 0 rfl) ?_
    refine lv_iconst (v := 1) Bx.1 Bx.2.1 d_Ct_endsOfParts_71 (by decide) ?_
    refine lv_iload_n Bx.1 Bx.2.1 d_Ct_endsOfParts_72 rfl (lv_at hl 2 rfl) ?_
    refine lv_ishl Bx.1 Bx.2.1 d_Ct_endsOfParts_73 ?_
    refine lv_aload_n Bx.1 Bx.2.1 d_Ct_endsOfParts_74 rfl (lv_at hl 1 rfl) ?_
    refine f_getN Bx hP (by omega) he_12.1 rfl inEl 4 (by decide) kw_88 rfl rfl d_Ct_endsOfParts_75 ?_
    rw [hw9]
    refine lv_iload_n Bx.1 Bx.2.1 d_Ct_endsOfParts_78 rfl (lv_at hl 2 rfl) ?_
    refine f_callVi (na := 3) (As := [.int ((1) <<< ((nI i0) &&& 31)), .ref (ad (20 + 2 * p9)), .int (nI i0)]) (rest := [.int ((1) <<< ((nI i0) &&& 31))]) Bx hml E hP hD hS (by omega) h223_4 rfl (m_Ct_goOnXR l hn hY hC hE hi0 hp9) kw_601 kw_603 sel_Ct_goOn kw_7 kw_604 (by decide +kernel) ⟨rfl, rfl⟩ ⟨Nat.le_of_ble_eq_true rfl, Nat.le_of_ble_eq_true rfl⟩ rfl hl.1 (Nat.le_of_ble_eq_true rfl) d_Ct_endsOfParts_79 ⟨Nat.le_of_ble_eq_true rfl, Nat.le_of_ble_eq_true rfl⟩ (fun r23 mem24 H locs hq hP hS => ?_)
    have hD : va_D (Az sz) (fw n ad mem24) := fw_D hD
    obtain ⟨hqe, hv25⟩ := hq
    rw [hqe] at hP hD
    subst hv25
    refine lv_ior Bx.1 Bx.2.1 d_Ct_endsOfParts_82 ?_
    exact W.iret (v := (1) <<< ((nI i0) &&& 31) ||| goF g I p9 (1 <<< (nI i0 &&& 31)) i0) hx hb hr (fun t ht hW => ⟨⟨(1) <<< ((nI i0) &&& 31) ||| goF g I p9 (1 <<< (nI i0 &&& 31)) i0, mem, rfl, ⟨rfl, by unfold fcF; rw [if_neg c0, if_neg c1, if_neg c2, if_pos c3, hpa, nI_clamp (n := p9) (by omega)]⟩, by show va_P _ _ _ t.heap; rw [ht]; exact hP⟩, hS.F ht⟩) hS.2.2 d_Ct_endsOfParts_83
  by_cases c4 : kd13 = 4
  · rw [c4]
    refine lv_tableIn Bx.1 Bx.2.1 d_Ct_endsOfParts_4 (by decide) (by decide) (off := 80) (by decide) (tgt := 84) rfl ?_
    rw [e_kd13] at c0 c1 c2 c3 c4
    have hvr := he_12.2.1
    rcases hvr with hvr | ⟨r9, hr9, hvr⟩
    · refine lv_aload_n Bx.1 Bx.2.1 d_Ct_endsOfParts_84 rfl (lv_at hl 0 rfl) ?_
      refine lv_aload_n Bx.1 Bx.2.1 d_Ct_endsOfParts_85 rfl (lv_at hl 1 rfl) ?_
      refine f_getN Bx hP (by omega) he_12.1 rfl inEl 3 (by decide) kw_84 rfl rfl d_Ct_endsOfParts_86 ?_
      rw [hvr, vR_m]
      refine lv_iload_n Bx.1 Bx.2.1 d_Ct_endsOfParts_89 rfl (lv_at hl 2 rfl) ?_
      refine f_callVi (na := 2) (As := [.null, .int (nI i0)]) (rest := []) Bx hml E hP hD hS (by omega) h223_4 rfl (m_Ct_endsOfRuleXN l hn hY hC hE hi0) kw_609 kw_611 sel_Ct_endsOfRule kw_7 kw_612 (by decide +kernel) ⟨rfl, rfl⟩ ⟨Nat.le_of_ble_eq_true rfl, Nat.le_of_ble_eq_true rfl⟩ rfl hl.1 (Nat.le_of_ble_eq_true rfl) d_Ct_endsOfParts_90 ⟨Nat.le_of_ble_eq_true rfl, Nat.le_of_ble_eq_true rfl⟩ (fun r26 mem27 H locs hq hP hS => ?_)
      have hD : va_D (Az sz) (fw n ad mem27) := fw_D hD
      obtain ⟨hqe, hv28⟩ := hq
      rw [hqe] at hP hD
      subst hv28
      exact W.iret (v := 0) hx hb hr (fun t ht hW => ⟨⟨0, mem, rfl, ⟨rfl, by unfold fcF; rw [if_neg c0, if_neg c1, if_neg c2, if_neg c3, if_pos c4, hvr, if_pos (by decide)]⟩, by show va_P _ _ _ t.heap; rw [ht]; exact hP⟩, hS.F ht⟩) hS.2.2 d_Ct_endsOfParts_93
    · refine lv_aload_n Bx.1 Bx.2.1 d_Ct_endsOfParts_84 rfl (lv_at hl 0 rfl) ?_
      refine lv_aload_n Bx.1 Bx.2.1 d_Ct_endsOfParts_85 rfl (lv_at hl 1 rfl) ?_
      refine f_getN Bx hP (by omega) he_12.1 rfl inEl 3 (by decide) kw_84 rfl rfl d_Ct_endsOfParts_86 ?_
      rw [hvr, vR_n ad (by omega)]
      refine lv_iload_n Bx.1 Bx.2.1 d_Ct_endsOfParts_89 rfl (lv_at hl 2 rfl) ?_
      refine f_callVi (na := 2) (As := [.ref (ad (7 + r9)), .int (nI i0)]) (rest := []) Bx hml E hP hD hS (by omega) h223_4 rfl (m_Ct_endsOfRuleXR l hn hY hC hE hi0 hr9) kw_609 kw_611 sel_Ct_endsOfRule kw_7 kw_612 (by decide +kernel) ⟨rfl, rfl⟩ ⟨Nat.le_of_ble_eq_true rfl, Nat.le_of_ble_eq_true rfl⟩ rfl hl.1 (Nat.le_of_ble_eq_true rfl) d_Ct_endsOfParts_90 ⟨Nat.le_of_ble_eq_true rfl, Nat.le_of_ble_eq_true rfl⟩ (fun r29 mem30 H locs hq hP hS => ?_)
      have hD : va_D (Az sz) (fw n ad mem30) := fw_D hD
      obtain ⟨hqe, hv31⟩ := hq
      rw [hqe] at hP hD
      subst hv31
      exact W.iret (v := chF g I i0 0 (chL (Bw 233) 100 (Bw 227 r9)) 0) hx hb hr (fun t ht hW => ⟨⟨chF g I i0 0 (chL (Bw 233) 100 (Bw 227 r9)) 0, mem, rfl, ⟨rfl, by unfold fcF; rw [if_neg c0, if_neg c1, if_neg c2, if_neg c3, if_pos c4, hvr, if_neg (nI_pos (by omega)), nI_clamp (n := r9) (by omega)]⟩, by show va_P _ _ _ t.heap; rw [ht]; exact hP⟩, hS.F ht⟩) hS.2.2 d_Ct_endsOfParts_93
  have hko : (kd13).toInt < 0 ∨ 4 < (kd13).toInt := by
    have q0 := lv_neT c0 (a := 0) (by decide)
    have q1 := lv_neT c1 (a := 1) (by decide)
    have q2 := lv_neT c2 (a := 2) (by decide)
    have q3 := lv_neT c3 (a := 3) (by decide)
    have q4 := lv_neT c4 (a := 4) (by decide)
    omega
  refine lv_tableOut Bx.1 Bx.2.1 d_Ct_endsOfParts_4 hko (tgt := 94) rfl ?_
  rw [e_kd13] at c0 c1 c2 c3 c4
  refine lv_aload_n Bx.1 Bx.2.1 d_Ct_endsOfParts_94 rfl (lv_at hl 1 rfl) ?_
  refine f_getN Bx hP (by omega) he_12.1 rfl inEl 6 (by decide) kw_94 rfl rfl d_Ct_endsOfParts_95 ?_
  refine lv_iload_n Bx.1 Bx.2.1 d_Ct_endsOfParts_98 rfl (lv_at hl 2 rfl) ?_
  obtain ⟨g32, hg33, hge34⟩ := (hE.1 k (by omega)).2.2.2.2.2
  refine f_iald Bx hP (by omega) hg33 (vp_in_nI (n := i0) (by omega) (by decide)) d_Ct_endsOfParts_99 ?_
  rw [nI_clamp (n := i0) (by omega), hge34 (i0) (by omega)]
  exact W.iret (v := g (25 * k + i0)) hx hb hr (fun t ht hW => ⟨⟨g (25 * k + i0), mem, rfl, ⟨rfl, by unfold fcF; rw [if_neg c0, if_neg c1, if_neg c2, if_neg c3, if_neg c4]⟩, by show va_P _ _ _ t.heap; rw [ht]; exact hP⟩, hS.F ht⟩) hS.2.2 d_Ct_endsOfParts_100
