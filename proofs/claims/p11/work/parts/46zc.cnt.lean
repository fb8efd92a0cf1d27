def tlN (to : Nat → Int32) : Nat → Int32
  | 0 => 0
  | n + 1 => tlN to n + (if to n < 0 then 0 else 1)
theorem gi_v {cy : Nat → ClassId} {ad : Nat → Nat} {lim rc ec : Nat} {wh : Int32} {mem : Nat → va_E} {i : Nat} {x : Int64} {v w : Value} (h : GI cy ad lim rc ec wh mem) (hi : i < rc) (hm : mem (7 + i) = .inr (5, [.long x, v, w])) : v = .null ∨ ∃ p, v = .ref p := by
  have hb := h.1
  obtain ⟨nm9, v9, w9, e, o⟩ := h.2.2.2.2.1 i (by omega)
  rw [e] at hm
  injection hm with q
  injection q with q1 q2
  injection q2 with q3 q4
  injection q4 with q5 q6
  subst q5
  rcases (o hi).1 with z | ⟨j, _, _, z⟩
  · exact Or.inl z
  · exact Or.inr ⟨_, z⟩
theorem w012 {x : Int32} (h : ¬ (x < 0 ∨ 2 < x)) : x = 0 ∨ x = 1 ∨ x = 2 := by
  obtain ⟨j, hj, rfl⟩ := nI_of (fun z => h (Or.inl z))
  have h2 : j ≤ 2 := by
    rcases Nat.lt_or_ge 2 j with q | q
    · exact absurd (Or.inr ((nI_ltI (a := 2) (by omega) hj).mpr q)) h
    · exact q
  have : j = 0 ∨ j = 1 ∨ j = 2 := by omega
  rcases this with rfl | rfl | rfl
  · exact Or.inl rfl
  · exact Or.inr (Or.inl rfl)
  · exact Or.inr (Or.inr rfl)
theorem w012n {x : Int32} (h : x < 0 ∨ 2 < x) : ¬ x = 0 ∧ ¬ x = 1 ∧ ¬ x = 2 := by
  refine ⟨?_, ?_, ?_⟩ <;> (rintro rfl; exact absurd h (by decide))
set_option maxHeartbeats 4000000 in
set_option maxRecDepth 100000 in
theorem m_Ru_isToldN (l : Launch) {D : va_G} {cy : Nat → ClassId} {sz n : Nat} {ad : Nat → Nat} {mem : Nat → va_E} {lim rc ec : Nat} {to : Nat → Int32} {nm : Nat → Int64} {i : Nat} (hn : 224 ≤ n) (hG : GI cy ad lim rc ec 1 mem) (hN : NT rc to nm mem) (hi : i < rc) : MI l D cy sz n ad y_Ru_isTold c_Ru_isTold 1 (some .boolean) ({ frames := 0, cells := 0, slots := 0, locals := 0 } : Room) mem [.ref (ad (7 + i))] (fun r mem' => mem' = mem ∧ ((r = 0 ∧ to i < 0) ∨ (r = 1 ∧ ¬ to i < 0))) := by
  refine Met.ofW (cc := c_Ru_isTold) (maxL := 1) (ret := (some .boolean)) (by decide) rfl ?_
  intro p e s m args below meth c s₁ B hml hv
  obtain ⟨rfl, E, hP, hD⟩ := hv
  have hx := B.exec
  have hb := B.bytes
  have hr := B.returns
  have hlocks := B.notSynchronized
  have Bx : MB p s m [.ref (ad (7 + i))].toArray c c_Ru_isTold "AbnfChart$Rule" D cy := ⟨hx, hb, tb_all (atoms_spec B.pre) E.2.1, findClass_of_methodNamed B.named, E.1⟩
  have hS : va_S (Az sz) s.heap s.heap [] := va_S.rf
  have hl := lv_entry ([.ref (ad (7 + i))]) (n := 1) (Nat.le_of_ble_eq_true rfl)
  rw [lg_entry_eq]
  generalize (lg_sl ([.ref (ad (7 + i))]) ++ List.replicate (1 - (lg_sl ([.ref (ad (7 + i))])).length) Slot.unset).toArray = ls at hl ⊢
  have hl : lv_has ls 1 [(0, .ref (ad (7 + i)))] := hl
  have hbd := hG.1
  obtain ⟨v9, w9, hru, hro⟩ := hN i (by omega)
  refine lv_aload_n Bx.1 Bx.2.1 d_Ru_isTold_0 rfl (lv_at hl 0 rfl) ?_
  refine f_get Bx hP (by omega) hru rfl inRu 1 (by decide) kw_57 rfl rfl d_Ru_isTold_1 ?_
  rcases gi_v hG hi hru with hv | ⟨pp, hv⟩
  · have hto := hro.mp hv
    rw [hv]
    refine lv_ifnullN Bx.1 Bx.2.1 d_Ru_isTold_4 rfl ?_
    refine lv_iconst (v := 0) Bx.1 Bx.2.1 d_Ru_isTold_11 (by decide) ?_
    exact W.zret (v := 0) hx hb hr rfl (fun t ht hW => ⟨⟨0, mem, rfl, ⟨rfl, Or.inl ⟨rfl, hto⟩⟩, by show va_P _ _ _ t.heap; rw [ht]; exact hP⟩, hS.F ht⟩) hS.2.2 d_Ru_isTold_12
  · have hto : ¬ to i < 0 := fun z => by have := hro.mpr z; rw [hv] at this; cases this
    rw [hv]
    refine lv_ifnull Bx.1 Bx.2.1 d_Ru_isTold_4 ?_
    refine lv_iconst (v := 1) Bx.1 Bx.2.1 d_Ru_isTold_7 (by decide) ?_
    refine lv_goto Bx.1 Bx.2.1 d_Ru_isTold_8 rfl ?_
    exact W.zret (v := 1) hx hb hr rfl (fun t ht hW => ⟨⟨1, mem, rfl, ⟨rfl, Or.inr ⟨rfl, hto⟩⟩, by show va_P _ _ _ t.heap; rw [ht]; exact hP⟩, hS.F ht⟩) hS.2.2 d_Ru_isTold_12
set_option maxHeartbeats 4000000 in
set_option maxRecDepth 100000 in
theorem m_Gr_toldTotalX1 (l : Launch) {D : va_G} {cy : Nat → ClassId} {sz n : Nat} {ad : Nat → Nat} {mem : Nat → va_E} {lim rc ec : Nat} {to : Nat → Int32} {nm : Nat → Int64} (hn : 224 ≤ n) (hG : GI cy ad lim rc ec 1 mem) (hN : NT rc to nm mem) : MI l D cy sz n ad y_Gr_toldTotal c_Gr_toldTotal 3 (some .int) ({ frames := 1, cells := 0, slots := 0, locals := 30 } : Room) mem [.ref (ad 5)] (fun r mem' => mem' = mem ∧ r = tlN to rc) := by
  refine Met.ofW (cc := c_Gr_toldTotal) (maxL := 3) (ret := (some .int)) (by decide) rfl ?_
  intro p e s m args below meth c s₁ B hml hv
  obtain ⟨rfl, E, hP, hD⟩ := hv
  have hx := B.exec
  have hb := B.bytes
  have hr := B.returns
  have hlocks := B.notSynchronized
  have Bx : MB p s m [.ref (ad 5)].toArray c c_Gr_toldTotal "AbnfChart$Grammar" D cy := ⟨hx, hb, tb_all (atoms_spec B.pre) E.2.1, findClass_of_methodNamed B.named, E.1⟩
  have hS : va_S (Az sz) s.heap s.heap [] := va_S.rf
  have hl := lv_entry ([.ref (ad 5)]) (n := 3) (Nat.le_of_ble_eq_true rfl)
  rw [lg_entry_eq]
  generalize (lg_sl ([.ref (ad 5)]) ++ List.replicate (3 - (lg_sl ([.ref (ad 5)])).length) Slot.unset).toArray = ls at hl ⊢
  have hl : lv_has ls 3 [(0, .ref (ad 5))] := hl
  have hbd := hG.1
  refine lv_iconst (v := 0) Bx.1 Bx.2.1 d_Gr_toldTotal_0 (by decide) ?_
  refine lv_istore_n (lv' := [(1, .int (0)), (0, .ref (ad 5))]) Bx.1 Bx.2.1 d_Gr_toldTotal_1 rfl hl (by decide) rfl (fun ls hl => ?_)
  refine lv_iconst (v := 0) Bx.1 Bx.2.1 d_Gr_toldTotal_2 (by decide) ?_
  refine lv_istore_n (lv' := [(2, .int (0)), (1, .int (0)), (0, .ref (ad 5))]) Bx.1 Bx.2.1 d_Gr_toldTotal_3 rfl hl (by decide) rfl (fun ls hl => ?_)
  have loop1 : ∀ (d2 : Nat) (j : Nat) (ls : Array Slot) (H : Heap) (locs : List Loc), (rc - j < d2) → (j ≤ rc) → (va_P D vcl (fw n ad mem) H) → (va_D (Az sz) (fw n ad mem)) → (va_S (Az sz) s.heap H locs) → (lv_has ls 3 [(2, .int (nI j)), (1, .int (tlN to j)), (0, .ref (ad 5))]) → W p l e (headSpec (Cond.code y_Gr_toldTotal c_Gr_toldTotal 3 (some .int) :: tg) ({ frames := 1, cells := 0, slots := 0, locals := 30 } : Room)).room s m [.ref (ad 5)].toArray below meth c H locs 0 0 (MQ below (va_Qi (fun r mem' => mem' = mem ∧ r = tlN to rc) (PP D n ad) (Az sz)) [.ref (ad 5)].toArray s 0 0 (Az sz)) (F0 m 4 ls []) := by
    intro d2
    induction d2 with
    | zero => intro j ls H locs hmeas5; exact absurd hmeas5 (Nat.not_lt_zero _)
    | succ d2 ih4 =>
      intro j ls H locs hmeas5 hz3 hP hD hS hl
      refine lv_iload_n Bx.1 Bx.2.1 d_Gr_toldTotal_4 rfl (lv_at hl 0 rfl) ?_
      refine lv_aload_n Bx.1 Bx.2.1 d_Gr_toldTotal_5 rfl (lv_at hl 2 rfl) ?_
      refine f_callVi (na := 0) (As := []) (rest := [.int (nI j)]) Bx hml E hP hD hS (by omega) hG.2.1 rfl (m_Gr_ruleTotal l (by omega) hG.2.1) kw_648 kw_499 kw_500 kw_3 kw_501 (by decide +kernel) ⟨rfl, rfl⟩ ⟨Nat.le_of_ble_eq_true rfl, Nat.le_of_ble_eq_true rfl⟩ rfl hl.1 (Nat.le_of_ble_eq_true rfl) d_Gr_toldTotal_6 ⟨Nat.le_of_ble_eq_true rfl, Nat.le_of_ble_eq_true rfl⟩ (fun r6 mem7 H locs hq hP hS => ?_)
      have hD : va_D (Az sz) (fw n ad mem7) := fw_D hD
      obtain ⟨hq0, hqe⟩ := hq
      rw [hqe] at hP hD
      rw [if_neg (by decide)] at hq0
      subst hq0
      refine lv_icmp_ge Bx.1 Bx.2.1 d_Gr_toldTotal_9 rfl (fun hk => ?_) (fun hk => ?_)
      · have hj : j = rc := by have := (nI_leI (by omega) (by omega)).mp hk; omega
        refine lv_iload_n Bx.1 Bx.2.1 d_Gr_toldTotal_33 rfl (lv_at hl 1 rfl) ?_
        exact W.iret (v := tlN to j) hx hb hr (fun t ht hW => ⟨⟨tlN to j, mem, rfl, ⟨rfl, by rw [hj]⟩, by show va_P _ _ _ t.heap; rw [ht]; exact hP⟩, hS.F ht⟩) hS.2.2 d_Gr_toldTotal_34
      · have hj : j < rc := (nI_ltI (by omega) (by omega)).mp (Int32.not_le.mp hk)
        refine lv_aload_n Bx.1 Bx.2.1 d_Gr_toldTotal_12 rfl (lv_at hl 2 rfl) ?_
        refine f_get Bx hP (by omega) hG.2.1 rfl inGr 0 (by decide) kw_113 rfl rfl d_Gr_toldTotal_13 ?_
        refine lv_iload_n Bx.1 Bx.2.1 d_Gr_toldTotal_16 rfl (lv_at hl 0 rfl) ?_
        refine f_aald (t0 := 5) Bx hP (by omega) hG.2.2.1 rfl j rfl (by omega) (by decide) (q := ad (7 + j)) (by unfold rfA; rw [if_pos (by omega), Nat.one_mul]) d_Gr_toldTotal_17 ?_
        obtain ⟨v9, w9, hru, hro⟩ := hN j (by omega)
        refine f_callVi (na := 0) (As := []) (rest := []) Bx hml E hP hD hS (by omega) hru rfl (m_Ru_isToldN l hn hG hN hj) kw_649 kw_402 kw_403 kw_4 kw_404 (by decide +kernel) ⟨rfl, rfl⟩ ⟨Nat.le_of_ble_eq_true rfl, Nat.le_of_ble_eq_true rfl⟩ rfl hl.1 (Nat.le_of_ble_eq_true rfl) d_Gr_toldTotal_18 ⟨Nat.le_of_ble_eq_true rfl, Nat.le_of_ble_eq_true rfl⟩ (fun r8 mem9 H locs hq hP hS => ?_)
        have hD : va_D (Az sz) (fw n ad mem9) := fw_D hD
        obtain ⟨hqe, hq0⟩ := hq
        rw [hqe] at hP hD
        rcases hq0 with ⟨hr0, ht0⟩ | ⟨hr0, ht0⟩
        · subst hr0
          refine lv_if_eq Bx.1 Bx.2.1 d_Gr_toldTotal_21 rfl (fun h7 => ?_) (fun h7 => ?_)
          · refine lv_iinc (lv' := [(2, .int ((nI j + (1)))), (1, .int (tlN to j)), (0, .ref (ad 5))]) Bx.1 Bx.2.1 d_Gr_toldTotal_27 hl (k := 0) rfl rfl (by decide) rfl (fun ls hl => ?_)
            refine lv_goto Bx.1 Bx.2.1 d_Gr_toldTotal_30 rfl ?_
            exact ih4 (j + 1) _ _ _ (by have := hmeas5; omega) (by omega) hP hD hS (by rw [nI_succ, show tlN to (j + 1) = tlN to j + (if to j < 0 then 0 else 1) from rfl, if_pos ht0, Int32.add_zero]; exact (lv_sub hl [0, 1, 2] rfl))
          · exact absurd rfl h7
        · subst hr0
          refine lv_if_eq Bx.1 Bx.2.1 d_Gr_toldTotal_21 rfl (fun h7 => ?_) (fun h7 => ?_)
          · exact absurd h7 (by decide)
          · refine lv_iinc (lv' := [(1, .int ((tlN to j + (1)))), (2, .int (nI j)), (0, .ref (ad 5))]) Bx.1 Bx.2.1 d_Gr_toldTotal_24 hl (k := 1) rfl rfl (by decide) rfl (fun ls hl => ?_)
            refine lv_iinc (lv' := [(2, .int ((nI j + (1)))), (1, .int ((tlN to j + (1)))), (0, .ref (ad 5))]) Bx.1 Bx.2.1 d_Gr_toldTotal_27 hl (k := 1) rfl rfl (by decide) rfl (fun ls hl => ?_)
            refine lv_goto Bx.1 Bx.2.1 d_Gr_toldTotal_30 rfl ?_
            exact ih4 (j + 1) _ _ _ (by have := hmeas5; omega) (by omega) hP hD hS (by rw [nI_succ, show tlN to (j + 1) = tlN to j + (if to j < 0 then 0 else 1) from rfl, if_neg ht0]; exact (lv_sub hl [0, 1, 2] rfl))
  exact loop1 _ (0) _ _ _ (Nat.lt_succ_self _) (by omega) hP hD hS (lv_sub hl [0, 1, 2] rfl)
set_option maxHeartbeats 4000000 in
set_option maxRecDepth 100000 in
theorem m_Gr_toldTotalX0 (l : Launch) {D : va_G} {cy : Nat → ClassId} {sz n : Nat} {ad : Nat → Nat} {mem : Nat → va_E} {lim rc ec : Nat} (hn : 224 ≤ n) (hG : GI cy ad lim rc ec 0 mem) : MI l D cy sz n ad y_Gr_toldTotal c_Gr_toldTotal 3 (some .int) ({ frames := 1, cells := 0, slots := 0, locals := 30 } : Room) mem [.ref (ad 5)] (fun r mem' => mem' = mem ∧ r = 0) := by
  refine Met.ofW (cc := c_Gr_toldTotal) (maxL := 3) (ret := (some .int)) (by decide) rfl ?_
  intro p e s m args below meth c s₁ B hml hv
  obtain ⟨rfl, E, hP, hD⟩ := hv
  have hx := B.exec
  have hb := B.bytes
  have hr := B.returns
  have hlocks := B.notSynchronized
  have Bx : MB p s m [.ref (ad 5)].toArray c c_Gr_toldTotal "AbnfChart$Grammar" D cy := ⟨hx, hb, tb_all (atoms_spec B.pre) E.2.1, findClass_of_methodNamed B.named, E.1⟩
  have hS : va_S (Az sz) s.heap s.heap [] := va_S.rf
  have hl := lv_entry ([.ref (ad 5)]) (n := 3) (Nat.le_of_ble_eq_true rfl)
  rw [lg_entry_eq]
  generalize (lg_sl ([.ref (ad 5)]) ++ List.replicate (3 - (lg_sl ([.ref (ad 5)])).length) Slot.unset).toArray = ls at hl ⊢
  have hl : lv_has ls 3 [(0, .ref (ad 5))] := hl
  have hbd := hG.1
  refine lv_iconst (v := 0) Bx.1 Bx.2.1 d_Gr_toldTotal_0 (by decide) ?_
  refine lv_istore_n (lv' := [(1, .int (0)), (0, .ref (ad 5))]) Bx.1 Bx.2.1 d_Gr_toldTotal_1 rfl hl (by decide) rfl (fun ls hl => ?_)
  refine lv_iconst (v := 0) Bx.1 Bx.2.1 d_Gr_toldTotal_2 (by decide) ?_
  refine lv_istore_n (lv' := [(2, .int (0)), (1, .int (0)), (0, .ref (ad 5))]) Bx.1 Bx.2.1 d_Gr_toldTotal_3 rfl hl (by decide) rfl (fun ls hl => ?_)
  refine lv_iload_n Bx.1 Bx.2.1 d_Gr_toldTotal_4 rfl (lv_at hl 0 rfl) ?_
  refine lv_aload_n Bx.1 Bx.2.1 d_Gr_toldTotal_5 rfl (lv_at hl 2 rfl) ?_
  refine f_callVi (na := 0) (As := []) (rest := [.int (0)]) Bx hml E hP hD hS (by omega) hG.2.1 rfl (m_Gr_ruleTotal l (by omega) hG.2.1) kw_648 kw_499 kw_500 kw_3 kw_501 (by decide +kernel) ⟨rfl, rfl⟩ ⟨Nat.le_of_ble_eq_true rfl, Nat.le_of_ble_eq_true rfl⟩ rfl hl.1 (Nat.le_of_ble_eq_true rfl) d_Gr_toldTotal_6 ⟨Nat.le_of_ble_eq_true rfl, Nat.le_of_ble_eq_true rfl⟩ (fun r1 mem2 H locs hq hP hS => ?_)
  have hD : va_D (Az sz) (fw n ad mem2) := fw_D hD
  obtain ⟨hq0, hqe⟩ := hq
  rw [hqe] at hP hD
  rw [if_pos rfl] at hq0
  subst hq0
  refine lv_icmp_ge Bx.1 Bx.2.1 d_Gr_toldTotal_9 rfl (fun hk => ?_) (fun hk => ?_)
  · refine lv_iload_n Bx.1 Bx.2.1 d_Gr_toldTotal_33 rfl (lv_at hl 1 rfl) ?_
    exact W.iret (v := 0) hx hb hr (fun t ht hW => ⟨⟨0, mem, rfl, ⟨rfl, rfl⟩, by show va_P _ _ _ t.heap; rw [ht]; exact hP⟩, hS.F ht⟩) hS.2.2 d_Gr_toldTotal_34
  · exact absurd (by decide) hk
set_option maxHeartbeats 4000000 in
set_option maxRecDepth 100000 in
theorem m_Ab_countX1 (l : Launch) {D : va_G} {cy : Nat → ClassId} {sz n : Nat} {ad : Nat → Nat} {mem : Nat → va_E} {lim rc ec : Nat} {to : Nat → Int32} {nm : Nat → Int64} {k : Int32} (hlt : l.stackTraces = false) (h0 : mem 0 = abC ad) (hn : 224 ≤ n) (hG : GI cy ad lim rc ec 1 mem) (hN : NT rc to nm mem) : NXi l D cy sz n ad y_Ab_count c_Ab_count 2 (some .int) ({ frames := 6, cells := 1, slots := 6, locals := 90 } : Room) mem [.ref (ad 0), .int (k)] (fun r mem' => mem' = mem ∧ ((k = 0 ∧ r = nI rc) ∨ (k = 1 ∧ r = nI ec) ∨ (k = 2 ∧ r = tlN to rc))) (fun X mem' => X = cIO ∧ mem' = mem ∧ ¬ k = 0 ∧ ¬ k = 1 ∧ ¬ k = 2) := by
  refine vx_ofW (cc := c_Ab_count) (maxL := 2) (ret := (some .int)) (by decide) rfl ?_
  intro p e s m args below meth c s₁ B hml hno hv
  obtain ⟨rfl, E, hP, hD⟩ := hv
  have hx := B.exec
  have hb := B.bytes
  have hr := B.returns
  have hlocks := B.notSynchronized
  have Bx : MB p s m [.ref (ad 0), .int (k)].toArray c c_Ab_count "AbnfChart" D cy := ⟨hx, hb, tb_all (atoms_spec B.pre) E.2.1, findClass_of_methodNamed B.named, E.1⟩
  have hS : va_S (Az sz) s.heap s.heap [] := va_S.rf
  have hl := lv_entry ([.ref (ad 0), .int (k)]) (n := 2) (Nat.le_of_ble_eq_true rfl)
  rw [lg_entry_eq]
  generalize (lg_sl ([.ref (ad 0), .int (k)]) ++ List.replicate (2 - (lg_sl ([.ref (ad 0), .int (k)])).length) Slot.unset).toArray = ls at hl ⊢
  have hl : lv_has ls 2 [(0, .ref (ad 0)), (1, .int (k))] := hl
  have hbd := hG.1
  refine lv_iload_n Bx.1 Bx.2.1 d_Ab_count_0 rfl (lv_at hl 1 rfl) ?_
  by_cases hk0 : k = 0
  · subst hk0
    refine lv_tableIn Bx.1 Bx.2.1 d_Ab_count_1 (by decide) (by decide) (off := 27) (by decide) (tgt := 28) rfl ?_
    refine lv_aload_n Bx.1 Bx.2.1 d_Ab_count_28 rfl (lv_at hl 0 rfl) ?_
    refine f_get Bx hP (by omega) h0 rfl inAb 2 (by decide) kw_176 rfl rfl d_Ab_count_29 ?_
    refine f_callVi (na := 0) (As := []) (rest := []) Bx hml E hP hD hS (by omega) hG.2.1 rfl (m_Gr_ruleTotal l (by omega) hG.2.1) kw_498 kw_499 kw_500 kw_3 kw_501 (by decide +kernel) ⟨rfl, rfl⟩ ⟨Nat.le_of_ble_eq_true rfl, Nat.le_of_ble_eq_true rfl⟩ rfl hl.1 (Nat.le_of_ble_eq_true rfl) d_Ab_count_32 ⟨Nat.le_of_ble_eq_true rfl, Nat.le_of_ble_eq_true rfl⟩ (fun r1 mem2 H locs hq hP hS => ?_)
    have hD : va_D (Az sz) (fw n ad mem2) := fw_D hD
    obtain ⟨hq0, hqe⟩ := hq
    rw [hqe] at hP hD
    exact x_iret hx hb hlocks hr (⟨rfl, Or.inl ⟨rfl, by rw [if_neg (by decide)] at hq0; exact hq0⟩⟩) hP hS d_Ab_count_35
  by_cases hk1 : k = 1
  · subst hk1
    refine lv_tableIn Bx.1 Bx.2.1 d_Ab_count_1 (by decide) (by decide) (off := 35) (by decide) (tgt := 36) rfl ?_
    refine lv_aload_n Bx.1 Bx.2.1 d_Ab_count_36 rfl (lv_at hl 0 rfl) ?_
    refine f_get Bx hP (by omega) h0 rfl inAb 2 (by decide) kw_176 rfl rfl d_Ab_count_37 ?_
    refine f_callVi (na := 0) (As := []) (rest := []) Bx hml E hP hD hS (by omega) hG.2.1 rfl (m_Gr_elementTotal l (by omega) hG.2.1) kw_640 kw_641 kw_642 kw_3 kw_643 (by decide +kernel) ⟨rfl, rfl⟩ ⟨Nat.le_of_ble_eq_true rfl, Nat.le_of_ble_eq_true rfl⟩ rfl hl.1 (Nat.le_of_ble_eq_true rfl) d_Ab_count_40 ⟨Nat.le_of_ble_eq_true rfl, Nat.le_of_ble_eq_true rfl⟩ (fun r3 mem4 H locs hq hP hS => ?_)
    have hD : va_D (Az sz) (fw n ad mem4) := fw_D hD
    obtain ⟨hq0, hqe⟩ := hq
    rw [hqe] at hP hD
    exact x_iret hx hb hlocks hr (⟨rfl, Or.inr (Or.inl ⟨rfl, by rw [if_neg (by decide)] at hq0; exact hq0⟩)⟩) hP hS d_Ab_count_43
  by_cases hk2 : k = 2
  · subst hk2
    refine lv_tableIn Bx.1 Bx.2.1 d_Ab_count_1 (by decide) (by decide) (off := 43) (by decide) (tgt := 44) rfl ?_
    refine lv_aload_n Bx.1 Bx.2.1 d_Ab_count_44 rfl (lv_at hl 0 rfl) ?_
    refine f_get Bx hP (by omega) h0 rfl inAb 2 (by decide) kw_176 rfl rfl d_Ab_count_45 ?_
    refine f_callVi (na := 0) (As := []) (rest := []) Bx hml E hP hD hS (by omega) hG.2.1 rfl (m_Gr_toldTotalX1 l hn hG hN) kw_644 kw_645 kw_646 kw_3 kw_647 (by decide +kernel) ⟨rfl, rfl⟩ ⟨Nat.le_of_ble_eq_true rfl, Nat.le_of_ble_eq_true rfl⟩ rfl hl.1 (Nat.le_of_ble_eq_true rfl) d_Ab_count_48 ⟨Nat.le_of_ble_eq_true rfl, Nat.le_of_ble_eq_true rfl⟩ (fun r5 mem6 H locs hq hP hS => ?_)
    have hD : va_D (Az sz) (fw n ad mem6) := fw_D hD
    obtain ⟨hqe, hq0⟩ := hq
    rw [hqe] at hP hD
    exact x_iret hx hb hlocks hr (⟨rfl, Or.inr (Or.inr ⟨rfl, hq0⟩)⟩) hP hS d_Ab_count_51
  have hko : k.toInt < 0 ∨ 2 < k.toInt := by
    have q0 := lv_neT hk0 (a := 0) (by decide)
    have q1 := lv_neT hk1 (a := 1) (by decide)
    have q2 := lv_neT hk2 (a := 2) (by decide)
    omega
  refine lv_tableOut Bx.1 Bx.2.1 d_Ab_count_1 hko (tgt := 52) rfl ?_
  exact f_throw (rest := []) hlt Bx hml hlocks hno E hP hS (by decide +kernel) kw_552 kw_15 at_Ab_IO hl.1 d_Ab_count_52 d_Ab_count_55 d_Ab_count_56 d_Ab_count_59 ⟨Nat.le_of_ble_eq_true rfl, Nat.le_of_ble_eq_true rfl, Nat.le_of_ble_eq_true rfl, Nat.le_of_ble_eq_true rfl⟩ ⟨Nat.le_of_ble_eq_true rfl, Nat.le_of_ble_eq_true rfl⟩ ⟨rfl, rfl, hk0, hk1, hk2⟩
set_option maxHeartbeats 4000000 in
set_option maxRecDepth 100000 in
theorem m_Ab_countX0 (l : Launch) {D : va_G} {cy : Nat → ClassId} {sz n : Nat} {ad : Nat → Nat} {mem : Nat → va_E} {lim rc ec : Nat} {to : Nat → Int32} {nm : Nat → Int64} {k : Int32} (hlt : l.stackTraces = false) (h0 : mem 0 = abC ad) (hn : 224 ≤ n) (hG : GI cy ad lim rc ec 0 mem) : NXi l D cy sz n ad y_Ab_count c_Ab_count 2 (some .int) ({ frames := 6, cells := 1, slots := 6, locals := 90 } : Room) mem [.ref (ad 0), .int (k)] (fun r mem' => mem' = mem ∧ ((k = 0 ∧ r = 0) ∨ (k = 1 ∧ r = 0) ∨ (k = 2 ∧ r = 0))) (fun X mem' => X = cIO ∧ mem' = mem ∧ ¬ k = 0 ∧ ¬ k = 1 ∧ ¬ k = 2) := by
  refine vx_ofW (cc := c_Ab_count) (maxL := 2) (ret := (some .int)) (by decide) rfl ?_
  intro p e s m args below meth c s₁ B hml hno hv
  obtain ⟨rfl, E, hP, hD⟩ := hv
  have hx := B.exec
  have hb := B.bytes
  have hr := B.returns
  have hlocks := B.notSynchronized
  have Bx : MB p s m [.ref (ad 0), .int (k)].toArray c c_Ab_count "AbnfChart" D cy := ⟨hx, hb, tb_all (atoms_spec B.pre) E.2.1, findClass_of_methodNamed B.named, E.1⟩
  have hS : va_S (Az sz) s.heap s.heap [] := va_S.rf
  have hl := lv_entry ([.ref (ad 0), .int (k)]) (n := 2) (Nat.le_of_ble_eq_true rfl)
  rw [lg_entry_eq]
  generalize (lg_sl ([.ref (ad 0), .int (k)]) ++ List.replicate (2 - (lg_sl ([.ref (ad 0), .int (k)])).length) Slot.unset).toArray = ls at hl ⊢
  have hl : lv_has ls 2 [(0, .ref (ad 0)), (1, .int (k))] := hl
  have hbd := hG.1
  refine lv_iload_n Bx.1 Bx.2.1 d_Ab_count_0 rfl (lv_at hl 1 rfl) ?_
  by_cases hk0 : k = 0
  · subst hk0
    refine lv_tableIn Bx.1 Bx.2.1 d_Ab_count_1 (by decide) (by decide) (off := 27) (by decide) (tgt := 28) rfl ?_
    refine lv_aload_n Bx.1 Bx.2.1 d_Ab_count_28 rfl (lv_at hl 0 rfl) ?_
    refine f_get Bx hP (by omega) h0 rfl inAb 2 (by decide) kw_176 rfl rfl d_Ab_count_29 ?_
    refine f_callVi (na := 0) (As := []) (rest := []) Bx hml E hP hD hS (by omega) hG.2.1 rfl (m_Gr_ruleTotal l (by omega) hG.2.1) kw_498 kw_499 kw_500 kw_3 kw_501 (by decide +kernel) ⟨rfl, rfl⟩ ⟨Nat.le_of_ble_eq_true rfl, Nat.le_of_ble_eq_true rfl⟩ rfl hl.1 (Nat.le_of_ble_eq_true rfl) d_Ab_count_32 ⟨Nat.le_of_ble_eq_true rfl, Nat.le_of_ble_eq_true rfl⟩ (fun r1 mem2 H locs hq hP hS => ?_)
    have hD : va_D (Az sz) (fw n ad mem2) := fw_D hD
    obtain ⟨hq0, hqe⟩ := hq
    rw [hqe] at hP hD
    exact x_iret hx hb hlocks hr (⟨rfl, Or.inl ⟨rfl, by rw [if_pos rfl] at hq0; exact hq0⟩⟩) hP hS d_Ab_count_35
  by_cases hk1 : k = 1
  · subst hk1
    refine lv_tableIn Bx.1 Bx.2.1 d_Ab_count_1 (by decide) (by decide) (off := 35) (by decide) (tgt := 36) rfl ?_
    refine lv_aload_n Bx.1 Bx.2.1 d_Ab_count_36 rfl (lv_at hl 0 rfl) ?_
    refine f_get Bx hP (by omega) h0 rfl inAb 2 (by decide) kw_176 rfl rfl d_Ab_count_37 ?_
    refine f_callVi (na := 0) (As := []) (rest := []) Bx hml E hP hD hS (by omega) hG.2.1 rfl (m_Gr_elementTotal l (by omega) hG.2.1) kw_640 kw_641 kw_642 kw_3 kw_643 (by decide +kernel) ⟨rfl, rfl⟩ ⟨Nat.le_of_ble_eq_true rfl, Nat.le_of_ble_eq_true rfl⟩ rfl hl.1 (Nat.le_of_ble_eq_true rfl) d_Ab_count_40 ⟨Nat.le_of_ble_eq_true rfl, Nat.le_of_ble_eq_true rfl⟩ (fun r3 mem4 H locs hq hP hS => ?_)
    have hD : va_D (Az sz) (fw n ad mem4) := fw_D hD
    obtain ⟨hq0, hqe⟩ := hq
    rw [hqe] at hP hD
    exact x_iret hx hb hlocks hr (⟨rfl, Or.inr (Or.inl ⟨rfl, by rw [if_pos rfl] at hq0; exact hq0⟩)⟩) hP hS d_Ab_count_43
  by_cases hk2 : k = 2
  · subst hk2
    refine lv_tableIn Bx.1 Bx.2.1 d_Ab_count_1 (by decide) (by decide) (off := 43) (by decide) (tgt := 44) rfl ?_
    refine lv_aload_n Bx.1 Bx.2.1 d_Ab_count_44 rfl (lv_at hl 0 rfl) ?_
    refine f_get Bx hP (by omega) h0 rfl inAb 2 (by decide) kw_176 rfl rfl d_Ab_count_45 ?_
    refine f_callVi (na := 0) (As := []) (rest := []) Bx hml E hP hD hS (by omega) hG.2.1 rfl (m_Gr_toldTotalX0 l hn hG) kw_644 kw_645 kw_646 kw_3 kw_647 (by decide +kernel) ⟨rfl, rfl⟩ ⟨Nat.le_of_ble_eq_true rfl, Nat.le_of_ble_eq_true rfl⟩ rfl hl.1 (Nat.le_of_ble_eq_true rfl) d_Ab_count_48 ⟨Nat.le_of_ble_eq_true rfl, Nat.le_of_ble_eq_true rfl⟩ (fun r5 mem6 H locs hq hP hS => ?_)
    have hD : va_D (Az sz) (fw n ad mem6) := fw_D hD
    obtain ⟨hqe, hq0⟩ := hq
    rw [hqe] at hP hD
    exact x_iret hx hb hlocks hr (⟨rfl, Or.inr (Or.inr ⟨rfl, hq0⟩)⟩) hP hS d_Ab_count_51
  have hko : k.toInt < 0 ∨ 2 < k.toInt := by
    have q0 := lv_neT hk0 (a := 0) (by decide)
    have q1 := lv_neT hk1 (a := 1) (by decide)
    have q2 := lv_neT hk2 (a := 2) (by decide)
    omega
  refine lv_tableOut Bx.1 Bx.2.1 d_Ab_count_1 hko (tgt := 52) rfl ?_
  exact f_throw (rest := []) hlt Bx hml hlocks hno E hP hS (by decide +kernel) kw_552 kw_15 at_Ab_IO hl.1 d_Ab_count_52 d_Ab_count_55 d_Ab_count_56 d_Ab_count_59 ⟨Nat.le_of_ble_eq_true rfl, Nat.le_of_ble_eq_true rfl, Nat.le_of_ble_eq_true rfl, Nat.le_of_ble_eq_true rfl⟩ ⟨Nat.le_of_ble_eq_true rfl, Nat.le_of_ble_eq_true rfl⟩ ⟨rfl, rfl, hk0, hk1, hk2⟩
theorem m_Ab_countX (l : Launch) {D : va_G} {cy : Nat → ClassId} {sz n : Nat} {ad : Nat → Nat} {mem : Nat → va_E} {R Ec : Nat} {to : Nat → Int32} {nm : Nat → Int64} {k : Int32} (hlt : l.stackTraces = false) (h0 : mem 0 = abC ad) (hn : 224 ≤ n) (hX : GX cy ad R Ec to nm mem) : NXi l D cy sz n ad y_Ab_count c_Ab_count 2 (some .int) ({ frames := 6, cells := 1, slots := 6, locals := 90 } : Room) mem [.ref (ad 0), .int (k)] (fun r mem' => mem' = mem ∧ ((k = 0 ∧ r = nI R) ∨ (k = 1 ∧ r = nI Ec) ∨ (k = 2 ∧ r = tlN to R))) (fun X mem' => X = cIO ∧ mem' = mem ∧ ¬ k = 0 ∧ ¬ k = 1 ∧ ¬ k = 2) := by
  rcases hX with ⟨lim, hG, hN⟩ | ⟨e1, e2, lim, rc, ec, hG⟩
  · exact m_Ab_countX1 l hlt h0 hn hG hN
  · subst e1 e2
    exact m_Ab_countX0 l (to := to) (nm := nm) hlt h0 hn hG
set_option maxHeartbeats 4000000 in
set_option maxRecDepth 100000 in
theorem m_Mo_countX (l : Launch) {D : va_G} {cy : Nat → ClassId} {sz n : Nat} {ad : Nat → Nat} {mem : Nat → va_E} {J : Nat → Int32} {A : Nat → Nat → Int32} {nm : Nat → Int64} {m0 : Nat → va_E} {R Ec : Nat} {i1 : Int32} (hn : 242 ≤ n) (hM : MW cy ad J A nm m0 mem) (h4 : J 4 = nI R) (hRb : R ≤ 12) (h7 : J 7 = nI Ec) : MI l D cy sz n ad y_Mo_count c_Mo_count 4 (some .int) ({ frames := 1, cells := 0, slots := 0, locals := 30 } : Room) mem [.ref (ad 224), .int (i1)] (fun r mem' => ∃ J', MW cy ad J' A nm m0 mem' ∧ (∀ i, i ≠ 0 → J' i = J i) ∧ ((J' 0 = 0 ∧ ((i1 = 0 ∧ r = nI R) ∨ (i1 = 1 ∧ r = nI Ec) ∨ (i1 = 2 ∧ r = tlN (A 227) R))) ∨ (J' 0 = 1 ∧ ¬ i1 = 0 ∧ ¬ i1 = 1 ∧ ¬ i1 = 2))) := by
  refine Met.ofW (cc := c_Mo_count) (maxL := 4) (ret := (some .int)) (by decide) rfl ?_
  intro p e s m args below meth c s₁ B hml hv
  obtain ⟨rfl, E, hP, hD⟩ := hv
  have hx := B.exec
  have hb := B.bytes
  have hr := B.returns
  have hlocks := B.notSynchronized
  have Bx : MB p s m [.ref (ad 224), .int (i1)].toArray c c_Mo_count "AbnfChartModel" D cy := ⟨hx, hb, tb_all (atoms_spec B.pre) E.2.1, findClass_of_methodNamed B.named, E.1⟩
  have hS : va_S (Az sz) s.heap s.heap [] := va_S.rf
  have hl := lv_entry ([.ref (ad 224), .int (i1)]) (n := 4) (Nat.le_of_ble_eq_true rfl)
  rw [lg_entry_eq]
  generalize (lg_sl ([.ref (ad 224), .int (i1)]) ++ List.replicate (4 - (lg_sl ([.ref (ad 224), .int (i1)])).length) Slot.unset).toArray = ls at hl ⊢
  have hl : lv_has ls 4 [(0, .ref (ad 224)), (1, .int (i1))] := hl
  refine lv_aload_n Bx.1 Bx.2.1 d_Mo_count_0 rfl (lv_at hl 0 rfl) ?_
  refine lv_iconst (v := 0) Bx.1 Bx.2.1 d_Mo_count_1 (by decide) ?_
  refine f_put Bx hP hD hS (by omega) hM.1 rfl inMo tyMo okMo nmMo 0 (by decide) kw_656 rfl rfl rfl rfl (Nat.le_of_ble_eq_true rfl) d_Mo_count_2 (fun H locs hP hS => ?_)
  obtain ⟨J1, eJ1⟩ : ∃ z, z = va_up J 0 (0) := ⟨_, rfl⟩
  obtain ⟨mem2, e_mem2⟩ : ∃ z, z = va_up mem 224 (moC ad J1) := ⟨_, rfl⟩
  have hP : va_P D vcl (fw n ad mem2) H := by rw [e_mem2, eJ1]; exact hP
  have hD : va_D (Az sz) (fw n ad mem2) := fw_D hD
  have hW3 : MW cy ad J1 A nm m0 mem2 := by rw [e_mem2]; exact hM.upJ (by rw [eJ1]; exact va_up_ne _ _ (by decide))
  have kk4 : J1 4 = nI R := by rw [eJ1]; exact h4
  have kk5 : J1 7 = nI Ec := by rw [eJ1]; exact h7
  have kk6 : J1 0 = 0 := by rw [eJ1, va_up_self]
  refine lv_iload_n Bx.1 Bx.2.1 d_Mo_count_5 rfl (lv_at hl 1 rfl) ?_
  refine lv_iconst (v := 0) Bx.1 Bx.2.1 d_Mo_count_6 (by decide) ?_
  refine lv_iconst (v := 2) Bx.1 Bx.2.1 d_Mo_count_7 (by decide) ?_
  refine f_callSi (na := 3) (As := [.int (i1), .int (0), .int (2)]) (rest := []) Bx hml E.2.1 (m_Mo_within l (i1) (0) (2)) kw_754 kw_755 kw_8 kw_756 (by decide +kernel) ⟨rfl, rfl⟩ ⟨Nat.le_of_ble_eq_true rfl, Nat.le_of_ble_eq_true rfl⟩ rfl hl.1 (Nat.le_of_ble_eq_true rfl) d_Mo_count_8 ⟨Nat.le_of_ble_eq_true rfl, Nat.le_of_ble_eq_true rfl⟩ (fun r8 hs7 => ?_)
  subst hs7
  refine lv_if_ne Bx.1 Bx.2.1 d_Mo_count_11 rfl (fun hb9 => ?_) (fun hb9 => ?_)
  · have hin := w012 (show ¬ (i1 < 0 ∨ 2 < i1) from fun q9 => hb9 (if_pos q9))
    refine lv_iconst (v := 0) Bx.1 Bx.2.1 d_Mo_count_20 (by decide) ?_
    refine lv_istore_n (lv' := [(2, .int (0)), (0, .ref (ad 224)), (1, .int (i1))]) Bx.1 Bx.2.1 d_Mo_count_21 rfl hl (by decide) rfl (fun ls hl => ?_)
    refine lv_iconst (v := 0) Bx.1 Bx.2.1 d_Mo_count_22 (by decide) ?_
    refine lv_istore_n (lv' := [(3, .int (0)), (2, .int (0)), (0, .ref (ad 224)), (1, .int (i1))]) Bx.1 Bx.2.1 d_Mo_count_23 rfl hl (by decide) rfl (fun ls hl => ?_)
    have loop10 : ∀ (d11 : Nat) (k : Nat) (ls : Array Slot) (H : Heap) (locs : List Loc), (R - k < d11) → (k ≤ R) → (va_P D vcl (fw n ad mem2) H) → (va_D (Az sz) (fw n ad mem2)) → (va_S (Az sz) s.heap H locs) → (lv_has ls 4 [(3, .int (nI k)), (2, .int (tlN (A 227) k)), (0, .ref (ad 224)), (1, .int (i1))]) → W p l e (headSpec (Cond.code y_Mo_count c_Mo_count 4 (some .int) :: tg) ({ frames := 1, cells := 0, slots := 0, locals := 30 } : Room)).room s m [.ref (ad 224), .int (i1)].toArray below meth c H locs 0 0 (MQ below (va_Qi (fun r mem' => ∃ J', MW cy ad J' A nm m0 mem' ∧ (∀ i, i ≠ 0 → J' i = J i) ∧ ((J' 0 = 0 ∧ ((i1 = 0 ∧ r = nI R) ∨ (i1 = 1 ∧ r = nI Ec) ∨ (i1 = 2 ∧ r = tlN (A 227) R))) ∨ (J' 0 = 1 ∧ ¬ i1 = 0 ∧ ¬ i1 = 1 ∧ ¬ i1 = 2))) (PP D n ad) (Az sz)) [.ref (ad 224), .int (i1)].toArray s 0 0 (Az sz)) (F0 m 24 ls []) := by
      intro d11
      induction d11 with
      | zero => intro k ls H locs hmeas14; exact absurd hmeas14 (Nat.not_lt_zero _)
      | succ d11 ih13 =>
        intro k ls H locs hmeas14 hz12 hP hD hS hl
        refine lv_iload_n Bx.1 Bx.2.1 d_Mo_count_24 rfl (lv_at hl 0 rfl) ?_
        refine lv_aload_n Bx.1 Bx.2.1 d_Mo_count_25 rfl (lv_at hl 2 rfl) ?_
        refine f_get Bx hP (by omega) hW3.1 rfl inMo 4 (by decide) kw_660 rfl rfl d_Mo_count_26 ?_
        rw [kk4]
        refine lv_icmp_ge Bx.1 Bx.2.1 d_Mo_count_29 rfl (fun hb15 => ?_) (fun hb15 => ?_)
        · have hN16 : R ≤ k := (nI_leI (by omega) (by omega)).mp (show nI (R) ≤ nI (k) from hb15)
          have hkR : k = R := by omega
          refine lv_iload_n Bx.1 Bx.2.1 d_Mo_count_55 rfl (lv_at hl 3 rfl) ?_
          refine lv_if_ne Bx.1 Bx.2.1 d_Mo_count_56 rfl (fun hb17 => ?_) (fun hb17 => ?_)
          · refine lv_iload_n Bx.1 Bx.2.1 d_Mo_count_66 rfl (lv_at hl 3 rfl) ?_
            refine lv_iconst (v := 1) Bx.1 Bx.2.1 d_Mo_count_67 (by decide) ?_
            refine lv_icmp_ne Bx.1 Bx.2.1 d_Mo_count_68 rfl (fun hb18 => ?_) (fun hb18 => ?_)
            · refine lv_iload_n Bx.1 Bx.2.1 d_Mo_count_78 rfl (lv_at hl 1 rfl) ?_
              exact W.iret (v := tlN (A 227) k) hx hb hr (fun t ht hW => ⟨⟨tlN (A 227) k, mem2, rfl, ⟨J1, hW3, fun i q1 => by rw [eJ1, va_up_ne _ _ q1], Or.inl ⟨kk6, Or.inr (Or.inr ⟨(hin.resolve_left hb17).resolve_left hb18, by rw [hkR]⟩)⟩⟩, by show va_P _ _ _ t.heap; rw [ht]; exact hP⟩, hS.F ht⟩) hS.2.2 d_Mo_count_79
            · refine lv_aload_n Bx.1 Bx.2.1 d_Mo_count_71 rfl (lv_at hl 2 rfl) ?_
              refine f_get Bx hP (by omega) hW3.1 rfl inMo 7 (by decide) kw_663 rfl rfl d_Mo_count_72 ?_
              rw [kk5]
              refine lv_goto Bx.1 Bx.2.1 d_Mo_count_75 rfl ?_
              exact W.iret (v := nI Ec) hx hb hr (fun t ht hW => ⟨⟨nI Ec, mem2, rfl, ⟨J1, hW3, fun i q1 => by rw [eJ1, va_up_ne _ _ q1], Or.inl ⟨kk6, Or.inr (Or.inl ⟨hb18, rfl⟩)⟩⟩, by show va_P _ _ _ t.heap; rw [ht]; exact hP⟩, hS.F ht⟩) hS.2.2 d_Mo_count_79
          · refine lv_aload_n Bx.1 Bx.2.1 d_Mo_count_59 rfl (lv_at hl 2 rfl) ?_
            refine f_get Bx hP (by omega) hW3.1 rfl inMo 4 (by decide) kw_660 rfl rfl d_Mo_count_60 ?_
            rw [kk4]
            refine lv_goto Bx.1 Bx.2.1 d_Mo_count_63 rfl ?_
            exact W.iret (v := nI R) hx hb hr (fun t ht hW => ⟨⟨nI R, mem2, rfl, ⟨J1, hW3, fun i q1 => by rw [eJ1, va_up_ne _ _ q1], Or.inl ⟨kk6, Or.inl ⟨hb17, rfl⟩⟩⟩, by show va_P _ _ _ t.heap; rw [ht]; exact hP⟩, hS.F ht⟩) hS.2.2 d_Mo_count_79
        · have hN19 : ¬ R ≤ k := fun q9 => hb15 (show nI (R) ≤ nI (k) from (nI_leI (by omega) (by omega)).mpr q9)
          refine lv_iload_n Bx.1 Bx.2.1 d_Mo_count_32 rfl (lv_at hl 1 rfl) ?_
          refine lv_aload_n Bx.1 Bx.2.1 d_Mo_count_33 rfl (lv_at hl 2 rfl) ?_
          refine f_get Bx hP (by omega) hW3.1 rfl inMo 6 (by decide) kw_662 rfl rfl d_Mo_count_34 ?_
          refine lv_iload_n Bx.1 Bx.2.1 d_Mo_count_37 rfl (lv_at hl 0 rfl) ?_
          refine f_iald Bx hP (by omega) (show mem2 227 = .inl (cy 1, 12, .inl (A 227)) from hW3.2.2.1 227 (by decide) (by decide) (by decide)) (vp_in_nI (n := k) (by omega) (by decide)) d_Mo_count_38 ?_
          rw [nI_clamp (n := k) (by omega)]
          refine lv_if_lt Bx.1 Bx.2.1 d_Mo_count_39 rfl (fun hb20 => ?_) (fun hb20 => ?_)
          · refine lv_iconst (v := 0) Bx.1 Bx.2.1 d_Mo_count_46 (by decide) ?_
            refine lv_iadd Bx.1 Bx.2.1 d_Mo_count_47 ?_
            refine lv_istore_n (lv' := [(2, .int (tlN (A 227) k + 0)), (3, .int (nI k)), (0, .ref (ad 224)), (1, .int (i1))]) Bx.1 Bx.2.1 d_Mo_count_48 rfl hl (by decide) rfl (fun ls hl => ?_)
            refine lv_iinc (lv' := [(3, .int ((nI k + (1)))), (2, .int (tlN (A 227) k + 0)), (0, .ref (ad 224)), (1, .int (i1))]) Bx.1 Bx.2.1 d_Mo_count_49 hl (k := 1) rfl rfl (by decide) rfl (fun ls hl => ?_)
            rw [show (nI k + (1) : Int32) = nI (k + 1) from nI_1 (k)] at hl
            refine lv_goto Bx.1 Bx.2.1 d_Mo_count_52 rfl ?_
            exact ih13 (k + 1) _ _ _ (by have := hmeas14; omega) (by omega) hP hD hS (by rw [show tlN (A 227) (k + 1) = tlN (A 227) k + (if A 227 k < 0 then 0 else 1) from rfl, if_pos hb20]; exact (lv_sub hl [0, 1, 2, 3] rfl))
          · refine lv_iconst (v := 1) Bx.1 Bx.2.1 d_Mo_count_42 (by decide) ?_
            refine lv_goto Bx.1 Bx.2.1 d_Mo_count_43 rfl ?_
            refine lv_iadd Bx.1 Bx.2.1 d_Mo_count_47 ?_
            refine lv_istore_n (lv' := [(2, .int (tlN (A 227) k + 1)), (3, .int (nI k)), (0, .ref (ad 224)), (1, .int (i1))]) Bx.1 Bx.2.1 d_Mo_count_48 rfl hl (by decide) rfl (fun ls hl => ?_)
            refine lv_iinc (lv' := [(3, .int ((nI k + (1)))), (2, .int (tlN (A 227) k + 1)), (0, .ref (ad 224)), (1, .int (i1))]) Bx.1 Bx.2.1 d_Mo_count_49 hl (k := 1) rfl rfl (by decide) rfl (fun ls hl => ?_)
            rw [show (nI k + (1) : Int32) = nI (k + 1) from nI_1 (k)] at hl
            refine lv_goto Bx.1 Bx.2.1 d_Mo_count_52 rfl ?_
            exact ih13 (k + 1) _ _ _ (by have := hmeas14; omega) (by omega) hP hD hS (by rw [show tlN (A 227) (k + 1) = tlN (A 227) k + (if A 227 k < 0 then 0 else 1) from rfl, if_neg hb20]; exact (lv_sub hl [0, 1, 2, 3] rfl))
    exact loop10 _ (0) _ _ _ (Nat.lt_succ_self _) (by omega) hP hD hS (lv_sub hl [0, 1, 2, 3] rfl)
  · have hno := w012n (show i1 < 0 ∨ 2 < i1 from Classical.byContradiction (fun q9 => by have h9 := hb9; rw [if_neg q9] at h9; exact absurd h9 (by decide)))
    refine lv_aload_n Bx.1 Bx.2.1 d_Mo_count_14 rfl (lv_at hl 0 rfl) ?_
    refine lv_iconst (v := 1) Bx.1 Bx.2.1 d_Mo_count_15 (by decide) ?_
    refine f_callVi (na := 1) (As := [.int (1)]) (rest := []) Bx hml E hP hD hS (by omega) hW3.1 rfl (m_Mo_fail l hn (J := J1) hW3.1) kw_757 kw_759 sel_Mo_fail kw_8 kw_760 (by decide +kernel) ⟨rfl, rfl⟩ ⟨Nat.le_of_ble_eq_true rfl, Nat.le_of_ble_eq_true rfl⟩ rfl hl.1 (Nat.le_of_ble_eq_true rfl) d_Mo_count_16 ⟨Nat.le_of_ble_eq_true rfl, Nat.le_of_ble_eq_true rfl⟩ (fun r21 mem22 H locs hq hP hS => ?_)
    have hD : va_D (Az sz) (fw n ad mem22) := fw_D hD
    obtain ⟨hq0, hq⟩ := hq
    have hWf : MW cy ad (va_up J1 0 (1)) A nm m0 mem22 := by rw [hq]; exact hW3.upJ (va_up_ne _ _ (by decide))
    exact W.iret (v := r21) hx hb hr (fun t ht hW => ⟨⟨r21, mem22, rfl, ⟨_, hWf, fun i q1 => by rw [va_up_ne _ _ q1, eJ1, va_up_ne _ _ q1], Or.inr ⟨va_up_self _ _ _, hno⟩⟩, by show va_P _ _ _ t.heap; rw [ht]; exact hP⟩, hS.F ht⟩) hS.2.2 d_Mo_count_19
