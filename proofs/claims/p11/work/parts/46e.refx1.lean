set_option maxHeartbeats 4000000 in
set_option maxRecDepth 100000 in
theorem m_Mo_restX (l : Launch) {D : va_G} {cy : Nat → ClassId} {sz n : Nat} {ad : Nat → Nat} {mem : Nat → va_E} {J : Nat → Int32} {A : Nat → Nat → Int32} {nm : Nat → Int64} {m0 : Nat → va_E} {L k0 : Nat} (hn : 242 ≤ n) (hM : MW cy ad J A nm m0 mem) (h1 : J 1 = nI L) (hL : L ≤ 240) (hk0 : k0 ≤ L) : MI l D cy sz n ad y_Mo_rest c_Mo_rest 3 (some .int) ({ frames := 0, cells := 0, slots := 0, locals := 0 } : Room) mem [.ref (ad 224), .int (nI k0)] (fun r mem' => r = nI (restF (A 225) L k0) ∧ mem' = mem) := by
  refine Met.ofW (cc := c_Mo_rest) (maxL := 3) (ret := (some .int)) (by decide) rfl ?_
  intro p e s m args below meth c s₁ B hml hv
  obtain ⟨rfl, E, hP, hD⟩ := hv
  have hx := B.exec
  have hb := B.bytes
  have hr := B.returns
  have hlocks := B.notSynchronized
  have Bx : MB p s m [.ref (ad 224), .int (nI k0)].toArray c c_Mo_rest "AbnfChartModel" D cy := ⟨hx, hb, tb_all (atoms_spec B.pre) E.2.1, findClass_of_methodNamed B.named, E.1⟩
  have hS : va_S (Az sz) s.heap s.heap [] := va_S.rf
  have hl := lv_entry ([.ref (ad 224), .int (nI k0)]) (n := 3) (Nat.le_of_ble_eq_true rfl)
  rw [lg_entry_eq]
  generalize (lg_sl ([.ref (ad 224), .int (nI k0)]) ++ List.replicate (3 - (lg_sl ([.ref (ad 224), .int (nI k0)])).length) Slot.unset).toArray = ls at hl ⊢
  have hl : lv_has ls 3 [(0, .ref (ad 224)), (1, .int (nI k0))] := hl
  refine lv_iload_n Bx.1 Bx.2.1 d_Mo_rest_0 rfl (lv_at hl 1 rfl) ?_
  refine lv_istore_n (lv' := [(2, .int (nI k0)), (0, .ref (ad 224)), (1, .int (nI k0))]) Bx.1 Bx.2.1 d_Mo_rest_1 rfl hl (by decide) rfl (fun ls hl => ?_)
  have loop1 : ∀ (d2 : Nat) (k1 : Nat) (ls : Array Slot) (H : Heap) (locs : List Loc), (L - k1 < d2) → (k0 ≤ k1 ∧ k1 ≤ L ∧ spF (A 225) L k1 = spF (A 225) L k0) → (va_P D vcl (fw n ad mem) H) → (va_D (Az sz) (fw n ad mem)) → (va_S (Az sz) s.heap H locs) → (lv_has ls 3 [(2, .int (nI k1)), (0, .ref (ad 224)), (1, .int (nI k0))]) → W p l e (headSpec (Cond.code y_Mo_rest c_Mo_rest 3 (some .int) :: tg) ({ frames := 0, cells := 0, slots := 0, locals := 0 } : Room)).room s m [.ref (ad 224), .int (nI k0)].toArray below meth c H locs 0 0 (MQ below (va_Qi (fun r mem' => r = nI (restF (A 225) L k0) ∧ mem' = mem) (PP D n ad) (Az sz)) [.ref (ad 224), .int (nI k0)].toArray s 0 0 (Az sz)) (F0 m 2 ls []) := by
    intro d2
    induction d2 with
    | zero => intro k1 ls H locs hmeas5; exact absurd hmeas5 (Nat.not_lt_zero _)
    | succ d2 ih4 =>
      intro k1 ls H locs hmeas5 hz3 hP hD hS hl
      refine lv_iload_n Bx.1 Bx.2.1 d_Mo_rest_2 rfl (lv_at hl 0 rfl) ?_
      refine lv_aload_n Bx.1 Bx.2.1 d_Mo_rest_3 rfl (lv_at hl 1 rfl) ?_
      refine f_get Bx hP (by omega) hM.1 rfl inMo 1 (by decide) kw_657 rfl rfl d_Mo_rest_4 ?_
      rw [h1]
      refine lv_icmp_ge Bx.1 Bx.2.1 d_Mo_rest_7 rfl (fun hb6 => ?_) (fun hb6 => ?_)
      · have hN7 : L ≤ k1 := (nI_leI (by omega) (by omega)).mp (show nI (L) ≤ nI (k1) from hb6)
        have hsp : spF (A 225) L k0 = k1 := by rw [← hz3.2.2, spF, if_neg (fun z => by first | exact absurd z.1 (by omega) | exact hb6 z.2)]
        refine lv_iload_n Bx.1 Bx.2.1 d_Mo_rest_27 rfl (lv_at hl 0 rfl) ?_
        refine lv_aload_n Bx.1 Bx.2.1 d_Mo_rest_28 rfl (lv_at hl 1 rfl) ?_
        refine f_get Bx hP (by omega) hM.1 rfl inMo 1 (by decide) kw_657 rfl rfl d_Mo_rest_29 ?_
        rw [h1]
        refine lv_icmp_ge Bx.1 Bx.2.1 d_Mo_rest_32 rfl (fun hb8 => ?_) (fun hb8 => ?_)
        · have hN9 : L ≤ k1 := (nI_leI (by omega) (by omega)).mp (show nI (L) ≤ nI (k1) from hb8)
          refine lv_iload_n Bx.1 Bx.2.1 d_Mo_rest_71 rfl (lv_at hl 0 rfl) ?_
          exact W.iret (v := nI k1) hx hb hr (fun t ht hW => ⟨⟨nI k1, mem, rfl, ⟨by rw [show restF (A 225) L k0 = k1 by unfold restF; rw [hsp, if_neg (fun z => by first | exact absurd z.1 (by omega) | exact hb8 z.2)]], rfl⟩, by show va_P _ _ _ t.heap; rw [ht]; exact hP⟩, hS.F ht⟩) hS.2.2 d_Mo_rest_72
        · have hN10 : ¬ L ≤ k1 := fun q9 => hb8 (show nI (L) ≤ nI (k1) from (nI_leI (by omega) (by omega)).mpr q9)
          refine lv_aload_n Bx.1 Bx.2.1 d_Mo_rest_35 rfl (lv_at hl 1 rfl) ?_
          refine f_get Bx hP (by omega) hM.1 rfl inMo 2 (by decide) kw_658 rfl rfl d_Mo_rest_36 ?_
          refine lv_iload_n Bx.1 Bx.2.1 d_Mo_rest_39 rfl (lv_at hl 0 rfl) ?_
          refine f_iald Bx hP (by omega) (show mem 225 = .inl (cy 1, 240, .inl (A 225)) from hM.2.2.1 225 (by decide) (by decide) (by decide)) (vp_in_nI (n := k1) (by omega) (by decide)) d_Mo_rest_40 ?_
          rw [nI_clamp (n := k1) (by omega)]
          refine lv_bipush (v := 59) Bx.1 Bx.2.1 d_Mo_rest_41 (by decide) ?_
          refine lv_icmp_ne Bx.1 Bx.2.1 d_Mo_rest_43 rfl (fun hb11 => ?_) (fun hb11 => ?_)
          · refine lv_iload_n Bx.1 Bx.2.1 d_Mo_rest_71 rfl (lv_at hl 0 rfl) ?_
            exact W.iret (v := nI k1) hx hb hr (fun t ht hW => ⟨⟨nI k1, mem, rfl, ⟨by rw [show restF (A 225) L k0 = k1 by unfold restF; rw [hsp, if_neg (fun z => by first | exact absurd z.1 (by omega) | exact hb11 z.2)]], rfl⟩, by show va_P _ _ _ t.heap; rw [ht]; exact hP⟩, hS.F ht⟩) hS.2.2 d_Mo_rest_72
          · have hco : k1 < L ∧ A 225 (k1) = 59 := ⟨by omega, hb11⟩
            have loop12 : ∀ (d13 : Nat) (k3 : Nat) (ls : Array Slot) (H : Heap) (locs : List Loc), (L - k3 < d13) → (k0 ≤ k3 ∧ k3 ≤ L ∧ lfF (A 225) L k3 = lfF (A 225) L k1) → (va_P D vcl (fw n ad mem) H) → (va_D (Az sz) (fw n ad mem)) → (va_S (Az sz) s.heap H locs) → (lv_has ls 3 [(2, .int (nI k3)), (0, .ref (ad 224)), (1, .int (nI k0))]) → W p l e (headSpec (Cond.code y_Mo_rest c_Mo_rest 3 (some .int) :: tg) ({ frames := 0, cells := 0, slots := 0, locals := 0 } : Room)).room s m [.ref (ad 224), .int (nI k0)].toArray below meth c H locs 0 0 (MQ below (va_Qi (fun r mem' => r = nI (restF (A 225) L k0) ∧ mem' = mem) (PP D n ad) (Az sz)) [.ref (ad 224), .int (nI k0)].toArray s 0 0 (Az sz)) (F0 m 46 ls []) := by
              intro d13
              induction d13 with
              | zero => intro k3 ls H locs hmeas16; exact absurd hmeas16 (Nat.not_lt_zero _)
              | succ d13 ih15 =>
                intro k3 ls H locs hmeas16 hz14 hP hD hS hl
                refine lv_iload_n Bx.1 Bx.2.1 d_Mo_rest_46 rfl (lv_at hl 0 rfl) ?_
                refine lv_aload_n Bx.1 Bx.2.1 d_Mo_rest_47 rfl (lv_at hl 1 rfl) ?_
                refine f_get Bx hP (by omega) hM.1 rfl inMo 1 (by decide) kw_657 rfl rfl d_Mo_rest_48 ?_
                rw [h1]
                refine lv_icmp_ge Bx.1 Bx.2.1 d_Mo_rest_51 rfl (fun hb17 => ?_) (fun hb17 => ?_)
                · have hN18 : L ≤ k3 := (nI_leI (by omega) (by omega)).mp (show nI (L) ≤ nI (k3) from hb17)
                  refine lv_iload_n Bx.1 Bx.2.1 d_Mo_rest_71 rfl (lv_at hl 0 rfl) ?_
                  exact W.iret (v := nI k3) hx hb hr (fun t ht hW => ⟨⟨nI k3, mem, rfl, ⟨by rw [show restF (A 225) L k0 = k3 by unfold restF; rw [hsp, if_pos hco, ← hz14.2.2, lfF, if_neg (fun z => by first | exact absurd z.1 (by omega) | exact z.2 hb17)]], rfl⟩, by show va_P _ _ _ t.heap; rw [ht]; exact hP⟩, hS.F ht⟩) hS.2.2 d_Mo_rest_72
                · have hN19 : ¬ L ≤ k3 := fun q9 => hb17 (show nI (L) ≤ nI (k3) from (nI_leI (by omega) (by omega)).mpr q9)
                  refine lv_aload_n Bx.1 Bx.2.1 d_Mo_rest_54 rfl (lv_at hl 1 rfl) ?_
                  refine f_get Bx hP (by omega) hM.1 rfl inMo 2 (by decide) kw_658 rfl rfl d_Mo_rest_55 ?_
                  refine lv_iload_n Bx.1 Bx.2.1 d_Mo_rest_58 rfl (lv_at hl 0 rfl) ?_
                  refine f_iald Bx hP (by omega) (show mem 225 = .inl (cy 1, 240, .inl (A 225)) from hM.2.2.1 225 (by decide) (by decide) (by decide)) (vp_in_nI (n := k3) (by omega) (by decide)) d_Mo_rest_59 ?_
                  rw [nI_clamp (n := k3) (by omega)]
                  refine lv_bipush (v := 10) Bx.1 Bx.2.1 d_Mo_rest_60 (by decide) ?_
                  refine lv_icmp_eq Bx.1 Bx.2.1 d_Mo_rest_62 rfl (fun hb20 => ?_) (fun hb20 => ?_)
                  · refine lv_iload_n Bx.1 Bx.2.1 d_Mo_rest_71 rfl (lv_at hl 0 rfl) ?_
                    exact W.iret (v := nI k3) hx hb hr (fun t ht hW => ⟨⟨nI k3, mem, rfl, ⟨by rw [show restF (A 225) L k0 = k3 by unfold restF; rw [hsp, if_pos hco, ← hz14.2.2, lfF, if_neg (fun z => by first | exact absurd z.1 (by omega) | exact z.2 hb20)]], rfl⟩, by show va_P _ _ _ t.heap; rw [ht]; exact hP⟩, hS.F ht⟩) hS.2.2 d_Mo_rest_72
                  · refine lv_iinc (lv' := [(2, .int ((nI k3 + (1)))), (0, .ref (ad 224)), (1, .int (nI k0))]) Bx.1 Bx.2.1 d_Mo_rest_65 hl (k := 0) rfl rfl (by decide) rfl (fun ls hl => ?_)
                    rw [show (nI k3 + (1) : Int32) = nI (k3 + 1) from nI_1 (k3)] at hl
                    refine lv_goto Bx.1 Bx.2.1 d_Mo_rest_68 rfl ?_
                    exact ih15 (k3 + 1) _ _ _ (by have := hmeas16; omega) (⟨by omega, by omega, by rw [← hz14.2.2]; conv => rhs; rw [lfF, if_pos ⟨by omega, hb20⟩]⟩) hP hD hS (lv_sub hl [0, 1, 2] rfl)
            exact loop12 _ (k1) _ _ _ (Nat.lt_succ_self _) (⟨by omega, by omega, rfl⟩) hP hD hS (lv_sub hl [0, 1, 2] rfl)
      · have hN21 : ¬ L ≤ k1 := fun q9 => hb6 (show nI (L) ≤ nI (k1) from (nI_leI (by omega) (by omega)).mpr q9)
        refine lv_aload_n Bx.1 Bx.2.1 d_Mo_rest_10 rfl (lv_at hl 1 rfl) ?_
        refine f_get Bx hP (by omega) hM.1 rfl inMo 2 (by decide) kw_658 rfl rfl d_Mo_rest_11 ?_
        refine lv_iload_n Bx.1 Bx.2.1 d_Mo_rest_14 rfl (lv_at hl 0 rfl) ?_
        refine f_iald Bx hP (by omega) (show mem 225 = .inl (cy 1, 240, .inl (A 225)) from hM.2.2.1 225 (by decide) (by decide) (by decide)) (vp_in_nI (n := k1) (by omega) (by decide)) d_Mo_rest_15 ?_
        rw [nI_clamp (n := k1) (by omega)]
        refine lv_bipush (v := 32) Bx.1 Bx.2.1 d_Mo_rest_16 (by decide) ?_
        refine lv_icmp_ne Bx.1 Bx.2.1 d_Mo_rest_18 rfl (fun hb22 => ?_) (fun hb22 => ?_)
        · have hsp : spF (A 225) L k0 = k1 := by rw [← hz3.2.2, spF, if_neg (fun z => by first | exact absurd z.1 (by omega) | exact hb22 z.2)]
          refine lv_iload_n Bx.1 Bx.2.1 d_Mo_rest_27 rfl (lv_at hl 0 rfl) ?_
          refine lv_aload_n Bx.1 Bx.2.1 d_Mo_rest_28 rfl (lv_at hl 1 rfl) ?_
          refine f_get Bx hP (by omega) hM.1 rfl inMo 1 (by decide) kw_657 rfl rfl d_Mo_rest_29 ?_
          rw [h1]
          refine lv_icmp_ge Bx.1 Bx.2.1 d_Mo_rest_32 rfl (fun hb23 => ?_) (fun hb23 => ?_)
          · have hN24 : L ≤ k1 := (nI_leI (by omega) (by omega)).mp (show nI (L) ≤ nI (k1) from hb23)
            refine lv_iload_n Bx.1 Bx.2.1 d_Mo_rest_71 rfl (lv_at hl 0 rfl) ?_
            exact W.iret (v := nI k1) hx hb hr (fun t ht hW => ⟨⟨nI k1, mem, rfl, ⟨by rw [show restF (A 225) L k0 = k1 by unfold restF; rw [hsp, if_neg (fun z => by first | exact absurd z.1 (by omega) | exact hb23 z.2)]], rfl⟩, by show va_P _ _ _ t.heap; rw [ht]; exact hP⟩, hS.F ht⟩) hS.2.2 d_Mo_rest_72
          · have hN25 : ¬ L ≤ k1 := fun q9 => hb23 (show nI (L) ≤ nI (k1) from (nI_leI (by omega) (by omega)).mpr q9)
            refine lv_aload_n Bx.1 Bx.2.1 d_Mo_rest_35 rfl (lv_at hl 1 rfl) ?_
            refine f_get Bx hP (by omega) hM.1 rfl inMo 2 (by decide) kw_658 rfl rfl d_Mo_rest_36 ?_
            refine lv_iload_n Bx.1 Bx.2.1 d_Mo_rest_39 rfl (lv_at hl 0 rfl) ?_
            refine f_iald Bx hP (by omega) (show mem 225 = .inl (cy 1, 240, .inl (A 225)) from hM.2.2.1 225 (by decide) (by decide) (by decide)) (vp_in_nI (n := k1) (by omega) (by decide)) d_Mo_rest_40 ?_
            rw [nI_clamp (n := k1) (by omega)]
            refine lv_bipush (v := 59) Bx.1 Bx.2.1 d_Mo_rest_41 (by decide) ?_
            refine lv_icmp_ne Bx.1 Bx.2.1 d_Mo_rest_43 rfl (fun hb26 => ?_) (fun hb26 => ?_)
            · refine lv_iload_n Bx.1 Bx.2.1 d_Mo_rest_71 rfl (lv_at hl 0 rfl) ?_
              exact W.iret (v := nI k1) hx hb hr (fun t ht hW => ⟨⟨nI k1, mem, rfl, ⟨by rw [show restF (A 225) L k0 = k1 by unfold restF; rw [hsp, if_neg (fun z => by first | exact absurd z.1 (by omega) | exact hb26 z.2)]], rfl⟩, by show va_P _ _ _ t.heap; rw [ht]; exact hP⟩, hS.F ht⟩) hS.2.2 d_Mo_rest_72
            · have hco : k1 < L ∧ A 225 (k1) = 59 := ⟨by omega, hb26⟩
              have loop27 : ∀ (d28 : Nat) (k3 : Nat) (ls : Array Slot) (H : Heap) (locs : List Loc), (L - k3 < d28) → (k0 ≤ k3 ∧ k3 ≤ L ∧ lfF (A 225) L k3 = lfF (A 225) L k1) → (va_P D vcl (fw n ad mem) H) → (va_D (Az sz) (fw n ad mem)) → (va_S (Az sz) s.heap H locs) → (lv_has ls 3 [(2, .int (nI k3)), (0, .ref (ad 224)), (1, .int (nI k0))]) → W p l e (headSpec (Cond.code y_Mo_rest c_Mo_rest 3 (some .int) :: tg) ({ frames := 0, cells := 0, slots := 0, locals := 0 } : Room)).room s m [.ref (ad 224), .int (nI k0)].toArray below meth c H locs 0 0 (MQ below (va_Qi (fun r mem' => r = nI (restF (A 225) L k0) ∧ mem' = mem) (PP D n ad) (Az sz)) [.ref (ad 224), .int (nI k0)].toArray s 0 0 (Az sz)) (F0 m 46 ls []) := by
                intro d28
                induction d28 with
                | zero => intro k3 ls H locs hmeas31; exact absurd hmeas31 (Nat.not_lt_zero _)
                | succ d28 ih30 =>
                  intro k3 ls H locs hmeas31 hz29 hP hD hS hl
                  refine lv_iload_n Bx.1 Bx.2.1 d_Mo_rest_46 rfl (lv_at hl 0 rfl) ?_
                  refine lv_aload_n Bx.1 Bx.2.1 d_Mo_rest_47 rfl (lv_at hl 1 rfl) ?_
                  refine f_get Bx hP (by omega) hM.1 rfl inMo 1 (by decide) kw_657 rfl rfl d_Mo_rest_48 ?_
                  rw [h1]
                  refine lv_icmp_ge Bx.1 Bx.2.1 d_Mo_rest_51 rfl (fun hb32 => ?_) (fun hb32 => ?_)
                  · have hN33 : L ≤ k3 := (nI_leI (by omega) (by omega)).mp (show nI (L) ≤ nI (k3) from hb32)
                    refine lv_iload_n Bx.1 Bx.2.1 d_Mo_rest_71 rfl (lv_at hl 0 rfl) ?_
                    exact W.iret (v := nI k3) hx hb hr (fun t ht hW => ⟨⟨nI k3, mem, rfl, ⟨by rw [show restF (A 225) L k0 = k3 by unfold restF; rw [hsp, if_pos hco, ← hz29.2.2, lfF, if_neg (fun z => by first | exact absurd z.1 (by omega) | exact z.2 hb32)]], rfl⟩, by show va_P _ _ _ t.heap; rw [ht]; exact hP⟩, hS.F ht⟩) hS.2.2 d_Mo_rest_72
                  · have hN34 : ¬ L ≤ k3 := fun q9 => hb32 (show nI (L) ≤ nI (k3) from (nI_leI (by omega) (by omega)).mpr q9)
                    refine lv_aload_n Bx.1 Bx.2.1 d_Mo_rest_54 rfl (lv_at hl 1 rfl) ?_
                    refine f_get Bx hP (by omega) hM.1 rfl inMo 2 (by decide) kw_658 rfl rfl d_Mo_rest_55 ?_
                    refine lv_iload_n Bx.1 Bx.2.1 d_Mo_rest_58 rfl (lv_at hl 0 rfl) ?_
                    refine f_iald Bx hP (by omega) (show mem 225 = .inl (cy 1, 240, .inl (A 225)) from hM.2.2.1 225 (by decide) (by decide) (by decide)) (vp_in_nI (n := k3) (by omega) (by decide)) d_Mo_rest_59 ?_
                    rw [nI_clamp (n := k3) (by omega)]
                    refine lv_bipush (v := 10) Bx.1 Bx.2.1 d_Mo_rest_60 (by decide) ?_
                    refine lv_icmp_eq Bx.1 Bx.2.1 d_Mo_rest_62 rfl (fun hb35 => ?_) (fun hb35 => ?_)
                    · refine lv_iload_n Bx.1 Bx.2.1 d_Mo_rest_71 rfl (lv_at hl 0 rfl) ?_
                      exact W.iret (v := nI k3) hx hb hr (fun t ht hW => ⟨⟨nI k3, mem, rfl, ⟨by rw [show restF (A 225) L k0 = k3 by unfold restF; rw [hsp, if_pos hco, ← hz29.2.2, lfF, if_neg (fun z => by first | exact absurd z.1 (by omega) | exact z.2 hb35)]], rfl⟩, by show va_P _ _ _ t.heap; rw [ht]; exact hP⟩, hS.F ht⟩) hS.2.2 d_Mo_rest_72
                    · refine lv_iinc (lv' := [(2, .int ((nI k3 + (1)))), (0, .ref (ad 224)), (1, .int (nI k0))]) Bx.1 Bx.2.1 d_Mo_rest_65 hl (k := 0) rfl rfl (by decide) rfl (fun ls hl => ?_)
                      rw [show (nI k3 + (1) : Int32) = nI (k3 + 1) from nI_1 (k3)] at hl
                      refine lv_goto Bx.1 Bx.2.1 d_Mo_rest_68 rfl ?_
                      exact ih30 (k3 + 1) _ _ _ (by have := hmeas31; omega) (⟨by omega, by omega, by rw [← hz29.2.2]; conv => rhs; rw [lfF, if_pos ⟨by omega, hb35⟩]⟩) hP hD hS (lv_sub hl [0, 1, 2] rfl)
              exact loop27 _ (k1) _ _ _ (Nat.lt_succ_self _) (⟨by omega, by omega, rfl⟩) hP hD hS (lv_sub hl [0, 1, 2] rfl)
        · refine lv_iinc (lv' := [(2, .int ((nI k1 + (1)))), (0, .ref (ad 224)), (1, .int (nI k0))]) Bx.1 Bx.2.1 d_Mo_rest_21 hl (k := 0) rfl rfl (by decide) rfl (fun ls hl => ?_)
          rw [show (nI k1 + (1) : Int32) = nI (k1 + 1) from nI_1 (k1)] at hl
          refine lv_goto Bx.1 Bx.2.1 d_Mo_rest_24 rfl ?_
          exact ih4 (k1 + 1) _ _ _ (by have := hmeas5; omega) (⟨by omega, by omega, by rw [← hz3.2.2]; conv => rhs; rw [spF, if_pos ⟨by omega, hb22⟩]⟩) hP hD hS (lv_sub hl [0, 1, 2] rfl)
  exact loop1 _ (k0) _ _ _ (Nat.lt_succ_self _) (⟨by omega, by omega, rfl⟩) hP hD hS (lv_sub hl [0, 1, 2] rfl)
set_option maxHeartbeats 4000000 in
set_option maxRecDepth 100000 in
theorem m_Mo_lineX (l : Launch) {D : va_G} {cy : Nat → ClassId} {sz n : Nat} {ad : Nat → Nat} {mem : Nat → va_E} {J : Nat → Int32} {A : Nat → Nat → Int32} {nm : Nat → Int64} {m0 : Nat → va_E} {L k0 : Nat} (hn : 242 ≤ n) (hM : MW cy ad J A nm m0 mem) (h1 : J 1 = nI L) (hL : L ≤ 240) (hk0 : k0 ≤ L) : MI l D cy sz n ad y_Mo_line c_Mo_line 4 (some .int) ({ frames := 1, cells := 0, slots := 0, locals := 30 } : Room) mem [.ref (ad 224), .int (nI k0)] (fun r mem' => r = nI (lineF (A 225) L k0) ∧ mem' = mem) := by
  refine Met.ofW (cc := c_Mo_line) (maxL := 4) (ret := (some .int)) (by decide) rfl ?_
  intro p e s m args below meth c s₁ B hml hv
  obtain ⟨rfl, E, hP, hD⟩ := hv
  have hx := B.exec
  have hb := B.bytes
  have hr := B.returns
  have hlocks := B.notSynchronized
  have Bx : MB p s m [.ref (ad 224), .int (nI k0)].toArray c c_Mo_line "AbnfChartModel" D cy := ⟨hx, hb, tb_all (atoms_spec B.pre) E.2.1, findClass_of_methodNamed B.named, E.1⟩
  have hS : va_S (Az sz) s.heap s.heap [] := va_S.rf
  have hl := lv_entry ([.ref (ad 224), .int (nI k0)]) (n := 4) (Nat.le_of_ble_eq_true rfl)
  rw [lg_entry_eq]
  generalize (lg_sl ([.ref (ad 224), .int (nI k0)]) ++ List.replicate (4 - (lg_sl ([.ref (ad 224), .int (nI k0)])).length) Slot.unset).toArray = ls at hl ⊢
  have hl : lv_has ls 4 [(0, .ref (ad 224)), (1, .int (nI k0))] := hl
  refine lv_iload_n Bx.1 Bx.2.1 d_Mo_line_0 rfl (lv_at hl 1 rfl) ?_
  refine lv_istore_n (lv' := [(2, .int (nI k0)), (0, .ref (ad 224)), (1, .int (nI k0))]) Bx.1 Bx.2.1 d_Mo_line_1 rfl hl (by decide) rfl (fun ls hl => ?_)
  have loop1 : ∀ (d2 : Nat) (k1 : Nat) (ls : Array Slot) (H : Heap) (locs : List Loc), (L - k1 < d2) → (k0 ≤ k1 ∧ k1 ≤ L ∧ lineF (A 225) L k1 = lineF (A 225) L k0) → (va_P D vcl (fw n ad mem) H) → (va_D (Az sz) (fw n ad mem)) → (va_S (Az sz) s.heap H locs) → (lv_has ls 4 [(2, .int (nI k1)), (0, .ref (ad 224)), (1, .int (nI k0))]) → W p l e (headSpec (Cond.code y_Mo_line c_Mo_line 4 (some .int) :: tg) ({ frames := 1, cells := 0, slots := 0, locals := 30 } : Room)).room s m [.ref (ad 224), .int (nI k0)].toArray below meth c H locs 0 0 (MQ below (va_Qi (fun r mem' => r = nI (lineF (A 225) L k0) ∧ mem' = mem) (PP D n ad) (Az sz)) [.ref (ad 224), .int (nI k0)].toArray s 0 0 (Az sz)) (F0 m 2 ls []) := by
    intro d2
    induction d2 with
    | zero => intro k1 ls H locs hmeas5; exact absurd hmeas5 (Nat.not_lt_zero _)
    | succ d2 ih4 =>
      intro k1 ls H locs hmeas5 hz3 hP hD hS hl
      refine lv_iload_n Bx.1 Bx.2.1 d_Mo_line_2 rfl (lv_at hl 0 rfl) ?_
      refine lv_aload_n Bx.1 Bx.2.1 d_Mo_line_3 rfl (lv_at hl 1 rfl) ?_
      refine f_get Bx hP (by omega) hM.1 rfl inMo 1 (by decide) kw_657 rfl rfl d_Mo_line_4 ?_
      rw [h1]
      refine lv_icmp_ge Bx.1 Bx.2.1 d_Mo_line_7 rfl (fun hb6 => ?_) (fun hb6 => ?_)
      · have hN7 : L ≤ k1 := (nI_leI (by omega) (by omega)).mp (show nI (L) ≤ nI (k1) from hb6)
        refine lv_aload_n Bx.1 Bx.2.1 d_Mo_line_59 rfl (lv_at hl 1 rfl) ?_
        refine f_get Bx hP (by omega) hM.1 rfl inMo 1 (by decide) kw_657 rfl rfl d_Mo_line_60 ?_
        rw [h1]
        exact W.iret (v := nI L) hx hb hr (fun t ht hW => ⟨⟨nI L, mem, rfl, ⟨by rw [← hz3.2.2, lineF, dif_neg (by omega)], rfl⟩, by show va_P _ _ _ t.heap; rw [ht]; exact hP⟩, hS.F ht⟩) hS.2.2 d_Mo_line_63
      · have hN8 : ¬ L ≤ k1 := fun q9 => hb6 (show nI (L) ≤ nI (k1) from (nI_leI (by omega) (by omega)).mpr q9)
        refine lv_aload_n Bx.1 Bx.2.1 d_Mo_line_10 rfl (lv_at hl 1 rfl) ?_
        refine lv_iload_n Bx.1 Bx.2.1 d_Mo_line_11 rfl (lv_at hl 0 rfl) ?_
        refine f_callVi (na := 1) (As := [.int (nI k1)]) (rest := []) Bx hml E hP hD hS (by omega) hM.1 rfl (m_Mo_restX l hn hM h1 hL (k0 := k1) (by omega)) kw_774 kw_776 sel_Mo_rest kw_8 kw_777 (by decide +kernel) ⟨rfl, rfl⟩ ⟨Nat.le_of_ble_eq_true rfl, Nat.le_of_ble_eq_true rfl⟩ rfl hl.1 (Nat.le_of_ble_eq_true rfl) d_Mo_line_12 ⟨Nat.le_of_ble_eq_true rfl, Nat.le_of_ble_eq_true rfl⟩ (fun r9 mem10 H locs hq hP hS => ?_)
        have hD : va_D (Az sz) (fw n ad mem10) := fw_D hD
        obtain ⟨hre, hq⟩ := hq
        rw [hq] at hP hD
        subst hre
        have hrg11 := restF_ge (A 225) L (k1)
        have hrl12 := restF_le (A 225) (L := L) (k := k1) (by omega)
        refine lv_istore_n (lv' := [(3, .int (nI (restF (A 225) L (k1)))), (2, .int (nI k1)), (0, .ref (ad 224)), (1, .int (nI k0))]) Bx.1 Bx.2.1 d_Mo_line_15 rfl hl (by decide) rfl (fun ls hl => ?_)
        refine lv_iload_n Bx.1 Bx.2.1 d_Mo_line_16 rfl (lv_at hl 0 rfl) ?_
        refine lv_aload_n Bx.1 Bx.2.1 d_Mo_line_17 rfl (lv_at hl 2 rfl) ?_
        refine f_get Bx hP (by omega) hM.1 rfl inMo 1 (by decide) kw_657 rfl rfl d_Mo_line_18 ?_
        rw [h1]
        refine lv_icmp_ge Bx.1 Bx.2.1 d_Mo_line_21 rfl (fun hb13 => ?_) (fun hb13 => ?_)
        · have hN14 : L ≤ restF (A 225) L (k1) := (nI_leI (by omega) (by omega)).mp (show nI (L) ≤ nI (restF (A 225) L (k1)) from hb13)
          refine lv_iload_n Bx.1 Bx.2.1 d_Mo_line_37 rfl (lv_at hl 0 rfl) ?_
          refine lv_aload_n Bx.1 Bx.2.1 d_Mo_line_38 rfl (lv_at hl 2 rfl) ?_
          refine f_get Bx hP (by omega) hM.1 rfl inMo 1 (by decide) kw_657 rfl rfl d_Mo_line_39 ?_
          rw [h1]
          refine lv_icmp_ge Bx.1 Bx.2.1 d_Mo_line_42 rfl (fun hb15 => ?_) (fun hb15 => ?_)
          · have hN16 : L ≤ restF (A 225) L (k1) := (nI_leI (by omega) (by omega)).mp (show nI (L) ≤ nI (restF (A 225) L (k1)) from hb15)
            refine lv_aload_n Bx.1 Bx.2.1 d_Mo_line_51 rfl (lv_at hl 2 rfl) ?_
            refine f_get Bx hP (by omega) hM.1 rfl inMo 1 (by decide) kw_657 rfl rfl d_Mo_line_52 ?_
            rw [h1]
            refine lv_istore_n (lv' := [(2, .int (nI L)), (3, .int (nI (restF (A 225) L (k1)))), (0, .ref (ad 224)), (1, .int (nI k0))]) Bx.1 Bx.2.1 d_Mo_line_55 rfl hl (by decide) rfl (fun ls hl => ?_)
            refine lv_goto Bx.1 Bx.2.1 d_Mo_line_56 rfl ?_
            exact ih4 (L) _ _ _ (by have := hmeas5; omega) (⟨by omega, by omega, by rw [← hz3.2.2]; conv => rhs; rw [lineF, dif_pos (show k1 < L by omega), if_neg (fun z => by first | exact absurd z.1 (by omega) | exact z.2 hb13), if_neg (by omega)]⟩) hP hD hS (lv_sub hl [0, 2, 3] rfl)
          · have hN17 : ¬ L ≤ restF (A 225) L (k1) := fun q9 => hb15 (show nI (L) ≤ nI (restF (A 225) L (k1)) from (nI_leI (by omega) (by omega)).mpr q9)
            refine lv_iload_n Bx.1 Bx.2.1 d_Mo_line_45 rfl (lv_at hl 0 rfl) ?_
            refine lv_iconst (v := 1) Bx.1 Bx.2.1 d_Mo_line_46 (by decide) ?_
            refine lv_iadd Bx.1 Bx.2.1 d_Mo_line_47 ?_
            rw [show nI (restF (A 225) L (k1)) + 1 = nI (restF (A 225) L (k1) + 1) from nI_add (restF (A 225) L (k1)) (1)]
            refine lv_goto Bx.1 Bx.2.1 d_Mo_line_48 rfl ?_
            refine lv_istore_n (lv' := [(2, .int (nI (restF (A 225) L (k1) + 1))), (3, .int (nI (restF (A 225) L (k1)))), (0, .ref (ad 224)), (1, .int (nI k0))]) Bx.1 Bx.2.1 d_Mo_line_55 rfl hl (by decide) rfl (fun ls hl => ?_)
            refine lv_goto Bx.1 Bx.2.1 d_Mo_line_56 rfl ?_
            exact ih4 (restF (A 225) L (k1) + 1) _ _ _ (by have := hmeas5; omega) (⟨by omega, by omega, by rw [← hz3.2.2]; conv => rhs; rw [lineF, dif_pos (show k1 < L by omega), if_neg (fun z => by first | exact absurd z.1 (by omega) | exact z.2 hb13), if_pos (by omega)]⟩) hP hD hS (lv_sub hl [0, 2, 3] rfl)
        · have hN18 : ¬ L ≤ restF (A 225) L (k1) := fun q9 => hb13 (show nI (L) ≤ nI (restF (A 225) L (k1)) from (nI_leI (by omega) (by omega)).mpr q9)
          refine lv_aload_n Bx.1 Bx.2.1 d_Mo_line_24 rfl (lv_at hl 2 rfl) ?_
          refine f_get Bx hP (by omega) hM.1 rfl inMo 2 (by decide) kw_658 rfl rfl d_Mo_line_25 ?_
          refine lv_iload_n Bx.1 Bx.2.1 d_Mo_line_28 rfl (lv_at hl 0 rfl) ?_
          refine f_iald Bx hP (by omega) (show mem 225 = .inl (cy 1, 240, .inl (A 225)) from hM.2.2.1 225 (by decide) (by decide) (by decide)) (vp_in_nI (n := restF (A 225) L (k1)) (by omega) (by decide)) d_Mo_line_29 ?_
          rw [nI_clamp (n := restF (A 225) L (k1)) (by omega)]
          refine lv_bipush (v := 10) Bx.1 Bx.2.1 d_Mo_line_30 (by decide) ?_
          refine lv_icmp_eq Bx.1 Bx.2.1 d_Mo_line_32 rfl (fun hb19 => ?_) (fun hb19 => ?_)
          · refine lv_iload_n Bx.1 Bx.2.1 d_Mo_line_37 rfl (lv_at hl 0 rfl) ?_
            refine lv_aload_n Bx.1 Bx.2.1 d_Mo_line_38 rfl (lv_at hl 2 rfl) ?_
            refine f_get Bx hP (by omega) hM.1 rfl inMo 1 (by decide) kw_657 rfl rfl d_Mo_line_39 ?_
            rw [h1]
            refine lv_icmp_ge Bx.1 Bx.2.1 d_Mo_line_42 rfl (fun hb20 => ?_) (fun hb20 => ?_)
            · have hN21 : L ≤ restF (A 225) L (k1) := (nI_leI (by omega) (by omega)).mp (show nI (L) ≤ nI (restF (A 225) L (k1)) from hb20)
              refine lv_aload_n Bx.1 Bx.2.1 d_Mo_line_51 rfl (lv_at hl 2 rfl) ?_
              refine f_get Bx hP (by omega) hM.1 rfl inMo 1 (by decide) kw_657 rfl rfl d_Mo_line_52 ?_
              rw [h1]
              refine lv_istore_n (lv' := [(2, .int (nI L)), (3, .int (nI (restF (A 225) L (k1)))), (0, .ref (ad 224)), (1, .int (nI k0))]) Bx.1 Bx.2.1 d_Mo_line_55 rfl hl (by decide) rfl (fun ls hl => ?_)
              refine lv_goto Bx.1 Bx.2.1 d_Mo_line_56 rfl ?_
              exact ih4 (L) _ _ _ (by have := hmeas5; omega) (⟨by omega, by omega, by rw [← hz3.2.2]; conv => rhs; rw [lineF, dif_pos (show k1 < L by omega), if_neg (fun z => by first | exact absurd z.1 (by omega) | exact z.2 hb19), if_neg (by omega)]⟩) hP hD hS (lv_sub hl [0, 2, 3] rfl)
            · have hN22 : ¬ L ≤ restF (A 225) L (k1) := fun q9 => hb20 (show nI (L) ≤ nI (restF (A 225) L (k1)) from (nI_leI (by omega) (by omega)).mpr q9)
              refine lv_iload_n Bx.1 Bx.2.1 d_Mo_line_45 rfl (lv_at hl 0 rfl) ?_
              refine lv_iconst (v := 1) Bx.1 Bx.2.1 d_Mo_line_46 (by decide) ?_
              refine lv_iadd Bx.1 Bx.2.1 d_Mo_line_47 ?_
              rw [show nI (restF (A 225) L (k1)) + 1 = nI (restF (A 225) L (k1) + 1) from nI_add (restF (A 225) L (k1)) (1)]
              refine lv_goto Bx.1 Bx.2.1 d_Mo_line_48 rfl ?_
              refine lv_istore_n (lv' := [(2, .int (nI (restF (A 225) L (k1) + 1))), (3, .int (nI (restF (A 225) L (k1)))), (0, .ref (ad 224)), (1, .int (nI k0))]) Bx.1 Bx.2.1 d_Mo_line_55 rfl hl (by decide) rfl (fun ls hl => ?_)
              refine lv_goto Bx.1 Bx.2.1 d_Mo_line_56 rfl ?_
              exact ih4 (restF (A 225) L (k1) + 1) _ _ _ (by have := hmeas5; omega) (⟨by omega, by omega, by rw [← hz3.2.2]; conv => rhs; rw [lineF, dif_pos (show k1 < L by omega), if_neg (fun z => by first | exact absurd z.1 (by omega) | exact z.2 hb19), if_pos (by omega)]⟩) hP hD hS (lv_sub hl [0, 2, 3] rfl)
          · refine lv_iload_n Bx.1 Bx.2.1 d_Mo_line_35 rfl (lv_at hl 1 rfl) ?_
            exact W.iret (v := nI k1) hx hb hr (fun t ht hW => ⟨⟨nI k1, mem, rfl, ⟨by rw [← hz3.2.2, lineF, dif_pos (by omega), if_pos ⟨by omega, hb19⟩], rfl⟩, by show va_P _ _ _ t.heap; rw [ht]; exact hP⟩, hS.F ht⟩) hS.2.2 d_Mo_line_36
  exact loop1 _ (k0) _ _ _ (Nat.lt_succ_self _) (⟨by omega, by omega, rfl⟩) hP hD hS (lv_sub hl [0, 1, 2] rfl)
set_option maxHeartbeats 4000000 in
set_option maxRecDepth 100000 in
theorem m_Mo_gapX (l : Launch) {D : va_G} {cy : Nat → ClassId} {sz n : Nat} {ad : Nat → Nat} {mem : Nat → va_E} {J : Nat → Int32} {A : Nat → Nat → Int32} {nm : Nat → Int64} {m0 : Nat → va_E} {L a : Nat} (hn : 242 ≤ n) (hM : MW cy ad J A nm m0 mem) (h1 : J 1 = nI L) (hL : L ≤ 240) (ha : J 16 = nI a) (haL : a ≤ L) : MV l D cy sz n ad y_Mo_gap c_Mo_gap 3 ({ frames := 2, cells := 0, slots := 0, locals := 60 } : Room) mem [.ref (ad 224)] (fun mem' => MW cy ad (va_up J 16 (nI (gapF (A 225) L a))) A nm m0 mem') := by
  refine Met.ofW (cc := c_Mo_gap) (maxL := 3) (ret := none) (by decide) rfl ?_
  intro p e s m args below meth c s₁ B hml hv
  obtain ⟨rfl, E, hP, hD⟩ := hv
  have hx := B.exec
  have hb := B.bytes
  have hr := B.returns
  have hlocks := B.notSynchronized
  have Bx : MB p s m [.ref (ad 224)].toArray c c_Mo_gap "AbnfChartModel" D cy := ⟨hx, hb, tb_all (atoms_spec B.pre) E.2.1, findClass_of_methodNamed B.named, E.1⟩
  have hS : va_S (Az sz) s.heap s.heap [] := va_S.rf
  have hl := lv_entry ([.ref (ad 224)]) (n := 3) (Nat.le_of_ble_eq_true rfl)
  rw [lg_entry_eq]
  generalize (lg_sl ([.ref (ad 224)]) ++ List.replicate (3 - (lg_sl ([.ref (ad 224)])).length) Slot.unset).toArray = ls at hl ⊢
  have hl : lv_has ls 3 [(0, .ref (ad 224))] := hl
  refine lv_iconst (v := 1) Bx.1 Bx.2.1 d_Mo_gap_0 (by decide) ?_
  refine lv_istore_n (lv' := [(1, .int (1)), (0, .ref (ad 224))]) Bx.1 Bx.2.1 d_Mo_gap_1 rfl hl (by decide) rfl (fun ls hl => ?_)
  have loop1 : ∀ (d2 : Nat) (mem9 : Nat → va_E) (J9 : Nat → Int32) (a1 : Nat) (b : Nat) (ls : Array Slot) (H : Heap) (locs : List Loc), ((L + 1 - a1 + b) < d2) → (J9 = va_up J 16 (nI a1) ∧ J9 1 = nI L ∧ J9 16 = nI a1) → (MW cy ad J9 A nm m0 mem9) → (a ≤ a1 ∧ a1 ≤ L) → (b ≤ 1) → ((b = 1 → gapF (A 225) L a1 = gapF (A 225) L a) ∧ (b = 0 → a1 = gapF (A 225) L a)) → (va_P D vcl (fw n ad mem9) H) → (va_D (Az sz) (fw n ad mem9)) → (va_S (Az sz) s.heap H locs) → (lv_has ls 3 [(1, .int (nI b)), (0, .ref (ad 224))]) → W p l e (headSpec (Cond.code y_Mo_gap c_Mo_gap 3 none :: tg) ({ frames := 2, cells := 0, slots := 0, locals := 60 } : Room)).room s m [.ref (ad 224)].toArray below meth c H locs 0 0 (MQ below (va_Qv (fun mem' => MW cy ad (va_up J 16 (nI (gapF (A 225) L a))) A nm m0 mem') (PP D n ad) (Az sz)) [.ref (ad 224)].toArray s 0 0 (Az sz)) (F0 m 2 ls []) := by
    intro d2
    induction d2 with
    | zero => intro mem9 J9 a1 b ls H locs hmeas9; exact absurd hmeas9 (Nat.not_lt_zero _)
    | succ d2 ih8 =>
      intro mem9 J9 a1 b ls H locs hmeas9 hz3 hz4 hz5 hz6 hz7 hP hD hS hl
      obtain ⟨eJ9, g1, g16⟩ := hz3
      refine lv_iload_n Bx.1 Bx.2.1 d_Mo_gap_2 rfl (lv_at hl 0 rfl) ?_
      refine lv_if_eq Bx.1 Bx.2.1 d_Mo_gap_3 rfl (fun hb10 => ?_) (fun hb10 => ?_)
      · have hN11 : b = 0 := (nI_eq (by omega) (by omega)).mp (show nI (b) = nI (0) from hb10)
        exact W.vret hx hb hr (fun t ht hW => ⟨⟨mem9, rfl, by rw [← hz7.2 (by omega), ← eJ9]; exact hz4, by show va_P _ _ _ t.heap; rw [ht]; exact hP⟩, hS.F ht⟩) hS.2.2 d_Mo_gap_82
      · have hN12 : ¬ b = 0 := fun q9 => hb10 (show nI (b) = nI (0) from (nI_eq (by omega) (by omega)).mpr q9)
        refine lv_aload_n Bx.1 Bx.2.1 d_Mo_gap_6 rfl (lv_at hl 1 rfl) ?_
        refine lv_aload_n Bx.1 Bx.2.1 d_Mo_gap_7 rfl (lv_at hl 1 rfl) ?_
        refine lv_aload_n Bx.1 Bx.2.1 d_Mo_gap_8 rfl (lv_at hl 1 rfl) ?_
        refine f_get Bx hP (by omega) hz4.1 rfl inMo 16 (by decide) kw_672 rfl rfl d_Mo_gap_9 ?_
        rw [g16]
        refine f_callVi (na := 1) (As := [.int (nI a1)]) (rest := [.ref (ad 224)]) Bx hml E hP hD hS (by omega) hz4.1 rfl (m_Mo_restX l hn hz4 g1 hL (k0 := a1) (by omega)) kw_774 kw_776 sel_Mo_rest kw_8 kw_777 (by decide +kernel) ⟨rfl, rfl⟩ ⟨Nat.le_of_ble_eq_true rfl, Nat.le_of_ble_eq_true rfl⟩ rfl hl.1 (Nat.le_of_ble_eq_true rfl) d_Mo_gap_12 ⟨Nat.le_of_ble_eq_true rfl, Nat.le_of_ble_eq_true rfl⟩ (fun r13 mem14 H locs hq hP hS => ?_)
        have hD : va_D (Az sz) (fw n ad mem14) := fw_D hD
        obtain ⟨hre, hq⟩ := hq
        rw [hq] at hP hD
        subst hre
        have hrg15 := restF_ge (A 225) L (a1)
        have hrl16 := restF_le (A 225) (L := L) (k := a1) (by omega)
        refine f_put Bx hP hD hS (by omega) hz4.1 rfl inMo tyMo okMo nmMo 16 (by decide) kw_672 rfl rfl rfl rfl (Nat.le_of_ble_eq_true rfl) d_Mo_gap_15 (fun H locs hP hS => ?_)
        obtain ⟨J17, eJ17⟩ : ∃ z, z = va_up J9 16 (nI (restF (A 225) L (a1))) := ⟨_, rfl⟩
        obtain ⟨mem18, e_mem18⟩ : ∃ z, z = va_up mem9 224 (moC ad J17) := ⟨_, rfl⟩
        have hP : va_P D vcl (fw n ad mem18) H := by rw [e_mem18, eJ17]; exact hP
        have hD : va_D (Az sz) (fw n ad mem18) := fw_D hD
        have hW19 : MW cy ad J17 A nm m0 mem18 := by rw [e_mem18]; exact hz4.upJ (by rw [eJ17]; exact va_up_ne _ _ (by decide))
        have kk20 : J17 1 = nI L := by rw [eJ17]; exact g1
        have kk21 : J17 16 = nI (restF (A 225) L (a1)) := by rw [eJ17, va_up_self]
        refine lv_aload_n Bx.1 Bx.2.1 d_Mo_gap_18 rfl (lv_at hl 1 rfl) ?_
        refine f_callVi (na := 0) (As := []) (rest := []) Bx hml E hP hD hS (by omega) hW19.1 rfl (m_Mo_here l hn hW19 kk20 hL kk21 (by omega)) kw_778 kw_780 sel_Mo_here kw_8 kw_781 (by decide +kernel) ⟨rfl, rfl⟩ ⟨Nat.le_of_ble_eq_true rfl, Nat.le_of_ble_eq_true rfl⟩ rfl hl.1 (Nat.le_of_ble_eq_true rfl) d_Mo_gap_19 ⟨Nat.le_of_ble_eq_true rfl, Nat.le_of_ble_eq_true rfl⟩ (fun r22 mem23 H locs hq hP hS => ?_)
        have hD : va_D (Az sz) (fw n ad mem23) := fw_D hD
        obtain ⟨hre, hq⟩ := hq
        rw [hq] at hP hD
        subst hre
        refine lv_bipush (v := 10) Bx.1 Bx.2.1 d_Mo_gap_22 (by decide) ?_
        refine lv_icmp_ne Bx.1 Bx.2.1 d_Mo_gap_24 rfl (fun hb24 => ?_) (fun hb24 => ?_)
        · have hlf : ¬ (restF (A 225) L (a1) < L ∧ A 225 (restF (A 225) L (a1)) = 10 ∧ lineF (A 225) L (restF (A 225) L (a1) + 1) < L ∧ A 225 (lineF (A 225) L (restF (A 225) L (a1) + 1)) = 32) := fun z => hb24 (by unfold hereF; rw [if_pos z.1]; exact z.2.1)
          refine lv_aload_n Bx.1 Bx.2.1 d_Mo_gap_40 rfl (lv_at hl 1 rfl) ?_
          refine f_get Bx hP (by omega) hW19.1 rfl inMo 1 (by decide) kw_657 rfl rfl d_Mo_gap_41 ?_
          rw [kk20]
          refine lv_istore_n (lv' := [(2, .int (nI L)), (1, .int (nI b)), (0, .ref (ad 224))]) Bx.1 Bx.2.1 d_Mo_gap_44 rfl hl (by decide) rfl (fun ls hl => ?_)
          refine lv_iload_n Bx.1 Bx.2.1 d_Mo_gap_45 rfl (lv_at hl 0 rfl) ?_
          refine lv_aload_n Bx.1 Bx.2.1 d_Mo_gap_46 rfl (lv_at hl 2 rfl) ?_
          refine f_get Bx hP (by omega) hW19.1 rfl inMo 1 (by decide) kw_657 rfl rfl d_Mo_gap_47 ?_
          rw [kk20]
          refine lv_icmp_ge Bx.1 Bx.2.1 d_Mo_gap_50 rfl (fun hb25 => ?_) (fun hb25 => ?_)
          · have hN26 : L ≤ L := (nI_leI (by omega) (by omega)).mp (show nI (L) ≤ nI (L) from hb25)
            refine lv_iconst (v := 0) Bx.1 Bx.2.1 d_Mo_gap_68 (by decide) ?_
            refine lv_istore_n (lv' := [(1, .int (0)), (2, .int (nI L)), (0, .ref (ad 224))]) Bx.1 Bx.2.1 d_Mo_gap_69 rfl hl (by decide) rfl (fun ls hl => ?_)
            refine lv_iload_n Bx.1 Bx.2.1 d_Mo_gap_70 rfl (lv_at hl 0 rfl) ?_
            refine lv_if_eq Bx.1 Bx.2.1 d_Mo_gap_71 rfl (fun hb27 => ?_) (fun hb27 => ?_)
            · refine lv_goto Bx.1 Bx.2.1 d_Mo_gap_79 rfl ?_
              have hJe : J17 = va_up J 16 (nI (restF (A 225) L (a1))) := by rw [eJ17, eJ9, up_up]
              exact ih8 mem18 (J17) (restF (A 225) L (a1)) (0) _ _ _ (by have := hmeas9; omega) (⟨hJe, kk20, kk21⟩) (hW19) (⟨by omega, by omega⟩) (by omega) (⟨fun z => absurd z (by decide), fun _ => by rw [← hz7.1 (by omega), gapF, dif_neg (fun z => by first | exact absurd z.2.2.1 (by omega) | exact hb24 z.2.2.2 | exact hlf z)]⟩) hP hD hS (lv_sub hl [0, 2] rfl)
            · exact absurd hb27 (by decide)
          · have hN28 : ¬ L ≤ L := fun q9 => hb25 (show nI (L) ≤ nI (L) from (nI_leI (by omega) (by omega)).mpr q9)
            refine lv_aload_n Bx.1 Bx.2.1 d_Mo_gap_53 rfl (lv_at hl 2 rfl) ?_
            refine f_get Bx hP (by omega) hW19.1 rfl inMo 2 (by decide) kw_658 rfl rfl d_Mo_gap_54 ?_
            refine lv_iload_n Bx.1 Bx.2.1 d_Mo_gap_57 rfl (lv_at hl 0 rfl) ?_
            refine f_iald Bx hP (by omega) (show mem18 225 = .inl (cy 1, 240, .inl (A 225)) from hW19.2.2.1 225 (by decide) (by decide) (by decide)) (vp_in_nI (n := L) (by omega) (by decide)) d_Mo_gap_58 ?_
            rw [nI_clamp (n := L) (by omega)]
            refine lv_bipush (v := 32) Bx.1 Bx.2.1 d_Mo_gap_59 (by decide) ?_
            refine lv_icmp_ne Bx.1 Bx.2.1 d_Mo_gap_61 rfl (fun hb29 => ?_) (fun hb29 => ?_)
            · refine lv_iconst (v := 0) Bx.1 Bx.2.1 d_Mo_gap_68 (by decide) ?_
              refine lv_istore_n (lv' := [(1, .int (0)), (2, .int (nI L)), (0, .ref (ad 224))]) Bx.1 Bx.2.1 d_Mo_gap_69 rfl hl (by decide) rfl (fun ls hl => ?_)
              refine lv_iload_n Bx.1 Bx.2.1 d_Mo_gap_70 rfl (lv_at hl 0 rfl) ?_
              refine lv_if_eq Bx.1 Bx.2.1 d_Mo_gap_71 rfl (fun hb30 => ?_) (fun hb30 => ?_)
              · refine lv_goto Bx.1 Bx.2.1 d_Mo_gap_79 rfl ?_
                have hJe : J17 = va_up J 16 (nI (restF (A 225) L (a1))) := by rw [eJ17, eJ9, up_up]
                exact ih8 mem18 (J17) (restF (A 225) L (a1)) (0) _ _ _ (by have := hmeas9; omega) (⟨hJe, kk20, kk21⟩) (hW19) (⟨by omega, by omega⟩) (by omega) (⟨fun z => absurd z (by decide), fun _ => by rw [← hz7.1 (by omega), gapF, dif_neg (fun z => by first | exact absurd z.2.2.1 (by omega) | exact hb29 z.2.2.2 | exact hlf z)]⟩) hP hD hS (lv_sub hl [0, 2] rfl)
              · exact absurd hb30 (by decide)
            · refine lv_iconst (v := 1) Bx.1 Bx.2.1 d_Mo_gap_64 (by decide) ?_
              refine lv_goto Bx.1 Bx.2.1 d_Mo_gap_65 rfl ?_
              refine lv_istore_n (lv' := [(1, .int (1)), (2, .int (nI L)), (0, .ref (ad 224))]) Bx.1 Bx.2.1 d_Mo_gap_69 rfl hl (by decide) rfl (fun ls hl => ?_)
              refine lv_iload_n Bx.1 Bx.2.1 d_Mo_gap_70 rfl (lv_at hl 0 rfl) ?_
              refine lv_if_eq Bx.1 Bx.2.1 d_Mo_gap_71 rfl (fun hb31 => ?_) (fun hb31 => ?_)
              · exact absurd hb31 (by decide)
              · refine lv_aload_n Bx.1 Bx.2.1 d_Mo_gap_74 rfl (lv_at hl 2 rfl) ?_
                refine lv_iload_n Bx.1 Bx.2.1 d_Mo_gap_75 rfl (lv_at hl 1 rfl) ?_
                refine f_put Bx hP hD hS (by omega) hW19.1 rfl inMo tyMo okMo nmMo 16 (by decide) kw_672 rfl rfl rfl rfl (Nat.le_of_ble_eq_true rfl) d_Mo_gap_76 (fun H locs hP hS => ?_)
                obtain ⟨J32, eJ32⟩ : ∃ z, z = va_up J17 16 (nI L) := ⟨_, rfl⟩
                obtain ⟨mem33, e_mem33⟩ : ∃ z, z = va_up mem18 224 (moC ad J32) := ⟨_, rfl⟩
                have hP : va_P D vcl (fw n ad mem33) H := by rw [e_mem33, eJ32]; exact hP
                have hD : va_D (Az sz) (fw n ad mem33) := fw_D hD
                have hW34 : MW cy ad J32 A nm m0 mem33 := by rw [e_mem33]; exact hW19.upJ (by rw [eJ32]; exact va_up_ne _ _ (by decide))
                have kk35 : J32 1 = nI L := by rw [eJ32]; exact kk20
                have kk36 : J32 16 = nI L := by rw [eJ32, va_up_self]
                refine lv_goto Bx.1 Bx.2.1 d_Mo_gap_79 rfl ?_
                have hJe : J32 = va_up J 16 (nI (L)) := by rw [eJ32, eJ17, eJ9, up_up, up_up]
                exfalso; omega
        · have hlt37 := hereF_lt (by rw [hb24]; decide)
          have hlf : A 225 (restF (A 225) L (a1)) = 10 := by have := hb24; unfold hereF at this; rw [if_pos (by omega)] at this; exact this
          refine lv_aload_n Bx.1 Bx.2.1 d_Mo_gap_27 rfl (lv_at hl 1 rfl) ?_
          refine lv_aload_n Bx.1 Bx.2.1 d_Mo_gap_28 rfl (lv_at hl 1 rfl) ?_
          refine f_get Bx hP (by omega) hW19.1 rfl inMo 16 (by decide) kw_672 rfl rfl d_Mo_gap_29 ?_
          rw [kk21]
          refine lv_iconst (v := 1) Bx.1 Bx.2.1 d_Mo_gap_32 (by decide) ?_
          refine lv_iadd Bx.1 Bx.2.1 d_Mo_gap_33 ?_
          rw [show nI (restF (A 225) L (a1)) + 1 = nI (restF (A 225) L (a1) + 1) from nI_add (restF (A 225) L (a1)) (1)]
          refine f_callVi (na := 1) (As := [.int (nI (restF (A 225) L (a1) + 1))]) (rest := []) Bx hml E hP hD hS (by omega) hW19.1 rfl (m_Mo_lineX l hn hW19 kk20 hL (k0 := restF (A 225) L (a1) + 1) (by omega)) kw_770 kw_772 sel_Mo_line kw_8 kw_773 (by decide +kernel) ⟨rfl, rfl⟩ ⟨Nat.le_of_ble_eq_true rfl, Nat.le_of_ble_eq_true rfl⟩ rfl hl.1 (Nat.le_of_ble_eq_true rfl) d_Mo_gap_34 ⟨Nat.le_of_ble_eq_true rfl, Nat.le_of_ble_eq_true rfl⟩ (fun r38 mem39 H locs hq hP hS => ?_)
          have hD : va_D (Az sz) (fw n ad mem39) := fw_D hD
          obtain ⟨hre, hq⟩ := hq
          rw [hq] at hP hD
          subst hre
          have hlg40 := lineF_ge (A 225) (L := L) (k := restF (A 225) L (a1) + 1) (by omega)
          have hll41 := lineF_le (A 225) L (restF (A 225) L (a1) + 1)
          refine lv_goto Bx.1 Bx.2.1 d_Mo_gap_37 rfl ?_
          refine lv_istore_n (lv' := [(2, .int (nI (lineF (A 225) L (restF (A 225) L (a1) + 1)))), (1, .int (nI b)), (0, .ref (ad 224))]) Bx.1 Bx.2.1 d_Mo_gap_44 rfl hl (by decide) rfl (fun ls hl => ?_)
          refine lv_iload_n Bx.1 Bx.2.1 d_Mo_gap_45 rfl (lv_at hl 0 rfl) ?_
          refine lv_aload_n Bx.1 Bx.2.1 d_Mo_gap_46 rfl (lv_at hl 2 rfl) ?_
          refine f_get Bx hP (by omega) hW19.1 rfl inMo 1 (by decide) kw_657 rfl rfl d_Mo_gap_47 ?_
          rw [kk20]
          refine lv_icmp_ge Bx.1 Bx.2.1 d_Mo_gap_50 rfl (fun hb42 => ?_) (fun hb42 => ?_)
          · have hN43 : L ≤ lineF (A 225) L (restF (A 225) L (a1) + 1) := (nI_leI (by omega) (by omega)).mp (show nI (L) ≤ nI (lineF (A 225) L (restF (A 225) L (a1) + 1)) from hb42)
            refine lv_iconst (v := 0) Bx.1 Bx.2.1 d_Mo_gap_68 (by decide) ?_
            refine lv_istore_n (lv' := [(1, .int (0)), (2, .int (nI (lineF (A 225) L (restF (A 225) L (a1) + 1)))), (0, .ref (ad 224))]) Bx.1 Bx.2.1 d_Mo_gap_69 rfl hl (by decide) rfl (fun ls hl => ?_)
            refine lv_iload_n Bx.1 Bx.2.1 d_Mo_gap_70 rfl (lv_at hl 0 rfl) ?_
            refine lv_if_eq Bx.1 Bx.2.1 d_Mo_gap_71 rfl (fun hb44 => ?_) (fun hb44 => ?_)
            · refine lv_goto Bx.1 Bx.2.1 d_Mo_gap_79 rfl ?_
              have hJe : J17 = va_up J 16 (nI (restF (A 225) L (a1))) := by rw [eJ17, eJ9, up_up]
              exact ih8 mem18 (J17) (restF (A 225) L (a1)) (0) _ _ _ (by have := hmeas9; omega) (⟨hJe, kk20, kk21⟩) (hW19) (⟨by omega, by omega⟩) (by omega) (⟨fun z => absurd z (by decide), fun _ => by rw [← hz7.1 (by omega), gapF, dif_neg (fun z => by first | exact absurd z.2.2.1 (by omega) | exact hb24 z.2.2.2 | exact hlf z)]⟩) hP hD hS (lv_sub hl [0, 2] rfl)
            · exact absurd hb44 (by decide)
          · have hN45 : ¬ L ≤ lineF (A 225) L (restF (A 225) L (a1) + 1) := fun q9 => hb42 (show nI (L) ≤ nI (lineF (A 225) L (restF (A 225) L (a1) + 1)) from (nI_leI (by omega) (by omega)).mpr q9)
            refine lv_aload_n Bx.1 Bx.2.1 d_Mo_gap_53 rfl (lv_at hl 2 rfl) ?_
            refine f_get Bx hP (by omega) hW19.1 rfl inMo 2 (by decide) kw_658 rfl rfl d_Mo_gap_54 ?_
            refine lv_iload_n Bx.1 Bx.2.1 d_Mo_gap_57 rfl (lv_at hl 0 rfl) ?_
            refine f_iald Bx hP (by omega) (show mem18 225 = .inl (cy 1, 240, .inl (A 225)) from hW19.2.2.1 225 (by decide) (by decide) (by decide)) (vp_in_nI (n := lineF (A 225) L (restF (A 225) L (a1) + 1)) (by omega) (by decide)) d_Mo_gap_58 ?_
            rw [nI_clamp (n := lineF (A 225) L (restF (A 225) L (a1) + 1)) (by omega)]
            refine lv_bipush (v := 32) Bx.1 Bx.2.1 d_Mo_gap_59 (by decide) ?_
            refine lv_icmp_ne Bx.1 Bx.2.1 d_Mo_gap_61 rfl (fun hb46 => ?_) (fun hb46 => ?_)
            · refine lv_iconst (v := 0) Bx.1 Bx.2.1 d_Mo_gap_68 (by decide) ?_
              refine lv_istore_n (lv' := [(1, .int (0)), (2, .int (nI (lineF (A 225) L (restF (A 225) L (a1) + 1)))), (0, .ref (ad 224))]) Bx.1 Bx.2.1 d_Mo_gap_69 rfl hl (by decide) rfl (fun ls hl => ?_)
              refine lv_iload_n Bx.1 Bx.2.1 d_Mo_gap_70 rfl (lv_at hl 0 rfl) ?_
              refine lv_if_eq Bx.1 Bx.2.1 d_Mo_gap_71 rfl (fun hb47 => ?_) (fun hb47 => ?_)
              · refine lv_goto Bx.1 Bx.2.1 d_Mo_gap_79 rfl ?_
                have hJe : J17 = va_up J 16 (nI (restF (A 225) L (a1))) := by rw [eJ17, eJ9, up_up]
                exact ih8 mem18 (J17) (restF (A 225) L (a1)) (0) _ _ _ (by have := hmeas9; omega) (⟨hJe, kk20, kk21⟩) (hW19) (⟨by omega, by omega⟩) (by omega) (⟨fun z => absurd z (by decide), fun _ => by rw [← hz7.1 (by omega), gapF, dif_neg (fun z => by first | exact absurd z.2.2.1 (by omega) | exact hb46 z.2.2.2 | exact hlf z)]⟩) hP hD hS (lv_sub hl [0, 2] rfl)
              · exact absurd hb47 (by decide)
            · refine lv_iconst (v := 1) Bx.1 Bx.2.1 d_Mo_gap_64 (by decide) ?_
              refine lv_goto Bx.1 Bx.2.1 d_Mo_gap_65 rfl ?_
              refine lv_istore_n (lv' := [(1, .int (1)), (2, .int (nI (lineF (A 225) L (restF (A 225) L (a1) + 1)))), (0, .ref (ad 224))]) Bx.1 Bx.2.1 d_Mo_gap_69 rfl hl (by decide) rfl (fun ls hl => ?_)
              refine lv_iload_n Bx.1 Bx.2.1 d_Mo_gap_70 rfl (lv_at hl 0 rfl) ?_
              refine lv_if_eq Bx.1 Bx.2.1 d_Mo_gap_71 rfl (fun hb48 => ?_) (fun hb48 => ?_)
              · exact absurd hb48 (by decide)
              · refine lv_aload_n Bx.1 Bx.2.1 d_Mo_gap_74 rfl (lv_at hl 2 rfl) ?_
                refine lv_iload_n Bx.1 Bx.2.1 d_Mo_gap_75 rfl (lv_at hl 1 rfl) ?_
                refine f_put Bx hP hD hS (by omega) hW19.1 rfl inMo tyMo okMo nmMo 16 (by decide) kw_672 rfl rfl rfl rfl (Nat.le_of_ble_eq_true rfl) d_Mo_gap_76 (fun H locs hP hS => ?_)
                obtain ⟨J49, eJ49⟩ : ∃ z, z = va_up J17 16 (nI (lineF (A 225) L (restF (A 225) L (a1) + 1))) := ⟨_, rfl⟩
                obtain ⟨mem50, e_mem50⟩ : ∃ z, z = va_up mem18 224 (moC ad J49) := ⟨_, rfl⟩
                have hP : va_P D vcl (fw n ad mem50) H := by rw [e_mem50, eJ49]; exact hP
                have hD : va_D (Az sz) (fw n ad mem50) := fw_D hD
                have hW51 : MW cy ad J49 A nm m0 mem50 := by rw [e_mem50]; exact hW19.upJ (by rw [eJ49]; exact va_up_ne _ _ (by decide))
                have kk52 : J49 1 = nI L := by rw [eJ49]; exact kk20
                have kk53 : J49 16 = nI (lineF (A 225) L (restF (A 225) L (a1) + 1)) := by rw [eJ49, va_up_self]
                refine lv_goto Bx.1 Bx.2.1 d_Mo_gap_79 rfl ?_
                have hJe : J49 = va_up J 16 (nI (lineF (A 225) L (restF (A 225) L (a1) + 1))) := by rw [eJ49, eJ17, eJ9, up_up, up_up]
                exact ih8 mem50 (J49) (lineF (A 225) L (restF (A 225) L (a1) + 1)) (1) _ _ _ (by have := hmeas9; omega) (⟨hJe, kk52, kk53⟩) (hW51) (⟨by omega, by omega⟩) (by omega) (⟨fun _ => by rw [← hz7.1 (by omega)]; conv => rhs; rw [gapF, dif_pos ⟨by omega, hlf, by omega, hb46⟩], fun z => absurd z (by decide)⟩) hP hD hS (lv_sub hl [0, 2] rfl)
  exact loop1 _ mem (J) (a) (1) _ _ _ (Nat.lt_succ_self _) (⟨by rw [up_id J ha], h1, ha⟩) (hM) (⟨by omega, by omega⟩) (by omega) (⟨fun _ => rfl, fun z => absurd z (by decide)⟩) hP hD hS (lv_sub hl [0, 1] rfl)
