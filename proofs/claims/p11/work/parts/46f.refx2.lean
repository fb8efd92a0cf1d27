theorem lastN_end {nx : Nat → Int32} {n k : Nat} (h : nx k < 0) : lastN nx n k = k := by
  cases n with
  | zero => rfl
  | succ n => show (if nx k < 0 then k else _) = k; rw [if_pos h]
theorem lastN_on {nx : Nat → Int32} {n k j : Nat} (h : nx k = nI j) (hj : j < 2 ^ 31) : lastN nx (n + 1) k = lastN nx n j := by
  show (if nx k < 0 then k else lastN nx n (nx k).toNatClampNeg) = _
  rw [if_neg (by rw [h]; exact nI_pos hj), h, nI_clamp hj]
set_option maxHeartbeats 4000000 in
set_option maxRecDepth 100000 in
theorem m_Mo_appendX (l : Launch) {D : va_G} {cy : Nat → ClassId} {sz n : Nat} {ad : Nat → Nat} {mem : Nat → va_E} {J : Nat → Int32} {A : Nat → Nat → Int32} {nm : Nat → Int64} {m0 : Nat → va_E} {to pa Ec : Nat} (hn : 242 ≤ n) (hM : MW cy ad J A nm m0 mem) (hE : Ec ≤ 100) (hto : to < pa) (hpa : pa < Ec) (hLK : LK Ec A) (hCL : CL pa A) : MV l D cy sz n ad y_Mo_append c_Mo_append 4 ({ frames := 0, cells := 0, slots := 0, locals := 0 } : Room) mem [.ref (ad 224), .int (nI to), .int (nI pa)] (fun mem' => MW cy ad J (appS A to pa) nm m0 mem' ∧ apd A (appS A to pa) to pa) := by
  refine Met.ofW (cc := c_Mo_append) (maxL := 4) (ret := none) (by decide) rfl ?_
  intro p e s m args below meth c s₁ B hml hv
  obtain ⟨rfl, E, hP, hD⟩ := hv
  have hx := B.exec
  have hb := B.bytes
  have hr := B.returns
  have hlocks := B.notSynchronized
  have Bx : MB p s m [.ref (ad 224), .int (nI to), .int (nI pa)].toArray c c_Mo_append "AbnfChartModel" D cy := ⟨hx, hb, tb_all (atoms_spec B.pre) E.2.1, findClass_of_methodNamed B.named, E.1⟩
  have hS : va_S (Az sz) s.heap s.heap [] := va_S.rf
  have hl := lv_entry ([.ref (ad 224), .int (nI to), .int (nI pa)]) (n := 4) (Nat.le_of_ble_eq_true rfl)
  rw [lg_entry_eq]
  generalize (lg_sl ([.ref (ad 224), .int (nI to), .int (nI pa)]) ++ List.replicate (4 - (lg_sl ([.ref (ad 224), .int (nI to), .int (nI pa)])).length) Slot.unset).toArray = ls at hl ⊢
  have hl : lv_has ls 4 [(0, .ref (ad 224)), (1, .int (nI to)), (2, .int (nI pa))] := hl
  refine lv_aload_n Bx.1 Bx.2.1 d_Mo_append_0 rfl (lv_at hl 0 rfl) ?_
  refine f_get Bx hP (by omega) hM.1 rfl inMo 12 (by decide) kw_668 rfl rfl d_Mo_append_1 ?_
  refine lv_iload_n Bx.1 Bx.2.1 d_Mo_append_4 rfl (lv_at hl 1 rfl) ?_
  refine f_iald Bx hP (by omega) (show mem 232 = .inl (cy 1, 100, .inl (A 232)) from hM.2.2.1 232 (by decide) (by decide) (by decide)) (vp_in_nI (n := to) (by omega) (by decide)) d_Mo_append_5 ?_
  rw [nI_clamp (n := to) (by omega)]
  have hf := lkcl (hLK to (by omega)).1 (hCL to hto).1 (by omega) hE
  refine lv_if_ge Bx.1 Bx.2.1 d_Mo_append_6 rfl (fun hb1 => ?_) (fun hb1 => ?_)
  · rcases hf with hf | ⟨j0, hj1, hj2, hf⟩
    · exact absurd (by rw [hf]; exact lt_m1) (Int32.not_lt.mpr hb1)
    · refine lv_aload_n Bx.1 Bx.2.1 d_Mo_append_19 rfl (lv_at hl 0 rfl) ?_
      refine f_get Bx hP (by omega) hM.1 rfl inMo 12 (by decide) kw_668 rfl rfl d_Mo_append_20 ?_
      refine lv_iload_n Bx.1 Bx.2.1 d_Mo_append_23 rfl (lv_at hl 1 rfl) ?_
      refine f_iald Bx hP (by omega) (show mem 232 = .inl (cy 1, 100, .inl (A 232)) from hM.2.2.1 232 (by decide) (by decide) (by decide)) (vp_in_nI (n := to) (by omega) (by decide)) d_Mo_append_24 ?_
      rw [nI_clamp (n := to) (by omega)]
      rw [hf]
      refine lv_istore_n (lv' := [(3, .int (nI j0)), (0, .ref (ad 224)), (1, .int (nI to)), (2, .int (nI pa))]) Bx.1 Bx.2.1 d_Mo_append_25 rfl hl (by decide) rfl (fun ls hl => ?_)
      have loop2 : ∀ (d3 : Nat) (k : Nat) (m9 : Nat) (ls : Array Slot) (H : Heap) (locs : List Loc), (pa - k < d3) → (to < k ∧ k < pa ∧ lastN (A 233) m9 k = lastN (A 233) 100 j0) → (100 ≤ m9 + k) → (va_P D vcl (fw n ad mem) H) → (va_D (Az sz) (fw n ad mem)) → (va_S (Az sz) s.heap H locs) → (lv_has ls 4 [(3, .int (nI k)), (0, .ref (ad 224)), (1, .int (nI to)), (2, .int (nI pa))]) → W p l e (headSpec (Cond.code y_Mo_append c_Mo_append 4 none :: tg) ({ frames := 0, cells := 0, slots := 0, locals := 0 } : Room)).room s m [.ref (ad 224), .int (nI to), .int (nI pa)].toArray below meth c H locs 0 0 (MQ below (va_Qv (fun mem' => MW cy ad J (appS A to pa) nm m0 mem' ∧ apd A (appS A to pa) to pa) (PP D n ad) (Az sz)) [.ref (ad 224), .int (nI to), .int (nI pa)].toArray s 0 0 (Az sz)) (F0 m 26 ls []) := by
        intro d3
        induction d3 with
        | zero => intro k m9 ls H locs hmeas7; exact absurd hmeas7 (Nat.not_lt_zero _)
        | succ d3 ih6 =>
          intro k m9 ls H locs hmeas7 hz4 hz5 hP hD hS hl
          refine lv_aload_n Bx.1 Bx.2.1 d_Mo_append_26 rfl (lv_at hl 1 rfl) ?_
          refine f_get Bx hP (by omega) hM.1 rfl inMo 13 (by decide) kw_669 rfl rfl d_Mo_append_27 ?_
          refine lv_iload_n Bx.1 Bx.2.1 d_Mo_append_30 rfl (lv_at hl 0 rfl) ?_
          refine f_iald Bx hP (by omega) (show mem 233 = .inl (cy 1, 100, .inl (A 233)) from hM.2.2.1 233 (by decide) (by decide) (by decide)) (vp_in_nI (n := k) (by omega) (by decide)) d_Mo_append_31 ?_
          rw [nI_clamp (n := k) (by omega)]
          have hxx := lkcl (hLK k (by omega)).2 (hCL k (by omega)).2 (by omega) hE
          refine lv_if_lt Bx.1 Bx.2.1 d_Mo_append_32 rfl (fun hb8 => ?_) (fun hb8 => ?_)
          · have hla : lastN (A 233) 100 j0 = k := by rw [← hz4.2.2, lastN_end hb8]
            have hap9 : appS A to pa = va_up A 233 (upd (A 233) k (nI pa)) := by unfold appS; rw [hf, if_neg (nI_pos (by omega)), nI_clamp (by omega), hla]
            refine lv_aload_n Bx.1 Bx.2.1 d_Mo_append_45 rfl (lv_at hl 1 rfl) ?_
            refine f_get Bx hP (by omega) hM.1 rfl inMo 13 (by decide) kw_669 rfl rfl d_Mo_append_46 ?_
            refine lv_iload_n Bx.1 Bx.2.1 d_Mo_append_49 rfl (lv_at hl 0 rfl) ?_
            refine lv_iload_n Bx.1 Bx.2.1 d_Mo_append_50 rfl (lv_at hl 3 rfl) ?_
            refine f_iast (x := nI pa) (i := nI (k)) Bx hP hD hS (by omega) (show mem 233 = .inl (cy 1, 100, .inl (A 233)) from hM.2.2.1 233 (by decide) (by decide) (by decide)) (vp_in_nI (n := k) (by omega) (by decide)) d_Mo_append_51 (fun H locs hP hS => ?_)
            rw [nI_clamp (n := k) (by omega)] at hP
            obtain ⟨A9, eA9⟩ : ∃ z, z = va_up A 233 (upd (A 233) (k) (nI pa)) := ⟨_, rfl⟩
            obtain ⟨mem10, e_mem10⟩ : ∃ z, z = va_up mem 233 (.inl (cy 1, 100, .inl (upd (A 233) (k) (nI pa)))) := ⟨_, rfl⟩
            have hP : va_P D vcl (fw n ad mem10) H := by rw [e_mem10]; exact hP
            have hD : va_D (Az sz) (fw n ad mem10) := fw_D hD
            have hW11 : MW cy ad J A9 nm m0 mem10 := by rw [e_mem10, eA9]; exact hM.upA (j := 233) (by decide) (by decide) (by decide) (Or.inl (by decide))
            exact W.vret hx hb hr (fun t ht hW => ⟨⟨mem10, rfl, ⟨by rw [hap9, ← eA9]; exact hW11, Or.inr ⟨by rw [hf]; exact nI_m (by omega), k, by omega, by omega, hxx.resolve_right (fun ⟨j, _, _, q9⟩ => nI_pos (n := j) (by omega) (q9 ▸ hb8)), hap9⟩⟩, by show va_P _ _ _ t.heap; rw [ht]; exact hP⟩, hS.F ht⟩) hS.2.2 d_Mo_append_52
          · obtain ⟨j, hk1, hk2, hk3⟩ := hxx.resolve_left (fun q9 => hb8 (by rw [q9]; exact lt_m1))
            obtain ⟨m1, hm1⟩ : ∃ m1, m9 = m1 + 1 := ⟨m9 - 1, by omega⟩
            refine lv_aload_n Bx.1 Bx.2.1 d_Mo_append_35 rfl (lv_at hl 1 rfl) ?_
            refine f_get Bx hP (by omega) hM.1 rfl inMo 13 (by decide) kw_669 rfl rfl d_Mo_append_36 ?_
            refine lv_iload_n Bx.1 Bx.2.1 d_Mo_append_39 rfl (lv_at hl 0 rfl) ?_
            refine f_iald Bx hP (by omega) (show mem 233 = .inl (cy 1, 100, .inl (A 233)) from hM.2.2.1 233 (by decide) (by decide) (by decide)) (vp_in_nI (n := k) (by omega) (by decide)) d_Mo_append_40 ?_
            rw [nI_clamp (n := k) (by omega)]
            rw [hk3]
            refine lv_istore_n (lv' := [(3, .int (nI j)), (0, .ref (ad 224)), (1, .int (nI to)), (2, .int (nI pa))]) Bx.1 Bx.2.1 d_Mo_append_41 rfl hl (by decide) rfl (fun ls hl => ?_)
            refine lv_goto Bx.1 Bx.2.1 d_Mo_append_42 rfl ?_
            exact ih6 (j) (m1) _ _ _ (by have := hmeas7; omega) (⟨by omega, by omega, by rw [← hz4.2.2, hm1, lastN_on hk3 (by omega)]⟩) (by omega) hP hD hS (lv_sub hl [0, 1, 2, 3] rfl)
      exact loop2 _ (j0) (100) _ _ _ (Nat.lt_succ_self _) (⟨by omega, by omega, rfl⟩) (by omega) hP hD hS (lv_sub hl [0, 1, 2, 3] rfl)
  · have hm1 : A 232 to = -1 := hf.resolve_right (fun ⟨j, _, _, q9⟩ => absurd (nI_pos' (n := j) (by omega)) (q9 ▸ hb1))
    have hap9 : appS A to pa = va_up A 232 (upd (A 232) to (nI pa)) := by unfold appS; rw [if_pos (by rw [hm1]; exact lt_m1)]
    refine lv_aload_n Bx.1 Bx.2.1 d_Mo_append_9 rfl (lv_at hl 0 rfl) ?_
    refine f_get Bx hP (by omega) hM.1 rfl inMo 12 (by decide) kw_668 rfl rfl d_Mo_append_10 ?_
    refine lv_iload_n Bx.1 Bx.2.1 d_Mo_append_13 rfl (lv_at hl 1 rfl) ?_
    refine lv_iload_n Bx.1 Bx.2.1 d_Mo_append_14 rfl (lv_at hl 2 rfl) ?_
    refine f_iast (x := nI pa) (i := nI (to)) Bx hP hD hS (by omega) (show mem 232 = .inl (cy 1, 100, .inl (A 232)) from hM.2.2.1 232 (by decide) (by decide) (by decide)) (vp_in_nI (n := to) (by omega) (by decide)) d_Mo_append_15 (fun H locs hP hS => ?_)
    rw [nI_clamp (n := to) (by omega)] at hP
    obtain ⟨A12, eA12⟩ : ∃ z, z = va_up A 232 (upd (A 232) (to) (nI pa)) := ⟨_, rfl⟩
    obtain ⟨mem13, e_mem13⟩ : ∃ z, z = va_up mem 232 (.inl (cy 1, 100, .inl (upd (A 232) (to) (nI pa)))) := ⟨_, rfl⟩
    have hP : va_P D vcl (fw n ad mem13) H := by rw [e_mem13]; exact hP
    have hD : va_D (Az sz) (fw n ad mem13) := fw_D hD
    have hW14 : MW cy ad J A12 nm m0 mem13 := by rw [e_mem13, eA12]; exact hM.upA (j := 232) (by decide) (by decide) (by decide) (Or.inl (by decide))
    refine lv_goto Bx.1 Bx.2.1 d_Mo_append_16 rfl ?_
    exact W.vret hx hb hr (fun t ht hW => ⟨⟨mem13, rfl, ⟨by rw [hap9, ← eA12]; exact hW14, Or.inl ⟨hm1, hap9⟩⟩, by show va_P _ _ _ t.heap; rw [ht]; exact hP⟩, hS.F ht⟩) hS.2.2 d_Mo_append_52
