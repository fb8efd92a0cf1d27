def LI (cy : Nat → ClassId) (ad : Nat → Nat) (mem : Nat → va_E) : Prop :=
  mem 0 = .inr (6, [.ref (ad 1), .ref (ad 3), .ref (ad 5), .ref (ad 222), .ref (ad 223)]) ∧ mem 1 = .inr (0, [.ref (ad 2), .int 0]) ∧ mem 2 = .inl (cy 0, 240, .inl (fun _ => 0)) ∧ mem 3 = .inr (0, [.ref (ad 4), .int 0]) ∧ mem 4 = .inl (cy 0, 24, .inl (fun _ => 0)) ∧ mem 5 = .inr (3, [.ref (ad 6), .ref (ad 19), .ref (ad 220), .int 0, .int 0, .int 0]) ∧ mem 220 = .inr (0, [.ref (ad 221), .int 0]) ∧ mem 222 = .inr (4, [.ref (ad 1), .ref (ad 5), .int 0, .int (-1)]) ∧ mem 223 = .inr (1, [.ref (ad 3), .ref (ad 5), .int 0]) ∧ mem 224 = moC ad J0 ∧ mem 225 = .inl (cy 1, 240, .inl (fun _ => 0)) ∧ mem 240 = .inl (cy 1, 24, .inl (fun _ => 0)) ∧ mem 242 = .inl (cy 2, 1, .inr (.inl (fun _ => 0)))
set_option maxHeartbeats 200000 in
set_option maxRecDepth 100000 in
theorem k_write {p : Program} {e : Env} {s : State} {m : MethodId} {below : List Frame} {meth : Method} {c : Code} (l : Launch) {D : va_G} {cy : Nat → ClassId} {sz n b : Nat} {ad : Nat → Nat} {mem : Nat → va_E} {xs : Nat → Int32} {H : Heap} {locs : List Loc} {ls : Array Slot} {Q : State → Prop} (hlt : l.stackTraces = false) (Bx : MB p s m #[Value.ref b] c c_Lw_law "AbnfChartLaw" D cy) (hml : c.maxLocals = 7) (E : EV D cy sz s) (hn : 243 ≤ n) (hX : va_X b 4 xs s s.heap) (hbl : b < s.heap.size) (hbA : ¬ Az sz b) (hI : LI cy ad mem) (hP : va_P D vcl (fw n ad mem) H) (hD : va_D (Az sz) (fw n ad mem)) (hS : va_S (Az sz) s.heap H locs) (hl : lv_has ls 7 [(4, .int (0)), (3, .ref (ad 242)), (2, .ref (ad 224)), (1, .ref (ad 0)), (0, .ref (b))])
    (K : ∀ (ls : Array Slot) (H : Heap) (locs : List Loc), va_S (Az sz) s.heap H locs → lv_has ls 7 [(4, .int 0), (0, .ref b)] → W p l e room_1 s m #[Value.ref b] below meth c H locs 600002 7302232 Q (F0 m 734 ls [])) : W p l e room_1 s m #[Value.ref b] below meth c H locs 243 7734 Q (F0 m 96 ls []) := by
  obtain ⟨h0, h1, h2, h3, h4, h5, h6, h9, hc, hm, ht, hi, ho⟩ := hI
  refine lv_aload_n Bx.1 Bx.2.1 d_Lw_law_96 rfl (lv_at hl 3 rfl) ?_
  refine lv_aload_n Bx.1 Bx.2.1 d_Lw_law_97 rfl (lv_at hl 4 rfl) ?_
  refine lv_iload Bx.1 Bx.2.1 d_Lw_law_98 (lv_at hl 0 rfl) ?_
  refine lv_iconst (v := 1) Bx.1 Bx.2.1 d_Lw_law_100 (by decide) ?_
  refine lv_iadd Bx.1 Bx.2.1 d_Lw_law_101 ?_
  refine f_sld Bx.1 Bx.2.1 hX hbl hbA hS 1 (by decide) (by decide) (by decide) d_Lw_law_102 ?_
  refine lv_i2l Bx.1 Bx.2.1 d_Lw_law_103 rfl ?_
  refine lv_bipush (v := 32) Bx.1 Bx.2.1 d_Lw_law_104 (by decide) ?_
  refine lv_lshl Bx.1 Bx.2.1 d_Lw_law_106 rfl ?_
  refine lv_aload_n Bx.1 Bx.2.1 d_Lw_law_107 rfl (lv_at hl 4 rfl) ?_
  refine lv_iload Bx.1 Bx.2.1 d_Lw_law_108 (lv_at hl 0 rfl) ?_
  refine lv_iconst (v := 2) Bx.1 Bx.2.1 d_Lw_law_110 (by decide) ?_
  refine lv_iadd Bx.1 Bx.2.1 d_Lw_law_111 ?_
  refine f_sld Bx.1 Bx.2.1 hX hbl hbA hS 2 (by decide) (by decide) (by decide) d_Lw_law_112 ?_
  refine lv_i2l Bx.1 Bx.2.1 d_Lw_law_113 rfl ?_
  refine lv_ldc2 Bx.1 Bx.2.1 Bx.2.2.2.1 (Bx.2.2.1 _ (tb_g kw_914 rfl)) d_Lw_law_114 ?_
  refine lv_land Bx.1 Bx.2.1 d_Lw_law_117 ?_
  refine lv_lor Bx.1 Bx.2.1 d_Lw_law_118 ?_
  refine lv_aload_n Bx.1 Bx.2.1 d_Lw_law_119 rfl (lv_at hl 4 rfl) ?_
  refine lv_iload Bx.1 Bx.2.1 d_Lw_law_120 (lv_at hl 0 rfl) ?_
  refine lv_iconst (v := 3) Bx.1 Bx.2.1 d_Lw_law_122 (by decide) ?_
  refine lv_iadd Bx.1 Bx.2.1 d_Lw_law_123 ?_
  refine f_sld Bx.1 Bx.2.1 hX hbl hbA hS 3 (by decide) (by decide) (by decide) d_Lw_law_124 ?_
  refine lv_aload_n Bx.1 Bx.2.1 d_Lw_law_125 rfl (lv_at hl 1 rfl) ?_
  refine f_callL (na := 4) (As := [.ref (ad 0), .long (((xs 1).toInt64) <<< ((32 : Int32).toInt64 &&& 63) ||| (xs 2).toInt64 &&& 4294967295), .int (xs 3), .ref (ad 242)]) (rest := []) Bx hml E hP hD hS (m_Lw_write l (Z := 0) hlt hn h0 ho h1 h2 (by decide)) kw_210 kw_211 kw_0 kw_212 (by decide +kernel) ⟨rfl, rfl⟩ ⟨Nat.le_of_ble_eq_true rfl, Nat.le_of_ble_eq_true rfl⟩ rfl hl.1 (Nat.le_of_ble_eq_true rfl) d_Lw_law_126 ⟨Nat.le_of_ble_eq_true rfl, Nat.le_of_ble_eq_true rfl⟩ (fun r9 mem9 H locs hq hP hS => ?_)
  have hD : va_D (Az sz) (fw n ad mem9) := fw_D hD
  have hA : ∃ ou9 : Nat → Int64, mem9 242 = .inl (cy 2, 1, .inr (.inl ou9)) ∧ mem9 224 = moC ad J0 ∧ mem9 225 = .inl (cy 1, 240, .inl (fun _ => 0)) ∧ HC okT 240 (((xs 1).toInt64) <<< ((32 : Int32).toInt64 &&& 63) ||| (xs 2).toInt64 &&& 4294967295) (xs 3) r9 (ou9 0) := by
    rcases hq with ⟨hr, N, hk, hN1, hN8, ha, hroom, hm9⟩ | ⟨hr, hm9, hk⟩ | ⟨hr, hm9, hk⟩
    · exact ⟨_, by rw [hm9, va_up_self], by rw [hm9]; unfold chM; rw [va_up_ne _ _ (by decide), va_up_ne _ _ (by decide), va_up_ne _ _ (by decide)]; exact hm, by rw [hm9]; unfold chM; rw [va_up_ne _ _ (by decide), va_up_ne _ _ (by decide), va_up_ne _ _ (by decide)]; exact ht, Or.inl ⟨hr, N, hk, hN1, hN8, ha, hroom, rfl⟩⟩
    · exact ⟨_, by rw [hm9]; exact ho, by rw [hm9]; exact hm, by rw [hm9]; exact ht, Or.inr (Or.inl ⟨hr, hk⟩)⟩
    · exact ⟨_, by rw [hm9]; exact ho, by rw [hm9]; exact hm, by rw [hm9]; exact ht, Or.inr (Or.inr ⟨hr, hk⟩)⟩
  obtain ⟨ou9, ho9, hm9, ht9, hC⟩ := hA
  refine lv_istore (lv' := [(5, .int (r9)), (4, .int (0)), (3, .ref (ad 242)), (2, .ref (ad 224)), (1, .ref (ad 0)), (0, .ref (b))]) Bx.1 Bx.2.1 d_Lw_law_129 hl (by decide) rfl (fun ls hl => ?_)
  refine lv_aload_n Bx.1 Bx.2.1 d_Lw_law_131 rfl (lv_at hl 3 rfl) ?_
  refine lv_aload_n Bx.1 Bx.2.1 d_Lw_law_132 rfl (lv_at hl 5 rfl) ?_
  refine lv_iload Bx.1 Bx.2.1 d_Lw_law_133 (lv_at hl 1 rfl) ?_
  refine lv_iconst (v := 1) Bx.1 Bx.2.1 d_Lw_law_135 (by decide) ?_
  refine lv_iadd Bx.1 Bx.2.1 d_Lw_law_136 ?_
  refine f_sld Bx.1 Bx.2.1 hX hbl hbA hS 1 (by decide) (by decide) (by decide) d_Lw_law_137 ?_
  refine lv_i2l Bx.1 Bx.2.1 d_Lw_law_138 rfl ?_
  refine lv_bipush (v := 32) Bx.1 Bx.2.1 d_Lw_law_139 (by decide) ?_
  refine lv_lshl Bx.1 Bx.2.1 d_Lw_law_141 rfl ?_
  refine lv_aload_n Bx.1 Bx.2.1 d_Lw_law_142 rfl (lv_at hl 5 rfl) ?_
  refine lv_iload Bx.1 Bx.2.1 d_Lw_law_143 (lv_at hl 1 rfl) ?_
  refine lv_iconst (v := 2) Bx.1 Bx.2.1 d_Lw_law_145 (by decide) ?_
  refine lv_iadd Bx.1 Bx.2.1 d_Lw_law_146 ?_
  refine f_sld Bx.1 Bx.2.1 hX hbl hbA hS 2 (by decide) (by decide) (by decide) d_Lw_law_147 ?_
  refine lv_i2l Bx.1 Bx.2.1 d_Lw_law_148 rfl ?_
  refine lv_ldc2 Bx.1 Bx.2.1 Bx.2.2.2.1 (Bx.2.2.1 _ (tb_g kw_914 rfl)) d_Lw_law_149 ?_
  refine lv_land Bx.1 Bx.2.1 d_Lw_law_152 ?_
  refine lv_lor Bx.1 Bx.2.1 d_Lw_law_153 ?_
  refine lv_aload_n Bx.1 Bx.2.1 d_Lw_law_154 rfl (lv_at hl 5 rfl) ?_
  refine lv_iload Bx.1 Bx.2.1 d_Lw_law_155 (lv_at hl 1 rfl) ?_
  refine lv_iconst (v := 3) Bx.1 Bx.2.1 d_Lw_law_157 (by decide) ?_
  refine lv_iadd Bx.1 Bx.2.1 d_Lw_law_158 ?_
  refine f_sld Bx.1 Bx.2.1 hX hbl hbA hS 3 (by decide) (by decide) (by decide) d_Lw_law_159 ?_
  refine f_callVi (na := 2) (As := [.long (((xs 1).toInt64) <<< ((32 : Int32).toInt64 &&& 63) ||| (xs 2).toInt64 &&& 4294967295), .int (xs 3)]) (rest := []) Bx hml E hP hD hS (by omega) hm9 rfl (m_Mo_write l (Z := 0) (by omega) hm9 (show J0 1 = nI 0 from rfl) (by decide) ht9) kw_750 kw_751 kw_752 kw_8 kw_753 (by decide +kernel) ⟨rfl, rfl⟩ ⟨Nat.le_of_ble_eq_true rfl, Nat.le_of_ble_eq_true rfl⟩ rfl hl.1 (Nat.le_of_ble_eq_true rfl) d_Lw_law_160 ⟨Nat.le_of_ble_eq_true rfl, Nat.le_of_ble_eq_true rfl⟩ (fun r1 mem2 H locs hq2 hP hS => ?_)
  have hD : va_D (Az sz) (fw n ad mem2) := fw_D hD
  have hB : ∃ J' : Nat → Int32, mem2 242 = .inl (cy 2, 1, .inr (.inl ou9)) ∧ mem2 224 = moC ad J' ∧ HM okT 240 (((xs 1).toInt64) <<< ((32 : Int32).toInt64 &&& 63) ||| (xs 2).toInt64 &&& 4294967295) (xs 3) r1 (J' 0) := by
    rcases hq2 with ⟨hk, hr, J', hm', hJ⟩ | ⟨M, hM, hM1, hM8, ⟨ha, hr, J', hm', hJ⟩ | ⟨ha, hc', hr, J', hm', hJ⟩ | ⟨ha, hc', hr, J', hm', hJ, -⟩⟩
    · exact ⟨J', by rw [hm', va_up_ne _ _ (by decide)]; exact ho9, by rw [hm', va_up_self], Or.inl ⟨hk, hr, hJ.1⟩⟩
    · exact ⟨J', by rw [hm', va_up_ne _ _ (by decide)]; exact ho9, by rw [hm', va_up_self], Or.inr ⟨M, hM, hM1, hM8, Or.inl ⟨ha, hr, hJ.1⟩⟩⟩
    · exact ⟨J', by rw [hm', va_up_ne _ _ (by decide)]; exact ho9, by rw [hm', va_up_self], Or.inr ⟨M, hM, hM1, hM8, Or.inr (Or.inl ⟨ha, hc', hr, hJ.1⟩)⟩⟩
    · exact ⟨J', by rw [hm', va_up_ne _ _ (by decide), va_up_ne _ _ (by decide)]; exact ho9, by rw [hm', va_up_self], Or.inr ⟨M, hM, hM1, hM8, Or.inr (Or.inr ⟨ha, hc', hr, hJ⟩)⟩⟩
  obtain ⟨J', ho10, hm10, hM⟩ := hB
  have hag := agree hC hM
  refine lv_istore (lv' := [(6, .int (r1)), (5, .int (r9)), (4, .int (0)), (3, .ref (ad 242)), (2, .ref (ad 224)), (1, .ref (ad 0)), (0, .ref (b))]) Bx.1 Bx.2.1 d_Lw_law_163 hl (by decide) rfl (fun ls hl => ?_)
  refine lv_aload_n Bx.1 Bx.2.1 d_Lw_law_165 rfl (lv_at hl 4 rfl) ?_
  refine f_callVi (na := 0) (As := []) (rest := []) Bx hml E hP hD hS (by omega) hm10 rfl (m_Mo_thrown l (by omega) hm10) kw_746 kw_747 kw_748 kw_8 kw_749 (by decide +kernel) ⟨rfl, rfl⟩ ⟨Nat.le_of_ble_eq_true rfl, Nat.le_of_ble_eq_true rfl⟩ rfl hl.1 (Nat.le_of_ble_eq_true rfl) d_Lw_law_166 ⟨Nat.le_of_ble_eq_true rfl, Nat.le_of_ble_eq_true rfl⟩ (fun r3 mem4 H locs hq3 hP hS => ?_)
  obtain ⟨hr3, mem4e⟩ := hq3
  rw [mem4e] at hP
  refine lv_iload Bx.1 Bx.2.1 d_Lw_law_169 (lv_at hl 1 rfl) ?_
  refine lv_icmp_eq Bx.1 Bx.2.1 d_Lw_law_171 rfl (fun h => ?_) (fun h => ?_)
  · refine lv_iload Bx.1 Bx.2.1 d_Lw_law_176 (lv_at hl 1 rfl) ?_
    refine lv_if_ne Bx.1 Bx.2.1 d_Lw_law_178 rfl (fun h => ?_) (fun h => ?_)
    · refine lv_goto Bx.1 Bx.2.1 d_Lw_law_193 rfl ?_
      exact W.widen (Nat.le_of_ble_eq_true rfl) (Nat.le_of_ble_eq_true rfl) (K _ _ _ hS (lv_sub hl [2, 6] rfl))
    · have hz : r9 = 0 := by first | exact h | exact Classical.byContradiction h | exact Decidable.of_not_not h
      refine lv_aload_n Bx.1 Bx.2.1 d_Lw_law_181 rfl (lv_at hl 3 rfl) ?_
      refine lv_iconst (v := 0) Bx.1 Bx.2.1 d_Lw_law_182 (by decide) ?_
      refine f_lald (i := 0) Bx hP (by omega) ho10 (vp_in_nI (n := 0) (by decide) (by decide)) d_Lw_law_183 ?_
      refine lv_iload Bx.1 Bx.2.1 d_Lw_law_184 (lv_at hl 0 rfl) ?_
      refine lv_i2l Bx.1 Bx.2.1 d_Lw_law_186 rfl ?_
      refine W.lcmp Bx.1 Bx.2.1 d_Lw_law_187 ?_
      refine lv_if_eq Bx.1 Bx.2.1 d_Lw_law_188 rfl (fun h => ?_) (fun h => ?_)
      · refine lv_goto Bx.1 Bx.2.1 d_Lw_law_193 rfl ?_
        exact W.widen (Nat.le_of_ble_eq_true rfl) (Nat.le_of_ble_eq_true rfl) (K _ _ _ hS (lv_sub hl [2, 6] rfl))
      · exact absurd ((lg_cmp_eq _ _).mpr (hag.2 hz)) h
  · exact absurd (hr3.trans hag.1) h
set_option maxHeartbeats 200000 in
set_option maxRecDepth 100000 in
theorem k_give {p : Program} {e : Env} {s : State} {m : MethodId} {below : List Frame} {meth : Method} {c : Code} (l : Launch) {D : va_G} {cy : Nat → ClassId} {sz n b : Nat} {ad : Nat → Nat} {mem : Nat → va_E} {xs : Nat → Int32} {H : Heap} {locs : List Loc} {ls : Array Slot} {Q : State → Prop} (hlt : l.stackTraces = false) (Bx : MB p s m #[Value.ref b] c c_Lw_law "AbnfChartLaw" D cy) (hml : c.maxLocals = 7) (E : EV D cy sz s) (hn : 243 ≤ n) (hX : va_X b 4 xs s s.heap) (hbl : b < s.heap.size) (hbA : ¬ Az sz b) (hI : LI cy ad mem) (hP : va_P D vcl (fw n ad mem) H) (hD : va_D (Az sz) (fw n ad mem)) (hS : va_S (Az sz) s.heap H locs) (hl : lv_has ls 7 [(4, .int (0)), (3, .ref (ad 242)), (2, .ref (ad 224)), (1, .ref (ad 0)), (0, .ref (b))])
    (K : ∀ (ls : Array Slot) (H : Heap) (locs : List Loc), va_S (Az sz) s.heap H locs → lv_has ls 7 [(4, .int 0), (0, .ref b)] → W p l e room_1 s m #[Value.ref b] below meth c H locs 600002 7302232 Q (F0 m 734 ls [])) : W p l e room_1 s m #[Value.ref b] below meth c H locs 243 7734 Q (F0 m 354 ls []) := by
  obtain ⟨h0, h1, h2, h3, h4, h5, h6, h9, hc, hm, ht, hi, ho⟩ := hI
  refine lv_aload_n Bx.1 Bx.2.1 d_Lw_law_354 rfl (lv_at hl 3 rfl) ?_
  refine lv_aload_n Bx.1 Bx.2.1 d_Lw_law_355 rfl (lv_at hl 4 rfl) ?_
  refine lv_iload Bx.1 Bx.2.1 d_Lw_law_356 (lv_at hl 0 rfl) ?_
  refine lv_iconst (v := 1) Bx.1 Bx.2.1 d_Lw_law_358 (by decide) ?_
  refine lv_iadd Bx.1 Bx.2.1 d_Lw_law_359 ?_
  refine f_sld Bx.1 Bx.2.1 hX hbl hbA hS 1 (by decide) (by decide) (by decide) d_Lw_law_360 ?_
  refine lv_i2l Bx.1 Bx.2.1 d_Lw_law_361 rfl ?_
  refine lv_bipush (v := 32) Bx.1 Bx.2.1 d_Lw_law_362 (by decide) ?_
  refine lv_lshl Bx.1 Bx.2.1 d_Lw_law_364 rfl ?_
  refine lv_aload_n Bx.1 Bx.2.1 d_Lw_law_365 rfl (lv_at hl 4 rfl) ?_
  refine lv_iload Bx.1 Bx.2.1 d_Lw_law_366 (lv_at hl 0 rfl) ?_
  refine lv_iconst (v := 2) Bx.1 Bx.2.1 d_Lw_law_368 (by decide) ?_
  refine lv_iadd Bx.1 Bx.2.1 d_Lw_law_369 ?_
  refine f_sld Bx.1 Bx.2.1 hX hbl hbA hS 2 (by decide) (by decide) (by decide) d_Lw_law_370 ?_
  refine lv_i2l Bx.1 Bx.2.1 d_Lw_law_371 rfl ?_
  refine lv_ldc2 Bx.1 Bx.2.1 Bx.2.2.2.1 (Bx.2.2.1 _ (tb_g kw_914 rfl)) d_Lw_law_372 ?_
  refine lv_land Bx.1 Bx.2.1 d_Lw_law_375 ?_
  refine lv_lor Bx.1 Bx.2.1 d_Lw_law_376 ?_
  refine lv_aload_n Bx.1 Bx.2.1 d_Lw_law_377 rfl (lv_at hl 4 rfl) ?_
  refine lv_iload Bx.1 Bx.2.1 d_Lw_law_378 (lv_at hl 0 rfl) ?_
  refine lv_iconst (v := 3) Bx.1 Bx.2.1 d_Lw_law_380 (by decide) ?_
  refine lv_iadd Bx.1 Bx.2.1 d_Lw_law_381 ?_
  refine f_sld Bx.1 Bx.2.1 hX hbl hbA hS 3 (by decide) (by decide) (by decide) d_Lw_law_382 ?_
  refine lv_aload_n Bx.1 Bx.2.1 d_Lw_law_383 rfl (lv_at hl 1 rfl) ?_
  refine f_callL (na := 4) (As := [.ref (ad 0), .long (((xs 1).toInt64) <<< ((32 : Int32).toInt64 &&& 63) ||| (xs 2).toInt64 &&& 4294967295), .int (xs 3), .ref (ad 242)]) (rest := []) Bx hml E hP hD hS (m_Lw_give l (Z := 0) hlt hn h0 ho h3 h4 (by decide) hc) kw_530 kw_531 kw_0 kw_532 (by decide +kernel) ⟨rfl, rfl⟩ ⟨Nat.le_of_ble_eq_true rfl, Nat.le_of_ble_eq_true rfl⟩ rfl hl.1 (Nat.le_of_ble_eq_true rfl) d_Lw_law_384 ⟨Nat.le_of_ble_eq_true rfl, Nat.le_of_ble_eq_true rfl⟩ (fun r9 mem9 H locs hq hP hS => ?_)
  have hD : va_D (Az sz) (fw n ad mem9) := fw_D hD
  have hA : ∃ ou9 : Nat → Int64, mem9 242 = .inl (cy 2, 1, .inr (.inl ou9)) ∧ mem9 224 = moC ad J0 ∧ mem9 240 = .inl (cy 1, 24, .inl (fun _ => 0)) ∧ HC okI 24 (((xs 1).toInt64) <<< ((32 : Int32).toInt64 &&& 63) ||| (xs 2).toInt64 &&& 4294967295) (xs 3) r9 (ou9 0) := by
    rcases hq with ⟨hr, N, hk, hN1, hN8, ha, hroom, hm9⟩ | ⟨hr, hm9, hk⟩ | ⟨hr, hm9, hk⟩
    · exact ⟨_, by rw [hm9, va_up_self], by rw [hm9]; unfold chM; rw [va_up_ne _ _ (by decide), va_up_ne _ _ (by decide), va_up_ne _ _ (by decide), va_up_ne _ _ (by decide)]; exact hm, by rw [hm9]; unfold chM; rw [va_up_ne _ _ (by decide), va_up_ne _ _ (by decide), va_up_ne _ _ (by decide), va_up_ne _ _ (by decide)]; exact hi, Or.inl ⟨hr, N, hk, hN1, hN8, ha, hroom, rfl⟩⟩
    · exact ⟨_, by rw [hm9]; exact ho, by rw [hm9]; exact hm, by rw [hm9]; exact hi, Or.inr (Or.inl ⟨hr, hk⟩)⟩
    · exact ⟨_, by rw [hm9]; exact ho, by rw [hm9]; exact hm, by rw [hm9]; exact hi, Or.inr (Or.inr ⟨hr, hk⟩)⟩
  obtain ⟨ou9, ho9, hm9, ht9, hC⟩ := hA
  refine lv_istore (lv' := [(5, .int (r9)), (4, .int (0)), (3, .ref (ad 242)), (2, .ref (ad 224)), (1, .ref (ad 0)), (0, .ref (b))]) Bx.1 Bx.2.1 d_Lw_law_387 hl (by decide) rfl (fun ls hl => ?_)
  refine lv_aload_n Bx.1 Bx.2.1 d_Lw_law_389 rfl (lv_at hl 3 rfl) ?_
  refine lv_aload_n Bx.1 Bx.2.1 d_Lw_law_390 rfl (lv_at hl 5 rfl) ?_
  refine lv_iload Bx.1 Bx.2.1 d_Lw_law_391 (lv_at hl 1 rfl) ?_
  refine lv_iconst (v := 1) Bx.1 Bx.2.1 d_Lw_law_393 (by decide) ?_
  refine lv_iadd Bx.1 Bx.2.1 d_Lw_law_394 ?_
  refine f_sld Bx.1 Bx.2.1 hX hbl hbA hS 1 (by decide) (by decide) (by decide) d_Lw_law_395 ?_
  refine lv_i2l Bx.1 Bx.2.1 d_Lw_law_396 rfl ?_
  refine lv_bipush (v := 32) Bx.1 Bx.2.1 d_Lw_law_397 (by decide) ?_
  refine lv_lshl Bx.1 Bx.2.1 d_Lw_law_399 rfl ?_
  refine lv_aload_n Bx.1 Bx.2.1 d_Lw_law_400 rfl (lv_at hl 5 rfl) ?_
  refine lv_iload Bx.1 Bx.2.1 d_Lw_law_401 (lv_at hl 1 rfl) ?_
  refine lv_iconst (v := 2) Bx.1 Bx.2.1 d_Lw_law_403 (by decide) ?_
  refine lv_iadd Bx.1 Bx.2.1 d_Lw_law_404 ?_
  refine f_sld Bx.1 Bx.2.1 hX hbl hbA hS 2 (by decide) (by decide) (by decide) d_Lw_law_405 ?_
  refine lv_i2l Bx.1 Bx.2.1 d_Lw_law_406 rfl ?_
  refine lv_ldc2 Bx.1 Bx.2.1 Bx.2.2.2.1 (Bx.2.2.1 _ (tb_g kw_914 rfl)) d_Lw_law_407 ?_
  refine lv_land Bx.1 Bx.2.1 d_Lw_law_410 ?_
  refine lv_lor Bx.1 Bx.2.1 d_Lw_law_411 ?_
  refine lv_aload_n Bx.1 Bx.2.1 d_Lw_law_412 rfl (lv_at hl 5 rfl) ?_
  refine lv_iload Bx.1 Bx.2.1 d_Lw_law_413 (lv_at hl 1 rfl) ?_
  refine lv_iconst (v := 3) Bx.1 Bx.2.1 d_Lw_law_415 (by decide) ?_
  refine lv_iadd Bx.1 Bx.2.1 d_Lw_law_416 ?_
  refine f_sld Bx.1 Bx.2.1 hX hbl hbA hS 3 (by decide) (by decide) (by decide) d_Lw_law_417 ?_
  refine f_callVi (na := 2) (As := [.long (((xs 1).toInt64) <<< ((32 : Int32).toInt64 &&& 63) ||| (xs 2).toInt64 &&& 4294967295), .int (xs 3)]) (rest := []) Bx hml E hP hD hS (by omega) hm9 rfl (m_Mo_give l (Z := 0) (by omega) hm9 (show J0 24 = nI 0 from rfl) (by decide) ht9) kw_865 kw_866 kw_867 kw_8 kw_868 (by decide +kernel) ⟨rfl, rfl⟩ ⟨Nat.le_of_ble_eq_true rfl, Nat.le_of_ble_eq_true rfl⟩ rfl hl.1 (Nat.le_of_ble_eq_true rfl) d_Lw_law_418 ⟨Nat.le_of_ble_eq_true rfl, Nat.le_of_ble_eq_true rfl⟩ (fun r1 mem2 H locs hq2 hP hS => ?_)
  have hD : va_D (Az sz) (fw n ad mem2) := fw_D hD
  have hB : ∃ J' : Nat → Int32, mem2 242 = .inl (cy 2, 1, .inr (.inl ou9)) ∧ mem2 224 = moC ad J' ∧ HM okI 24 (((xs 1).toInt64) <<< ((32 : Int32).toInt64 &&& 63) ||| (xs 2).toInt64 &&& 4294967295) (xs 3) r1 (J' 0) := by
    rcases hq2 with ⟨hk, hr, J', hm', hJ⟩ | ⟨M, hM, hM1, hM8, ⟨ha, hr, J', hm', hJ⟩ | ⟨ha, hc', hr, J', hm', hJ⟩ | ⟨ha, hc', hr, J', hm', hJ, -⟩⟩
    · exact ⟨J', by rw [hm', va_up_ne _ _ (by decide)]; exact ho9, by rw [hm', va_up_self], Or.inl ⟨hk, hr, hJ.1⟩⟩
    · exact ⟨J', by rw [hm', va_up_ne _ _ (by decide)]; exact ho9, by rw [hm', va_up_self], Or.inr ⟨M, hM, hM1, hM8, Or.inl ⟨ha, hr, hJ.1⟩⟩⟩
    · exact ⟨J', by rw [hm', va_up_ne _ _ (by decide)]; exact ho9, by rw [hm', va_up_self], Or.inr ⟨M, hM, hM1, hM8, Or.inr (Or.inl ⟨ha, hc', hr, hJ.1⟩)⟩⟩
    · exact ⟨J', by rw [hm', va_up_ne _ _ (by decide), va_up_ne _ _ (by decide)]; exact ho9, by rw [hm', va_up_self], Or.inr ⟨M, hM, hM1, hM8, Or.inr (Or.inr ⟨ha, hc', hr, hJ⟩)⟩⟩
  obtain ⟨J', ho10, hm10, hM⟩ := hB
  have hag := agree hC hM
  refine lv_istore (lv' := [(6, .int (r1)), (5, .int (r9)), (4, .int (0)), (3, .ref (ad 242)), (2, .ref (ad 224)), (1, .ref (ad 0)), (0, .ref (b))]) Bx.1 Bx.2.1 d_Lw_law_421 hl (by decide) rfl (fun ls hl => ?_)
  refine lv_aload_n Bx.1 Bx.2.1 d_Lw_law_423 rfl (lv_at hl 4 rfl) ?_
  refine f_callVi (na := 0) (As := []) (rest := []) Bx hml E hP hD hS (by omega) hm10 rfl (m_Mo_thrown l (by omega) hm10) kw_746 kw_747 kw_748 kw_8 kw_749 (by decide +kernel) ⟨rfl, rfl⟩ ⟨Nat.le_of_ble_eq_true rfl, Nat.le_of_ble_eq_true rfl⟩ rfl hl.1 (Nat.le_of_ble_eq_true rfl) d_Lw_law_424 ⟨Nat.le_of_ble_eq_true rfl, Nat.le_of_ble_eq_true rfl⟩ (fun r3 mem4 H locs hq3 hP hS => ?_)
  obtain ⟨hr3, mem4e⟩ := hq3
  rw [mem4e] at hP
  refine lv_iload Bx.1 Bx.2.1 d_Lw_law_427 (lv_at hl 1 rfl) ?_
  refine lv_icmp_eq Bx.1 Bx.2.1 d_Lw_law_429 rfl (fun h => ?_) (fun h => ?_)
  · refine lv_iload Bx.1 Bx.2.1 d_Lw_law_434 (lv_at hl 1 rfl) ?_
    refine lv_if_ne Bx.1 Bx.2.1 d_Lw_law_436 rfl (fun h => ?_) (fun h => ?_)
    · refine lv_goto Bx.1 Bx.2.1 d_Lw_law_451 rfl ?_
      exact W.widen (Nat.le_of_ble_eq_true rfl) (Nat.le_of_ble_eq_true rfl) (K _ _ _ hS (lv_sub hl [2, 6] rfl))
    · have hz : r9 = 0 := by first | exact h | exact Classical.byContradiction h | exact Decidable.of_not_not h
      refine lv_aload_n Bx.1 Bx.2.1 d_Lw_law_439 rfl (lv_at hl 3 rfl) ?_
      refine lv_iconst (v := 0) Bx.1 Bx.2.1 d_Lw_law_440 (by decide) ?_
      refine f_lald (i := 0) Bx hP (by omega) ho10 (vp_in_nI (n := 0) (by decide) (by decide)) d_Lw_law_441 ?_
      refine lv_iload Bx.1 Bx.2.1 d_Lw_law_442 (lv_at hl 0 rfl) ?_
      refine lv_i2l Bx.1 Bx.2.1 d_Lw_law_444 rfl ?_
      refine W.lcmp Bx.1 Bx.2.1 d_Lw_law_445 ?_
      refine lv_if_eq Bx.1 Bx.2.1 d_Lw_law_446 rfl (fun h => ?_) (fun h => ?_)
      · refine lv_goto Bx.1 Bx.2.1 d_Lw_law_451 rfl ?_
        exact W.widen (Nat.le_of_ble_eq_true rfl) (Nat.le_of_ble_eq_true rfl) (K _ _ _ hS (lv_sub hl [2, 6] rfl))
      · exact absurd ((lg_cmp_eq _ _).mpr (hag.2 hz)) h
  · exact absurd (hr3.trans hag.1) h
set_option maxHeartbeats 200000 in
set_option maxRecDepth 100000 in
theorem k_read {p : Program} {e : Env} {s : State} {m : MethodId} {below : List Frame} {meth : Method} {c : Code} (l : Launch) {D : va_G} {cy : Nat → ClassId} {sz n b : Nat} {ad : Nat → Nat} {mem : Nat → va_E} {xs : Nat → Int32} {H : Heap} {locs : List Loc} {ls : Array Slot} {Q : State → Prop} (hlt : l.stackTraces = false) (Bx : MB p s m #[Value.ref b] c c_Lw_law "AbnfChartLaw" D cy) (hml : c.maxLocals = 7) (E : EV D cy sz s) (hn : 243 ≤ n) (hX : va_X b 4 xs s s.heap) (hbl : b < s.heap.size) (hbA : ¬ Az sz b) (hI : LI cy ad mem) (hP : va_P D vcl (fw n ad mem) H) (hD : va_D (Az sz) (fw n ad mem)) (hS : va_S (Az sz) s.heap H locs) (hl : lv_has ls 7 [(4, .int (0)), (3, .ref (ad 242)), (2, .ref (ad 224)), (1, .ref (ad 0)), (0, .ref (b))])
    (K : ∀ (ls : Array Slot) (H : Heap) (locs : List Loc), va_S (Az sz) s.heap H locs → lv_has ls 7 [(4, .int 0), (0, .ref b)] → W p l e room_1 s m #[Value.ref b] below meth c H locs 600002 7302232 Q (F0 m 734 ls [])) : W p l e room_1 s m #[Value.ref b] below meth c H locs 243 7734 Q (F0 m 209 ls []) := by
  obtain ⟨h0, h1, h2, h3, h4, h5, h6, h9, hc, hm, ht, hi, ho⟩ := hI
  refine lv_aload_n Bx.1 Bx.2.1 d_Lw_law_209 rfl (lv_at hl 3 rfl) ?_
  refine lv_aload_n Bx.1 Bx.2.1 d_Lw_law_210 rfl (lv_at hl 1 rfl) ?_
  refine f_callL (na := 2) (As := [.ref (ad 0), .ref (ad 242)]) (rest := []) Bx hml E hP hD hS (m_Lw_read l hlt hn h0 ho h9 h1 h2 h5 h6 hc) kw_321 kw_322 kw_0 kw_323 (by decide +kernel) ⟨rfl, rfl⟩ ⟨Nat.le_of_ble_eq_true rfl, Nat.le_of_ble_eq_true rfl⟩ rfl hl.1 (Nat.le_of_ble_eq_true rfl) d_Lw_law_211 ⟨Nat.le_of_ble_eq_true rfl, Nat.le_of_ble_eq_true rfl⟩ (fun r9 mem9 H locs hq hP hS => ?_)
  have hD : va_D (Az sz) (fw n ad mem9) := fw_D hD
  obtain ⟨hr9, hm9e⟩ := hq
  have hm9 : mem9 224 = moC ad J0 := by rw [hm9e 224 (by decide)]; exact hm
  refine lv_istore (lv' := [(5, .int (r9)), (4, .int (0)), (3, .ref (ad 242)), (2, .ref (ad 224)), (1, .ref (ad 0)), (0, .ref (b))]) Bx.1 Bx.2.1 d_Lw_law_214 hl (by decide) rfl (fun ls hl => ?_)
  refine lv_aload_n Bx.1 Bx.2.1 d_Lw_law_216 rfl (lv_at hl 3 rfl) ?_
  refine f_callVi (na := 0) (As := []) (rest := []) Bx hml E hP hD hS (by omega) hm9 rfl (m_Mo_read0 l (by omega) hm9 (show J0 1 = 0 from rfl)) kw_766 kw_767 kw_768 kw_8 kw_769 (by decide +kernel) ⟨rfl, rfl⟩ ⟨Nat.le_of_ble_eq_true rfl, Nat.le_of_ble_eq_true rfl⟩ rfl hl.1 (Nat.le_of_ble_eq_true rfl) d_Lw_law_217 ⟨Nat.le_of_ble_eq_true rfl, Nat.le_of_ble_eq_true rfl⟩ (fun r1 mem2 H locs hq2 hP hS => ?_)
  have hD : va_D (Az sz) (fw n ad mem2) := fw_D hD
  obtain ⟨hr10, J', hm10e, hJ⟩ := hq2
  have hm10 : mem2 224 = moC ad J' := by rw [hm10e, va_up_self]
  have hag : J' 0 = r9 ∧ True := ⟨(hJ).trans hr9.symm, trivial⟩
  refine lv_istore (lv' := [(6, .int (r1)), (5, .int (r9)), (4, .int (0)), (3, .ref (ad 242)), (2, .ref (ad 224)), (1, .ref (ad 0)), (0, .ref (b))]) Bx.1 Bx.2.1 d_Lw_law_220 hl (by decide) rfl (fun ls hl => ?_)
  refine lv_aload_n Bx.1 Bx.2.1 d_Lw_law_222 rfl (lv_at hl 4 rfl) ?_
  refine f_callVi (na := 0) (As := []) (rest := []) Bx hml E hP hD hS (by omega) hm10 rfl (m_Mo_thrown l (by omega) hm10) kw_746 kw_747 kw_748 kw_8 kw_749 (by decide +kernel) ⟨rfl, rfl⟩ ⟨Nat.le_of_ble_eq_true rfl, Nat.le_of_ble_eq_true rfl⟩ rfl hl.1 (Nat.le_of_ble_eq_true rfl) d_Lw_law_223 ⟨Nat.le_of_ble_eq_true rfl, Nat.le_of_ble_eq_true rfl⟩ (fun r3 mem4 H locs hq3 hP hS => ?_)
  obtain ⟨hr3, mem4e⟩ := hq3
  rw [mem4e] at hP
  refine lv_iload Bx.1 Bx.2.1 d_Lw_law_226 (lv_at hl 1 rfl) ?_
  refine lv_icmp_eq Bx.1 Bx.2.1 d_Lw_law_228 rfl (fun h => ?_) (fun h => ?_)
  · refine lv_iload Bx.1 Bx.2.1 d_Lw_law_233 (lv_at hl 1 rfl) ?_
    refine lv_if_ne Bx.1 Bx.2.1 d_Lw_law_235 rfl (fun h => ?_) (fun h => ?_)
    · refine lv_goto Bx.1 Bx.2.1 d_Lw_law_250 rfl ?_
      exact W.widen (Nat.le_of_ble_eq_true rfl) (Nat.le_of_ble_eq_true rfl) (K _ _ _ hS (lv_sub hl [2, 6] rfl))
    · have hz : r9 = 0 := by first | exact h | exact Classical.byContradiction h | exact Decidable.of_not_not h
      exact absurd (hr9.symm.trans hz) (by decide)
  · exact absurd (hr3.trans hag.1) h
set_option maxHeartbeats 200000 in
set_option maxRecDepth 100000 in
theorem k_rule {p : Program} {e : Env} {s : State} {m : MethodId} {below : List Frame} {meth : Method} {c : Code} (l : Launch) {D : va_G} {cy : Nat → ClassId} {sz n b : Nat} {ad : Nat → Nat} {mem : Nat → va_E} {xs : Nat → Int32} {H : Heap} {locs : List Loc} {ls : Array Slot} {Q : State → Prop} (hlt : l.stackTraces = false) (Bx : MB p s m #[Value.ref b] c c_Lw_law "AbnfChartLaw" D cy) (hml : c.maxLocals = 7) (E : EV D cy sz s) (hn : 243 ≤ n) (hX : va_X b 4 xs s s.heap) (hbl : b < s.heap.size) (hbA : ¬ Az sz b) (hI : LI cy ad mem) (hP : va_P D vcl (fw n ad mem) H) (hD : va_D (Az sz) (fw n ad mem)) (hS : va_S (Az sz) s.heap H locs) (hl : lv_has ls 7 [(4, .int (0)), (3, .ref (ad 242)), (2, .ref (ad 224)), (1, .ref (ad 0)), (0, .ref (b))])
    (K : ∀ (ls : Array Slot) (H : Heap) (locs : List Loc), va_S (Az sz) s.heap H locs → lv_has ls 7 [(4, .int 0), (0, .ref b)] → W p l e room_1 s m #[Value.ref b] below meth c H locs 600002 7302232 Q (F0 m 734 ls [])) : W p l e room_1 s m #[Value.ref b] below meth c H locs 243 7734 Q (F0 m 266 ls []) := by
  obtain ⟨h0, h1, h2, h3, h4, h5, h6, h9, hc, hm, ht, hi, ho⟩ := hI
  refine lv_aload_n Bx.1 Bx.2.1 d_Lw_law_266 rfl (lv_at hl 3 rfl) ?_
  refine lv_aload_n Bx.1 Bx.2.1 d_Lw_law_267 rfl (lv_at hl 4 rfl) ?_
  refine lv_iload Bx.1 Bx.2.1 d_Lw_law_268 (lv_at hl 0 rfl) ?_
  refine lv_iconst (v := 1) Bx.1 Bx.2.1 d_Lw_law_270 (by decide) ?_
  refine lv_iadd Bx.1 Bx.2.1 d_Lw_law_271 ?_
  refine f_sld Bx.1 Bx.2.1 hX hbl hbA hS 1 (by decide) (by decide) (by decide) d_Lw_law_272 ?_
  refine lv_i2l Bx.1 Bx.2.1 d_Lw_law_273 rfl ?_
  refine lv_bipush (v := 32) Bx.1 Bx.2.1 d_Lw_law_274 (by decide) ?_
  refine lv_lshl Bx.1 Bx.2.1 d_Lw_law_276 rfl ?_
  refine lv_aload_n Bx.1 Bx.2.1 d_Lw_law_277 rfl (lv_at hl 4 rfl) ?_
  refine lv_iload Bx.1 Bx.2.1 d_Lw_law_278 (lv_at hl 0 rfl) ?_
  refine lv_iconst (v := 2) Bx.1 Bx.2.1 d_Lw_law_280 (by decide) ?_
  refine lv_iadd Bx.1 Bx.2.1 d_Lw_law_281 ?_
  refine f_sld Bx.1 Bx.2.1 hX hbl hbA hS 2 (by decide) (by decide) (by decide) d_Lw_law_282 ?_
  refine lv_i2l Bx.1 Bx.2.1 d_Lw_law_283 rfl ?_
  refine lv_ldc2 Bx.1 Bx.2.1 Bx.2.2.2.1 (Bx.2.2.1 _ (tb_g kw_914 rfl)) d_Lw_law_284 ?_
  refine lv_land Bx.1 Bx.2.1 d_Lw_law_287 ?_
  refine lv_lor Bx.1 Bx.2.1 d_Lw_law_288 ?_
  refine lv_aload_n Bx.1 Bx.2.1 d_Lw_law_289 rfl (lv_at hl 1 rfl) ?_
  refine f_callL (na := 3) (As := [.ref (ad 0), .long (((xs 1).toInt64) <<< ((32 : Int32).toInt64 &&& 63) ||| (xs 2).toInt64 &&& 4294967295), .ref (ad 242)]) (rest := []) Bx hml E hP hD hS (m_Lw_rule l hlt hn h0 ho h5) kw_502 kw_503 kw_0 kw_504 (by decide +kernel) ⟨rfl, rfl⟩ ⟨Nat.le_of_ble_eq_true rfl, Nat.le_of_ble_eq_true rfl⟩ rfl hl.1 (Nat.le_of_ble_eq_true rfl) d_Lw_law_290 ⟨Nat.le_of_ble_eq_true rfl, Nat.le_of_ble_eq_true rfl⟩ (fun r9 mem9 H locs hq hP hS => ?_)
  have hD : va_D (Az sz) (fw n ad mem9) := fw_D hD
  obtain ⟨hr9, hm9e⟩ := hq
  have hm9 : mem9 224 = moC ad J0 := by rw [hm9e]; exact hm
  refine lv_istore (lv' := [(5, .int (r9)), (4, .int (0)), (3, .ref (ad 242)), (2, .ref (ad 224)), (1, .ref (ad 0)), (0, .ref (b))]) Bx.1 Bx.2.1 d_Lw_law_293 hl (by decide) rfl (fun ls hl => ?_)
  refine lv_aload_n Bx.1 Bx.2.1 d_Lw_law_295 rfl (lv_at hl 3 rfl) ?_
  refine lv_aload_n Bx.1 Bx.2.1 d_Lw_law_296 rfl (lv_at hl 5 rfl) ?_
  refine lv_iload Bx.1 Bx.2.1 d_Lw_law_297 (lv_at hl 1 rfl) ?_
  refine lv_iconst (v := 1) Bx.1 Bx.2.1 d_Lw_law_299 (by decide) ?_
  refine lv_iadd Bx.1 Bx.2.1 d_Lw_law_300 ?_
  refine f_sld Bx.1 Bx.2.1 hX hbl hbA hS 1 (by decide) (by decide) (by decide) d_Lw_law_301 ?_
  refine lv_i2l Bx.1 Bx.2.1 d_Lw_law_302 rfl ?_
  refine lv_bipush (v := 32) Bx.1 Bx.2.1 d_Lw_law_303 (by decide) ?_
  refine lv_lshl Bx.1 Bx.2.1 d_Lw_law_305 rfl ?_
  refine lv_aload_n Bx.1 Bx.2.1 d_Lw_law_306 rfl (lv_at hl 5 rfl) ?_
  refine lv_iload Bx.1 Bx.2.1 d_Lw_law_307 (lv_at hl 1 rfl) ?_
  refine lv_iconst (v := 2) Bx.1 Bx.2.1 d_Lw_law_309 (by decide) ?_
  refine lv_iadd Bx.1 Bx.2.1 d_Lw_law_310 ?_
  refine f_sld Bx.1 Bx.2.1 hX hbl hbA hS 2 (by decide) (by decide) (by decide) d_Lw_law_311 ?_
  refine lv_i2l Bx.1 Bx.2.1 d_Lw_law_312 rfl ?_
  refine lv_ldc2 Bx.1 Bx.2.1 Bx.2.2.2.1 (Bx.2.2.1 _ (tb_g kw_914 rfl)) d_Lw_law_313 ?_
  refine lv_land Bx.1 Bx.2.1 d_Lw_law_316 ?_
  refine lv_lor Bx.1 Bx.2.1 d_Lw_law_317 ?_
  refine f_callVi (na := 1) (As := [.long (((xs 1).toInt64) <<< ((32 : Int32).toInt64 &&& 63) ||| (xs 2).toInt64 &&& 4294967295)]) (rest := []) Bx hml E hP hD hS (by omega) hm9 rfl (m_Mo_rule0 l (by omega) hm9 (show J0 4 = 0 from rfl)) kw_861 kw_862 kw_863 kw_8 kw_864 (by decide +kernel) ⟨rfl, rfl⟩ ⟨Nat.le_of_ble_eq_true rfl, Nat.le_of_ble_eq_true rfl⟩ rfl hl.1 (Nat.le_of_ble_eq_true rfl) d_Lw_law_318 ⟨Nat.le_of_ble_eq_true rfl, Nat.le_of_ble_eq_true rfl⟩ (fun r1 mem2 H locs hq2 hP hS => ?_)
  have hD : va_D (Az sz) (fw n ad mem2) := fw_D hD
  obtain ⟨hr10, J', hm10e, hJ⟩ := hq2
  have hm10 : mem2 224 = moC ad J' := by rw [hm10e, va_up_self]
  have hag : J' 0 = r9 ∧ True := ⟨(hJ.1).trans hr9.symm, trivial⟩
  refine lv_istore (lv' := [(6, .int (r1)), (5, .int (r9)), (4, .int (0)), (3, .ref (ad 242)), (2, .ref (ad 224)), (1, .ref (ad 0)), (0, .ref (b))]) Bx.1 Bx.2.1 d_Lw_law_321 hl (by decide) rfl (fun ls hl => ?_)
  refine lv_aload_n Bx.1 Bx.2.1 d_Lw_law_323 rfl (lv_at hl 4 rfl) ?_
  refine f_callVi (na := 0) (As := []) (rest := []) Bx hml E hP hD hS (by omega) hm10 rfl (m_Mo_thrown l (by omega) hm10) kw_746 kw_747 kw_748 kw_8 kw_749 (by decide +kernel) ⟨rfl, rfl⟩ ⟨Nat.le_of_ble_eq_true rfl, Nat.le_of_ble_eq_true rfl⟩ rfl hl.1 (Nat.le_of_ble_eq_true rfl) d_Lw_law_324 ⟨Nat.le_of_ble_eq_true rfl, Nat.le_of_ble_eq_true rfl⟩ (fun r3 mem4 H locs hq3 hP hS => ?_)
  obtain ⟨hr3, mem4e⟩ := hq3
  rw [mem4e] at hP
  refine lv_iload Bx.1 Bx.2.1 d_Lw_law_327 (lv_at hl 1 rfl) ?_
  refine lv_icmp_eq Bx.1 Bx.2.1 d_Lw_law_329 rfl (fun h => ?_) (fun h => ?_)
  · refine lv_iload Bx.1 Bx.2.1 d_Lw_law_334 (lv_at hl 1 rfl) ?_
    refine lv_if_ne Bx.1 Bx.2.1 d_Lw_law_336 rfl (fun h => ?_) (fun h => ?_)
    · refine lv_goto Bx.1 Bx.2.1 d_Lw_law_351 rfl ?_
      exact W.widen (Nat.le_of_ble_eq_true rfl) (Nat.le_of_ble_eq_true rfl) (K _ _ _ hS (lv_sub hl [2, 6] rfl))
    · have hz : r9 = 0 := by first | exact h | exact Classical.byContradiction h | exact Decidable.of_not_not h
      exact absurd (hr9.symm.trans hz) (by decide)
  · exact absurd (hr3.trans hag.1) h
set_option maxHeartbeats 200000 in
set_option maxRecDepth 100000 in
theorem k_matches {p : Program} {e : Env} {s : State} {m : MethodId} {below : List Frame} {meth : Method} {c : Code} (l : Launch) {D : va_G} {cy : Nat → ClassId} {sz n b : Nat} {ad : Nat → Nat} {mem : Nat → va_E} {xs : Nat → Int32} {H : Heap} {locs : List Loc} {ls : Array Slot} {Q : State → Prop} (hlt : l.stackTraces = false) (Bx : MB p s m #[Value.ref b] c c_Lw_law "AbnfChartLaw" D cy) (hml : c.maxLocals = 7) (E : EV D cy sz s) (hn : 243 ≤ n) (hX : va_X b 4 xs s s.heap) (hbl : b < s.heap.size) (hbA : ¬ Az sz b) (hI : LI cy ad mem) (hP : va_P D vcl (fw n ad mem) H) (hD : va_D (Az sz) (fw n ad mem)) (hS : va_S (Az sz) s.heap H locs) (hl : lv_has ls 7 [(4, .int (0)), (3, .ref (ad 242)), (2, .ref (ad 224)), (1, .ref (ad 0)), (0, .ref (b))])
    (K : ∀ (ls : Array Slot) (H : Heap) (locs : List Loc), va_S (Az sz) s.heap H locs → lv_has ls 7 [(4, .int 0), (0, .ref b)] → W p l e room_1 s m #[Value.ref b] below meth c H locs 600002 7302232 Q (F0 m 734 ls [])) : W p l e room_1 s m #[Value.ref b] below meth c H locs 243 7734 Q (F0 m 467 ls []) := by
  obtain ⟨h0, h1, h2, h3, h4, h5, h6, h9, hc, hm, ht, hi, ho⟩ := hI
  refine lv_aload_n Bx.1 Bx.2.1 d_Lw_law_467 rfl (lv_at hl 3 rfl) ?_
  refine lv_aload_n Bx.1 Bx.2.1 d_Lw_law_468 rfl (lv_at hl 4 rfl) ?_
  refine lv_iload Bx.1 Bx.2.1 d_Lw_law_469 (lv_at hl 0 rfl) ?_
  refine lv_iconst (v := 1) Bx.1 Bx.2.1 d_Lw_law_471 (by decide) ?_
  refine lv_iadd Bx.1 Bx.2.1 d_Lw_law_472 ?_
  refine f_sld Bx.1 Bx.2.1 hX hbl hbA hS 1 (by decide) (by decide) (by decide) d_Lw_law_473 ?_
  refine lv_aload_n Bx.1 Bx.2.1 d_Lw_law_474 rfl (lv_at hl 4 rfl) ?_
  refine lv_iload Bx.1 Bx.2.1 d_Lw_law_475 (lv_at hl 0 rfl) ?_
  refine lv_iconst (v := 2) Bx.1 Bx.2.1 d_Lw_law_477 (by decide) ?_
  refine lv_iadd Bx.1 Bx.2.1 d_Lw_law_478 ?_
  refine f_sld Bx.1 Bx.2.1 hX hbl hbA hS 2 (by decide) (by decide) (by decide) d_Lw_law_479 ?_
  refine lv_aload_n Bx.1 Bx.2.1 d_Lw_law_480 rfl (lv_at hl 4 rfl) ?_
  refine lv_iload Bx.1 Bx.2.1 d_Lw_law_481 (lv_at hl 0 rfl) ?_
  refine lv_iconst (v := 3) Bx.1 Bx.2.1 d_Lw_law_483 (by decide) ?_
  refine lv_iadd Bx.1 Bx.2.1 d_Lw_law_484 ?_
  refine f_sld Bx.1 Bx.2.1 hX hbl hbA hS 3 (by decide) (by decide) (by decide) d_Lw_law_485 ?_
  refine lv_aload_n Bx.1 Bx.2.1 d_Lw_law_486 rfl (lv_at hl 1 rfl) ?_
  refine f_callL (na := 5) (As := [.ref (ad 0), .int (xs 1), .int (xs 2), .int (xs 3), .ref (ad 242)]) (rest := []) Bx hml E hP hD hS (m_Lw_matches l hlt hn h0 ho h5) kw_540 kw_541 kw_0 kw_542 (by decide +kernel) ⟨rfl, rfl⟩ ⟨Nat.le_of_ble_eq_true rfl, Nat.le_of_ble_eq_true rfl⟩ rfl hl.1 (Nat.le_of_ble_eq_true rfl) d_Lw_law_487 ⟨Nat.le_of_ble_eq_true rfl, Nat.le_of_ble_eq_true rfl⟩ (fun r9 mem9 H locs hq hP hS => ?_)
  have hD : va_D (Az sz) (fw n ad mem9) := fw_D hD
  obtain ⟨hr9, hm9e⟩ := hq
  have hm9 : mem9 224 = moC ad J0 := by rw [hm9e]; exact hm
  refine lv_istore (lv' := [(5, .int (r9)), (4, .int (0)), (3, .ref (ad 242)), (2, .ref (ad 224)), (1, .ref (ad 0)), (0, .ref (b))]) Bx.1 Bx.2.1 d_Lw_law_490 hl (by decide) rfl (fun ls hl => ?_)
  refine lv_aload_n Bx.1 Bx.2.1 d_Lw_law_492 rfl (lv_at hl 3 rfl) ?_
  refine lv_aload_n Bx.1 Bx.2.1 d_Lw_law_493 rfl (lv_at hl 5 rfl) ?_
  refine lv_iload Bx.1 Bx.2.1 d_Lw_law_494 (lv_at hl 1 rfl) ?_
  refine lv_iconst (v := 1) Bx.1 Bx.2.1 d_Lw_law_496 (by decide) ?_
  refine lv_iadd Bx.1 Bx.2.1 d_Lw_law_497 ?_
  refine f_sld Bx.1 Bx.2.1 hX hbl hbA hS 1 (by decide) (by decide) (by decide) d_Lw_law_498 ?_
  refine lv_aload_n Bx.1 Bx.2.1 d_Lw_law_499 rfl (lv_at hl 5 rfl) ?_
  refine lv_iload Bx.1 Bx.2.1 d_Lw_law_500 (lv_at hl 1 rfl) ?_
  refine lv_iconst (v := 2) Bx.1 Bx.2.1 d_Lw_law_502 (by decide) ?_
  refine lv_iadd Bx.1 Bx.2.1 d_Lw_law_503 ?_
  refine f_sld Bx.1 Bx.2.1 hX hbl hbA hS 2 (by decide) (by decide) (by decide) d_Lw_law_504 ?_
  refine lv_aload_n Bx.1 Bx.2.1 d_Lw_law_505 rfl (lv_at hl 5 rfl) ?_
  refine lv_iload Bx.1 Bx.2.1 d_Lw_law_506 (lv_at hl 1 rfl) ?_
  refine lv_iconst (v := 3) Bx.1 Bx.2.1 d_Lw_law_508 (by decide) ?_
  refine lv_iadd Bx.1 Bx.2.1 d_Lw_law_509 ?_
  refine f_sld Bx.1 Bx.2.1 hX hbl hbA hS 3 (by decide) (by decide) (by decide) d_Lw_law_510 ?_
  refine f_callVi (na := 3) (As := [.int (xs 1), .int (xs 2), .int (xs 3)]) (rest := []) Bx hml E hP hD hS (by omega) hm9 rfl (m_Mo_matches0 l (by omega) hm9 (show J0 4 = 0 from rfl)) kw_874 kw_875 kw_876 kw_8 kw_877 (by decide +kernel) ⟨rfl, rfl⟩ ⟨Nat.le_of_ble_eq_true rfl, Nat.le_of_ble_eq_true rfl⟩ rfl hl.1 (Nat.le_of_ble_eq_true rfl) d_Lw_law_511 ⟨Nat.le_of_ble_eq_true rfl, Nat.le_of_ble_eq_true rfl⟩ (fun r1 mem2 H locs hq2 hP hS => ?_)
  have hD : va_D (Az sz) (fw n ad mem2) := fw_D hD
  obtain ⟨hr10, J', hm10e, hJ⟩ := hq2
  have hm10 : mem2 224 = moC ad J' := by rw [hm10e, va_up_self]
  have hag : J' 0 = r9 ∧ True := ⟨(hJ.1).trans hr9.symm, trivial⟩
  refine lv_istore (lv' := [(6, .int (r1)), (5, .int (r9)), (4, .int (0)), (3, .ref (ad 242)), (2, .ref (ad 224)), (1, .ref (ad 0)), (0, .ref (b))]) Bx.1 Bx.2.1 d_Lw_law_514 hl (by decide) rfl (fun ls hl => ?_)
  refine lv_aload_n Bx.1 Bx.2.1 d_Lw_law_516 rfl (lv_at hl 4 rfl) ?_
  refine f_callVi (na := 0) (As := []) (rest := []) Bx hml E hP hD hS (by omega) hm10 rfl (m_Mo_thrown l (by omega) hm10) kw_746 kw_747 kw_748 kw_8 kw_749 (by decide +kernel) ⟨rfl, rfl⟩ ⟨Nat.le_of_ble_eq_true rfl, Nat.le_of_ble_eq_true rfl⟩ rfl hl.1 (Nat.le_of_ble_eq_true rfl) d_Lw_law_517 ⟨Nat.le_of_ble_eq_true rfl, Nat.le_of_ble_eq_true rfl⟩ (fun r3 mem4 H locs hq3 hP hS => ?_)
  obtain ⟨hr3, mem4e⟩ := hq3
  rw [mem4e] at hP
  refine lv_iload Bx.1 Bx.2.1 d_Lw_law_520 (lv_at hl 1 rfl) ?_
  refine lv_icmp_eq Bx.1 Bx.2.1 d_Lw_law_522 rfl (fun h => ?_) (fun h => ?_)
  · refine lv_iload Bx.1 Bx.2.1 d_Lw_law_527 (lv_at hl 1 rfl) ?_
    refine lv_if_ne Bx.1 Bx.2.1 d_Lw_law_529 rfl (fun h => ?_) (fun h => ?_)
    · refine lv_goto Bx.1 Bx.2.1 d_Lw_law_551 rfl ?_
      exact W.widen (Nat.le_of_ble_eq_true rfl) (Nat.le_of_ble_eq_true rfl) (K _ _ _ hS (lv_sub hl [2, 6] rfl))
    · have hz : r9 = 0 := by first | exact h | exact Classical.byContradiction h | exact Decidable.of_not_not h
      exact absurd (hr9.symm.trans hz) (by decide)
  · exact absurd (hr3.trans hag.1) h
set_option maxHeartbeats 200000 in
set_option maxRecDepth 100000 in
theorem k_longest {p : Program} {e : Env} {s : State} {m : MethodId} {below : List Frame} {meth : Method} {c : Code} (l : Launch) {D : va_G} {cy : Nat → ClassId} {sz n b : Nat} {ad : Nat → Nat} {mem : Nat → va_E} {xs : Nat → Int32} {H : Heap} {locs : List Loc} {ls : Array Slot} {Q : State → Prop} (hlt : l.stackTraces = false) (Bx : MB p s m #[Value.ref b] c c_Lw_law "AbnfChartLaw" D cy) (hml : c.maxLocals = 7) (E : EV D cy sz s) (hn : 243 ≤ n) (hX : va_X b 4 xs s s.heap) (hbl : b < s.heap.size) (hbA : ¬ Az sz b) (hI : LI cy ad mem) (hP : va_P D vcl (fw n ad mem) H) (hD : va_D (Az sz) (fw n ad mem)) (hS : va_S (Az sz) s.heap H locs) (hl : lv_has ls 7 [(4, .int (0)), (3, .ref (ad 242)), (2, .ref (ad 224)), (1, .ref (ad 0)), (0, .ref (b))])
    (K : ∀ (ls : Array Slot) (H : Heap) (locs : List Loc), va_S (Az sz) s.heap H locs → lv_has ls 7 [(4, .int 0), (0, .ref b)] → W p l e room_1 s m #[Value.ref b] below meth c H locs 600002 7302232 Q (F0 m 734 ls [])) : W p l e room_1 s m #[Value.ref b] below meth c H locs 243 7734 Q (F0 m 554 ls []) := by
  obtain ⟨h0, h1, h2, h3, h4, h5, h6, h9, hc, hm, ht, hi, ho⟩ := hI
  refine lv_aload_n Bx.1 Bx.2.1 d_Lw_law_554 rfl (lv_at hl 3 rfl) ?_
  refine lv_aload_n Bx.1 Bx.2.1 d_Lw_law_555 rfl (lv_at hl 4 rfl) ?_
  refine lv_iload Bx.1 Bx.2.1 d_Lw_law_556 (lv_at hl 0 rfl) ?_
  refine lv_iconst (v := 1) Bx.1 Bx.2.1 d_Lw_law_558 (by decide) ?_
  refine lv_iadd Bx.1 Bx.2.1 d_Lw_law_559 ?_
  refine f_sld Bx.1 Bx.2.1 hX hbl hbA hS 1 (by decide) (by decide) (by decide) d_Lw_law_560 ?_
  refine lv_aload_n Bx.1 Bx.2.1 d_Lw_law_561 rfl (lv_at hl 4 rfl) ?_
  refine lv_iload Bx.1 Bx.2.1 d_Lw_law_562 (lv_at hl 0 rfl) ?_
  refine lv_iconst (v := 2) Bx.1 Bx.2.1 d_Lw_law_564 (by decide) ?_
  refine lv_iadd Bx.1 Bx.2.1 d_Lw_law_565 ?_
  refine f_sld Bx.1 Bx.2.1 hX hbl hbA hS 2 (by decide) (by decide) (by decide) d_Lw_law_566 ?_
  refine lv_aload_n Bx.1 Bx.2.1 d_Lw_law_567 rfl (lv_at hl 1 rfl) ?_
  refine f_callL (na := 4) (As := [.ref (ad 0), .int (xs 1), .int (xs 2), .ref (ad 242)]) (rest := []) Bx hml E hP hD hS (m_Lw_longest l hlt hn h0 ho h5) kw_613 kw_614 kw_0 kw_615 (by decide +kernel) ⟨rfl, rfl⟩ ⟨Nat.le_of_ble_eq_true rfl, Nat.le_of_ble_eq_true rfl⟩ rfl hl.1 (Nat.le_of_ble_eq_true rfl) d_Lw_law_568 ⟨Nat.le_of_ble_eq_true rfl, Nat.le_of_ble_eq_true rfl⟩ (fun r9 mem9 H locs hq hP hS => ?_)
  have hD : va_D (Az sz) (fw n ad mem9) := fw_D hD
  obtain ⟨hr9, hm9e⟩ := hq
  have hm9 : mem9 224 = moC ad J0 := by rw [hm9e]; exact hm
  refine lv_istore (lv' := [(5, .int (r9)), (4, .int (0)), (3, .ref (ad 242)), (2, .ref (ad 224)), (1, .ref (ad 0)), (0, .ref (b))]) Bx.1 Bx.2.1 d_Lw_law_571 hl (by decide) rfl (fun ls hl => ?_)
  refine lv_aload_n Bx.1 Bx.2.1 d_Lw_law_573 rfl (lv_at hl 3 rfl) ?_
  refine lv_aload_n Bx.1 Bx.2.1 d_Lw_law_574 rfl (lv_at hl 5 rfl) ?_
  refine lv_iload Bx.1 Bx.2.1 d_Lw_law_575 (lv_at hl 1 rfl) ?_
  refine lv_iconst (v := 1) Bx.1 Bx.2.1 d_Lw_law_577 (by decide) ?_
  refine lv_iadd Bx.1 Bx.2.1 d_Lw_law_578 ?_
  refine f_sld Bx.1 Bx.2.1 hX hbl hbA hS 1 (by decide) (by decide) (by decide) d_Lw_law_579 ?_
  refine lv_aload_n Bx.1 Bx.2.1 d_Lw_law_580 rfl (lv_at hl 5 rfl) ?_
  refine lv_iload Bx.1 Bx.2.1 d_Lw_law_581 (lv_at hl 1 rfl) ?_
  refine lv_iconst (v := 2) Bx.1 Bx.2.1 d_Lw_law_583 (by decide) ?_
  refine lv_iadd Bx.1 Bx.2.1 d_Lw_law_584 ?_
  refine f_sld Bx.1 Bx.2.1 hX hbl hbA hS 2 (by decide) (by decide) (by decide) d_Lw_law_585 ?_
  refine f_callVi (na := 2) (As := [.int (xs 1), .int (xs 2)]) (rest := []) Bx hml E hP hD hS (by omega) hm9 rfl (m_Mo_longest0 l (by omega) hm9 (show J0 4 = 0 from rfl)) kw_902 kw_903 kw_904 kw_8 kw_905 (by decide +kernel) ⟨rfl, rfl⟩ ⟨Nat.le_of_ble_eq_true rfl, Nat.le_of_ble_eq_true rfl⟩ rfl hl.1 (Nat.le_of_ble_eq_true rfl) d_Lw_law_586 ⟨Nat.le_of_ble_eq_true rfl, Nat.le_of_ble_eq_true rfl⟩ (fun r1 mem2 H locs hq2 hP hS => ?_)
  have hD : va_D (Az sz) (fw n ad mem2) := fw_D hD
  obtain ⟨hr10, J', hm10e, hJ⟩ := hq2
  have hm10 : mem2 224 = moC ad J' := by rw [hm10e, va_up_self]
  have hag : J' 0 = r9 ∧ True := ⟨(hJ.1).trans hr9.symm, trivial⟩
  refine lv_istore (lv' := [(6, .int (r1)), (5, .int (r9)), (4, .int (0)), (3, .ref (ad 242)), (2, .ref (ad 224)), (1, .ref (ad 0)), (0, .ref (b))]) Bx.1 Bx.2.1 d_Lw_law_589 hl (by decide) rfl (fun ls hl => ?_)
  refine lv_aload_n Bx.1 Bx.2.1 d_Lw_law_591 rfl (lv_at hl 4 rfl) ?_
  refine f_callVi (na := 0) (As := []) (rest := []) Bx hml E hP hD hS (by omega) hm10 rfl (m_Mo_thrown l (by omega) hm10) kw_746 kw_747 kw_748 kw_8 kw_749 (by decide +kernel) ⟨rfl, rfl⟩ ⟨Nat.le_of_ble_eq_true rfl, Nat.le_of_ble_eq_true rfl⟩ rfl hl.1 (Nat.le_of_ble_eq_true rfl) d_Lw_law_592 ⟨Nat.le_of_ble_eq_true rfl, Nat.le_of_ble_eq_true rfl⟩ (fun r3 mem4 H locs hq3 hP hS => ?_)
  obtain ⟨hr3, mem4e⟩ := hq3
  rw [mem4e] at hP
  refine lv_iload Bx.1 Bx.2.1 d_Lw_law_595 (lv_at hl 1 rfl) ?_
  refine lv_icmp_eq Bx.1 Bx.2.1 d_Lw_law_597 rfl (fun h => ?_) (fun h => ?_)
  · refine lv_iload Bx.1 Bx.2.1 d_Lw_law_602 (lv_at hl 1 rfl) ?_
    refine lv_if_ne Bx.1 Bx.2.1 d_Lw_law_604 rfl (fun h => ?_) (fun h => ?_)
    · refine lv_goto Bx.1 Bx.2.1 d_Lw_law_619 rfl ?_
      exact W.widen (Nat.le_of_ble_eq_true rfl) (Nat.le_of_ble_eq_true rfl) (K _ _ _ hS (lv_sub hl [2, 6] rfl))
    · have hz : r9 = 0 := by first | exact h | exact Classical.byContradiction h | exact Decidable.of_not_not h
      exact absurd (hr9.symm.trans hz) (by decide)
  · exact absurd (hr3.trans hag.1) h
set_option maxHeartbeats 200000 in
set_option maxRecDepth 100000 in
theorem k_pieces {p : Program} {e : Env} {s : State} {m : MethodId} {below : List Frame} {meth : Method} {c : Code} (l : Launch) {D : va_G} {cy : Nat → ClassId} {sz n b : Nat} {ad : Nat → Nat} {mem : Nat → va_E} {xs : Nat → Int32} {H : Heap} {locs : List Loc} {ls : Array Slot} {Q : State → Prop} (hlt : l.stackTraces = false) (Bx : MB p s m #[Value.ref b] c c_Lw_law "AbnfChartLaw" D cy) (hml : c.maxLocals = 7) (E : EV D cy sz s) (hn : 243 ≤ n) (hX : va_X b 4 xs s s.heap) (hbl : b < s.heap.size) (hbA : ¬ Az sz b) (hI : LI cy ad mem) (hP : va_P D vcl (fw n ad mem) H) (hD : va_D (Az sz) (fw n ad mem)) (hS : va_S (Az sz) s.heap H locs) (hl : lv_has ls 7 [(4, .int (0)), (3, .ref (ad 242)), (2, .ref (ad 224)), (1, .ref (ad 0)), (0, .ref (b))])
    (K : ∀ (ls : Array Slot) (H : Heap) (locs : List Loc), va_S (Az sz) s.heap H locs → lv_has ls 7 [(4, .int 0), (0, .ref b)] → W p l e room_1 s m #[Value.ref b] below meth c H locs 600002 7302232 Q (F0 m 734 ls [])) : W p l e room_1 s m #[Value.ref b] below meth c H locs 243 7734 Q (F0 m 622 ls []) := by
  obtain ⟨h0, h1, h2, h3, h4, h5, h6, h9, hc, hm, ht, hi, ho⟩ := hI
  refine lv_aload_n Bx.1 Bx.2.1 d_Lw_law_622 rfl (lv_at hl 3 rfl) ?_
  refine lv_aload_n Bx.1 Bx.2.1 d_Lw_law_623 rfl (lv_at hl 4 rfl) ?_
  refine lv_iload Bx.1 Bx.2.1 d_Lw_law_624 (lv_at hl 0 rfl) ?_
  refine lv_iconst (v := 1) Bx.1 Bx.2.1 d_Lw_law_626 (by decide) ?_
  refine lv_iadd Bx.1 Bx.2.1 d_Lw_law_627 ?_
  refine f_sld Bx.1 Bx.2.1 hX hbl hbA hS 1 (by decide) (by decide) (by decide) d_Lw_law_628 ?_
  refine lv_aload_n Bx.1 Bx.2.1 d_Lw_law_629 rfl (lv_at hl 1 rfl) ?_
  refine f_callL (na := 3) (As := [.ref (ad 0), .int (xs 1), .ref (ad 242)]) (rest := []) Bx hml E hP hD hS (m_Lw_pieces l hlt hn h0 ho h5) kw_620 kw_621 kw_0 kw_622 (by decide +kernel) ⟨rfl, rfl⟩ ⟨Nat.le_of_ble_eq_true rfl, Nat.le_of_ble_eq_true rfl⟩ rfl hl.1 (Nat.le_of_ble_eq_true rfl) d_Lw_law_630 ⟨Nat.le_of_ble_eq_true rfl, Nat.le_of_ble_eq_true rfl⟩ (fun r9 mem9 H locs hq hP hS => ?_)
  have hD : va_D (Az sz) (fw n ad mem9) := fw_D hD
  obtain ⟨hr9, hm9e⟩ := hq
  have hm9 : mem9 224 = moC ad J0 := by rw [hm9e]; exact hm
  refine lv_istore (lv' := [(5, .int (r9)), (4, .int (0)), (3, .ref (ad 242)), (2, .ref (ad 224)), (1, .ref (ad 0)), (0, .ref (b))]) Bx.1 Bx.2.1 d_Lw_law_633 hl (by decide) rfl (fun ls hl => ?_)
  refine lv_aload_n Bx.1 Bx.2.1 d_Lw_law_635 rfl (lv_at hl 3 rfl) ?_
  refine lv_aload_n Bx.1 Bx.2.1 d_Lw_law_636 rfl (lv_at hl 5 rfl) ?_
  refine lv_iload Bx.1 Bx.2.1 d_Lw_law_637 (lv_at hl 1 rfl) ?_
  refine lv_iconst (v := 1) Bx.1 Bx.2.1 d_Lw_law_639 (by decide) ?_
  refine lv_iadd Bx.1 Bx.2.1 d_Lw_law_640 ?_
  refine f_sld Bx.1 Bx.2.1 hX hbl hbA hS 1 (by decide) (by decide) (by decide) d_Lw_law_641 ?_
  refine f_callVi (na := 1) (As := [.int (xs 1)]) (rest := []) Bx hml E hP hD hS (by omega) hm9 rfl (m_Mo_pieces0 l (by omega) hm9 (show J0 4 = 0 from rfl)) kw_906 kw_907 kw_908 kw_8 kw_909 (by decide +kernel) ⟨rfl, rfl⟩ ⟨Nat.le_of_ble_eq_true rfl, Nat.le_of_ble_eq_true rfl⟩ rfl hl.1 (Nat.le_of_ble_eq_true rfl) d_Lw_law_642 ⟨Nat.le_of_ble_eq_true rfl, Nat.le_of_ble_eq_true rfl⟩ (fun r1 mem2 H locs hq2 hP hS => ?_)
  have hD : va_D (Az sz) (fw n ad mem2) := fw_D hD
  obtain ⟨hr10, J', hm10e, hJ⟩ := hq2
  have hm10 : mem2 224 = moC ad J' := by rw [hm10e, va_up_self]
  have hag : J' 0 = r9 ∧ True := ⟨(hJ.1).trans hr9.symm, trivial⟩
  refine lv_istore (lv' := [(6, .int (r1)), (5, .int (r9)), (4, .int (0)), (3, .ref (ad 242)), (2, .ref (ad 224)), (1, .ref (ad 0)), (0, .ref (b))]) Bx.1 Bx.2.1 d_Lw_law_645 hl (by decide) rfl (fun ls hl => ?_)
  refine lv_aload_n Bx.1 Bx.2.1 d_Lw_law_647 rfl (lv_at hl 4 rfl) ?_
  refine f_callVi (na := 0) (As := []) (rest := []) Bx hml E hP hD hS (by omega) hm10 rfl (m_Mo_thrown l (by omega) hm10) kw_746 kw_747 kw_748 kw_8 kw_749 (by decide +kernel) ⟨rfl, rfl⟩ ⟨Nat.le_of_ble_eq_true rfl, Nat.le_of_ble_eq_true rfl⟩ rfl hl.1 (Nat.le_of_ble_eq_true rfl) d_Lw_law_648 ⟨Nat.le_of_ble_eq_true rfl, Nat.le_of_ble_eq_true rfl⟩ (fun r3 mem4 H locs hq3 hP hS => ?_)
  obtain ⟨hr3, mem4e⟩ := hq3
  rw [mem4e] at hP
  refine lv_iload Bx.1 Bx.2.1 d_Lw_law_651 (lv_at hl 1 rfl) ?_
  refine lv_icmp_eq Bx.1 Bx.2.1 d_Lw_law_653 rfl (fun h => ?_) (fun h => ?_)
  · refine lv_iload Bx.1 Bx.2.1 d_Lw_law_658 (lv_at hl 1 rfl) ?_
    refine lv_if_ne Bx.1 Bx.2.1 d_Lw_law_660 rfl (fun h => ?_) (fun h => ?_)
    · refine lv_goto Bx.1 Bx.2.1 d_Lw_law_675 rfl ?_
      exact W.widen (Nat.le_of_ble_eq_true rfl) (Nat.le_of_ble_eq_true rfl) (K _ _ _ hS (lv_sub hl [2, 6] rfl))
    · have hz : r9 = 0 := by first | exact h | exact Classical.byContradiction h | exact Decidable.of_not_not h
      exact absurd (hr9.symm.trans hz) (by decide)
  · exact absurd (hr3.trans hag.1) h
set_option maxHeartbeats 200000 in
set_option maxRecDepth 100000 in
theorem k_count {p : Program} {e : Env} {s : State} {m : MethodId} {below : List Frame} {meth : Method} {c : Code} (l : Launch) {D : va_G} {cy : Nat → ClassId} {sz n b : Nat} {ad : Nat → Nat} {mem : Nat → va_E} {xs : Nat → Int32} {H : Heap} {locs : List Loc} {ls : Array Slot} {Q : State → Prop} (hlt : l.stackTraces = false) (Bx : MB p s m #[Value.ref b] c c_Lw_law "AbnfChartLaw" D cy) (hml : c.maxLocals = 7) (E : EV D cy sz s) (hn : 243 ≤ n) (hX : va_X b 4 xs s s.heap) (hbl : b < s.heap.size) (hbA : ¬ Az sz b) (hI : LI cy ad mem) (hP : va_P D vcl (fw n ad mem) H) (hD : va_D (Az sz) (fw n ad mem)) (hS : va_S (Az sz) s.heap H locs) (hl : lv_has ls 7 [(4, .int (0)), (3, .ref (ad 242)), (2, .ref (ad 224)), (1, .ref (ad 0)), (0, .ref (b))])
    (K : ∀ (ls : Array Slot) (H : Heap) (locs : List Loc), va_S (Az sz) s.heap H locs → lv_has ls 7 [(4, .int 0), (0, .ref b)] → W p l e room_1 s m #[Value.ref b] below meth c H locs 600002 7302232 Q (F0 m 734 ls [])) : W p l e room_1 s m #[Value.ref b] below meth c H locs 243 7734 Q (F0 m 678 ls []) := by
  obtain ⟨h0, h1, h2, h3, h4, h5, h6, h9, hc, hm, ht, hi, ho⟩ := hI
  refine lv_aload_n Bx.1 Bx.2.1 d_Lw_law_678 rfl (lv_at hl 3 rfl) ?_
  refine lv_aload_n Bx.1 Bx.2.1 d_Lw_law_679 rfl (lv_at hl 4 rfl) ?_
  refine lv_iload Bx.1 Bx.2.1 d_Lw_law_680 (lv_at hl 0 rfl) ?_
  refine lv_iconst (v := 1) Bx.1 Bx.2.1 d_Lw_law_682 (by decide) ?_
  refine lv_iadd Bx.1 Bx.2.1 d_Lw_law_683 ?_
  refine f_sld Bx.1 Bx.2.1 hX hbl hbA hS 1 (by decide) (by decide) (by decide) d_Lw_law_684 ?_
  refine lv_aload_n Bx.1 Bx.2.1 d_Lw_law_685 rfl (lv_at hl 1 rfl) ?_
  refine f_callL (na := 3) (As := [.ref (ad 0), .int (xs 1), .ref (ad 242)]) (rest := []) Bx hml E hP hD hS (m_Lw_count l hlt hn h0 ho h5) kw_633 kw_634 kw_0 kw_635 (by decide +kernel) ⟨rfl, rfl⟩ ⟨Nat.le_of_ble_eq_true rfl, Nat.le_of_ble_eq_true rfl⟩ rfl hl.1 (Nat.le_of_ble_eq_true rfl) d_Lw_law_686 ⟨Nat.le_of_ble_eq_true rfl, Nat.le_of_ble_eq_true rfl⟩ (fun r9 mem9 H locs hq hP hS => ?_)
  have hD : va_D (Az sz) (fw n ad mem9) := fw_D hD
  have hA : ∃ ou9 : Nat → Int64, mem9 242 = .inl (cy 2, 1, .inr (.inl ou9)) ∧ mem9 224 = moC ad J0 ∧ ((r9 = 0 ∧ (xs 1 = 0 ∨ xs 1 = 1 ∨ xs 1 = 2) ∧ ou9 0 = (0 : Int32).toInt64) ∨ (r9 = 1 ∧ xs 1 ≠ 0 ∧ xs 1 ≠ 1 ∧ xs 1 ≠ 2)) := by
    rcases hq with ⟨hr, hk, hm9⟩ | ⟨hr, hm9, hk⟩
    · exact ⟨_, by rw [hm9, va_up_self], by rw [hm9, va_up_ne _ _ (by decide)]; exact hm, Or.inl ⟨hr, hk, rfl⟩⟩
    · exact ⟨_, by rw [hm9]; exact ho, by rw [hm9]; exact hm, Or.inr ⟨hr, hk⟩⟩
  obtain ⟨ou9, ho9, hm9, hC⟩ := hA
  refine lv_istore (lv' := [(5, .int (r9)), (4, .int (0)), (3, .ref (ad 242)), (2, .ref (ad 224)), (1, .ref (ad 0)), (0, .ref (b))]) Bx.1 Bx.2.1 d_Lw_law_689 hl (by decide) rfl (fun ls hl => ?_)
  refine lv_aload_n Bx.1 Bx.2.1 d_Lw_law_691 rfl (lv_at hl 3 rfl) ?_
  refine lv_aload_n Bx.1 Bx.2.1 d_Lw_law_692 rfl (lv_at hl 5 rfl) ?_
  refine lv_iload Bx.1 Bx.2.1 d_Lw_law_693 (lv_at hl 1 rfl) ?_
  refine lv_iconst (v := 1) Bx.1 Bx.2.1 d_Lw_law_695 (by decide) ?_
  refine lv_iadd Bx.1 Bx.2.1 d_Lw_law_696 ?_
  refine f_sld Bx.1 Bx.2.1 hX hbl hbA hS 1 (by decide) (by decide) (by decide) d_Lw_law_697 ?_
  refine f_callVi (na := 1) (As := [.int (xs 1)]) (rest := []) Bx hml E hP hD hS (by omega) hm9 rfl (m_Mo_count0 l (by omega) hm9 (show J0 4 = 0 from rfl) (show J0 7 = 0 from rfl)) kw_910 kw_911 kw_912 kw_8 kw_913 (by decide +kernel) ⟨rfl, rfl⟩ ⟨Nat.le_of_ble_eq_true rfl, Nat.le_of_ble_eq_true rfl⟩ rfl hl.1 (Nat.le_of_ble_eq_true rfl) d_Lw_law_698 ⟨Nat.le_of_ble_eq_true rfl, Nat.le_of_ble_eq_true rfl⟩ (fun r1 mem2 H locs hq2 hP hS => ?_)
  have hD : va_D (Az sz) (fw n ad mem2) := fw_D hD
  obtain ⟨hr10, J', hm10e, hJ⟩ := hq2
  have hm10 : mem2 224 = moC ad J' := by rw [hm10e, va_up_self]
  have ho10 : mem2 242 = .inl (cy 2, 1, .inr (.inl ou9)) := by rw [hm10e, va_up_ne _ _ (by decide)]; exact ho9
  have hag := cnt_agree hC hr10 hJ.1
  refine lv_istore (lv' := [(6, .int (r1)), (5, .int (r9)), (4, .int (0)), (3, .ref (ad 242)), (2, .ref (ad 224)), (1, .ref (ad 0)), (0, .ref (b))]) Bx.1 Bx.2.1 d_Lw_law_701 hl (by decide) rfl (fun ls hl => ?_)
  refine lv_aload_n Bx.1 Bx.2.1 d_Lw_law_703 rfl (lv_at hl 4 rfl) ?_
  refine f_callVi (na := 0) (As := []) (rest := []) Bx hml E hP hD hS (by omega) hm10 rfl (m_Mo_thrown l (by omega) hm10) kw_746 kw_747 kw_748 kw_8 kw_749 (by decide +kernel) ⟨rfl, rfl⟩ ⟨Nat.le_of_ble_eq_true rfl, Nat.le_of_ble_eq_true rfl⟩ rfl hl.1 (Nat.le_of_ble_eq_true rfl) d_Lw_law_704 ⟨Nat.le_of_ble_eq_true rfl, Nat.le_of_ble_eq_true rfl⟩ (fun r3 mem4 H locs hq3 hP hS => ?_)
  obtain ⟨hr3, mem4e⟩ := hq3
  rw [mem4e] at hP
  refine lv_iload Bx.1 Bx.2.1 d_Lw_law_707 (lv_at hl 1 rfl) ?_
  refine lv_icmp_eq Bx.1 Bx.2.1 d_Lw_law_709 rfl (fun h => ?_) (fun h => ?_)
  · refine lv_iload Bx.1 Bx.2.1 d_Lw_law_714 (lv_at hl 1 rfl) ?_
    refine lv_if_ne Bx.1 Bx.2.1 d_Lw_law_716 rfl (fun h => ?_) (fun h => ?_)
    · refine lv_goto Bx.1 Bx.2.1 d_Lw_law_731 rfl ?_
      exact W.widen (Nat.le_of_ble_eq_true rfl) (Nat.le_of_ble_eq_true rfl) (K _ _ _ hS (lv_sub hl [2, 6] rfl))
    · have hz : r9 = 0 := by first | exact h | exact Classical.byContradiction h | exact Decidable.of_not_not h
      refine lv_aload_n Bx.1 Bx.2.1 d_Lw_law_719 rfl (lv_at hl 3 rfl) ?_
      refine lv_iconst (v := 0) Bx.1 Bx.2.1 d_Lw_law_720 (by decide) ?_
      refine f_lald (i := 0) Bx hP (by omega) ho10 (vp_in_nI (n := 0) (by decide) (by decide)) d_Lw_law_721 ?_
      refine lv_iload Bx.1 Bx.2.1 d_Lw_law_722 (lv_at hl 0 rfl) ?_
      refine lv_i2l Bx.1 Bx.2.1 d_Lw_law_724 rfl ?_
      refine W.lcmp Bx.1 Bx.2.1 d_Lw_law_725 ?_
      refine lv_if_eq Bx.1 Bx.2.1 d_Lw_law_726 rfl (fun h => ?_) (fun h => ?_)
      · refine lv_goto Bx.1 Bx.2.1 d_Lw_law_731 rfl ?_
        exact W.widen (Nat.le_of_ble_eq_true rfl) (Nat.le_of_ble_eq_true rfl) (K _ _ _ hS (lv_sub hl [2, 6] rfl))
      · exact absurd ((lg_cmp_eq _ _).mpr (hag.2 hz)) h
  · exact absurd (hr3.trans hag.1) h
set_option maxHeartbeats 200000 in
set_option maxRecDepth 100000 in
theorem k_erase {p : Program} {e : Env} {s : State} {m : MethodId} {below : List Frame} {meth : Method} {c : Code} (l : Launch) {D : va_G} {cy : Nat → ClassId} {sz n b : Nat} {ad : Nat → Nat} {mem : Nat → va_E} {xs : Nat → Int32} {H : Heap} {locs : List Loc} {ls : Array Slot} {Q : State → Prop} (hlt : l.stackTraces = false) (Bx : MB p s m #[Value.ref b] c c_Lw_law "AbnfChartLaw" D cy) (hml : c.maxLocals = 7) (E : EV D cy sz s) (hn : 243 ≤ n) (hX : va_X b 4 xs s s.heap) (hbl : b < s.heap.size) (hbA : ¬ Az sz b) (hI : LI cy ad mem) (hP : va_P D vcl (fw n ad mem) H) (hD : va_D (Az sz) (fw n ad mem)) (hS : va_S (Az sz) s.heap H locs) (hl : lv_has ls 7 [(4, .int (0)), (3, .ref (ad 242)), (2, .ref (ad 224)), (1, .ref (ad 0)), (0, .ref (b))])
    (K : ∀ (ls : Array Slot) (H : Heap) (locs : List Loc), va_S (Az sz) s.heap H locs → lv_has ls 7 [(4, .int 0), (0, .ref b)] → W p l e room_1 s m #[Value.ref b] below meth c H locs 600002 7302232 Q (F0 m 734 ls [])) : W p l e room_1 s m #[Value.ref b] below meth c H locs 243 7734 Q (F0 m 196 ls []) := by
  obtain ⟨h0, h1, h2, h3, h4, h5, h6, h9, hc, hm, ht, hi, ho⟩ := hI
  refine lv_aload_n Bx.1 Bx.2.1 d_Lw_law_196 rfl (lv_at hl 3 rfl) ?_
  refine f_callVi (na := 0) (As := []) (rest := []) Bx hml E hP hD hS (by omega) h0 rfl (m_Ab_erase l (by omega) h0 h1) kw_190 kw_191 kw_192 kw_1 kw_193 (by decide +kernel) ⟨rfl, rfl⟩ ⟨Nat.le_of_ble_eq_true rfl, Nat.le_of_ble_eq_true rfl⟩ rfl hl.1 (Nat.le_of_ble_eq_true rfl) d_Lw_law_197 ⟨Nat.le_of_ble_eq_true rfl, Nat.le_of_ble_eq_true rfl⟩ (fun r1 mem2 H locs hq hP hS => ?_)
  have hD : va_D (Az sz) (fw n ad mem2) := fw_D hD
  obtain ⟨hr9, hm9e⟩ := hq
  have hm9 : mem2 224 = moC ad J0 := by rw [hm9e, va_up_ne _ _ (by decide)]; exact hm
  refine lv_aload_n Bx.1 Bx.2.1 d_Lw_law_200 rfl (lv_at hl 2 rfl) ?_
  refine f_callVi (na := 0) (As := []) (rest := [.int (r1)]) Bx hml E hP hD hS (by omega) hm9 rfl (m_Mo_erase l (by omega) hm9) kw_762 kw_763 kw_764 kw_8 kw_765 (by decide +kernel) ⟨rfl, rfl⟩ ⟨Nat.le_of_ble_eq_true rfl, Nat.le_of_ble_eq_true rfl⟩ rfl hl.1 (Nat.le_of_ble_eq_true rfl) d_Lw_law_201 ⟨Nat.le_of_ble_eq_true rfl, Nat.le_of_ble_eq_true rfl⟩ (fun r3 mem4 H locs hq2 hP hS => ?_)
  have hD : va_D (Az sz) (fw n ad mem4) := fw_D hD
  obtain ⟨hr10, hm10e⟩ := hq2
  refine lv_icmp_eq Bx.1 Bx.2.1 d_Lw_law_204 rfl (fun h => ?_) (fun h => ?_)
  · exact W.widen (Nat.le_of_ble_eq_true rfl) (Nat.le_of_ble_eq_true rfl) (K _ _ _ hS (lv_sub hl [0, 4] rfl))
  · exact absurd (hr9.trans ((show _ = J0 1 from rfl).trans hr10.symm)) h
set_option maxHeartbeats 200000 in
set_option maxRecDepth 100000 in
theorem k_place {p : Program} {e : Env} {s : State} {m : MethodId} {below : List Frame} {meth : Method} {c : Code} (l : Launch) {D : va_G} {cy : Nat → ClassId} {sz n b : Nat} {ad : Nat → Nat} {mem : Nat → va_E} {xs : Nat → Int32} {H : Heap} {locs : List Loc} {ls : Array Slot} {Q : State → Prop} (hlt : l.stackTraces = false) (Bx : MB p s m #[Value.ref b] c c_Lw_law "AbnfChartLaw" D cy) (hml : c.maxLocals = 7) (E : EV D cy sz s) (hn : 243 ≤ n) (hX : va_X b 4 xs s s.heap) (hbl : b < s.heap.size) (hbA : ¬ Az sz b) (hI : LI cy ad mem) (hP : va_P D vcl (fw n ad mem) H) (hD : va_D (Az sz) (fw n ad mem)) (hS : va_S (Az sz) s.heap H locs) (hl : lv_has ls 7 [(4, .int (0)), (3, .ref (ad 242)), (2, .ref (ad 224)), (1, .ref (ad 0)), (0, .ref (b))])
    (K : ∀ (ls : Array Slot) (H : Heap) (locs : List Loc), va_S (Az sz) s.heap H locs → lv_has ls 7 [(4, .int 0), (0, .ref b)] → W p l e room_1 s m #[Value.ref b] below meth c H locs 600002 7302232 Q (F0 m 734 ls [])) : W p l e room_1 s m #[Value.ref b] below meth c H locs 243 7734 Q (F0 m 253 ls []) := by
  obtain ⟨h0, h1, h2, h3, h4, h5, h6, h9, hc, hm, ht, hi, ho⟩ := hI
  refine lv_aload_n Bx.1 Bx.2.1 d_Lw_law_253 rfl (lv_at hl 3 rfl) ?_
  refine f_callVi (na := 0) (As := []) (rest := []) Bx hml E hP hD hS (by omega) h0 rfl (m_Ab_place l (by omega) h0 h9) kw_198 kw_199 kw_200 kw_1 kw_201 (by decide +kernel) ⟨rfl, rfl⟩ ⟨Nat.le_of_ble_eq_true rfl, Nat.le_of_ble_eq_true rfl⟩ rfl hl.1 (Nat.le_of_ble_eq_true rfl) d_Lw_law_254 ⟨Nat.le_of_ble_eq_true rfl, Nat.le_of_ble_eq_true rfl⟩ (fun r1 mem2 H locs hq hP hS => ?_)
  have hD : va_D (Az sz) (fw n ad mem2) := fw_D hD
  obtain ⟨hr9, hm9e⟩ := hq
  have hm9 : mem2 224 = moC ad J0 := by rw [hm9e]; exact hm
  refine lv_aload_n Bx.1 Bx.2.1 d_Lw_law_257 rfl (lv_at hl 2 rfl) ?_
  refine f_callVi (na := 0) (As := []) (rest := [.int (r1)]) Bx hml E hP hD hS (by omega) hm9 rfl (m_Mo_place l (by omega) hm9) kw_857 kw_858 kw_859 kw_8 kw_860 (by decide +kernel) ⟨rfl, rfl⟩ ⟨Nat.le_of_ble_eq_true rfl, Nat.le_of_ble_eq_true rfl⟩ rfl hl.1 (Nat.le_of_ble_eq_true rfl) d_Lw_law_258 ⟨Nat.le_of_ble_eq_true rfl, Nat.le_of_ble_eq_true rfl⟩ (fun r3 mem4 H locs hq2 hP hS => ?_)
  have hD : va_D (Az sz) (fw n ad mem4) := fw_D hD
  obtain ⟨hr10, hm10e⟩ := hq2
  refine lv_icmp_eq Bx.1 Bx.2.1 d_Lw_law_261 rfl (fun h => ?_) (fun h => ?_)
  · exact W.widen (Nat.le_of_ble_eq_true rfl) (Nat.le_of_ble_eq_true rfl) (K _ _ _ hS (lv_sub hl [0, 4] rfl))
  · exact absurd (hr9.trans ((show _ = J0 3 from rfl).trans hr10.symm)) h
set_option maxHeartbeats 200000 in
set_option maxRecDepth 100000 in
theorem k_drop {p : Program} {e : Env} {s : State} {m : MethodId} {below : List Frame} {meth : Method} {c : Code} (l : Launch) {D : va_G} {cy : Nat → ClassId} {sz n b : Nat} {ad : Nat → Nat} {mem : Nat → va_E} {xs : Nat → Int32} {H : Heap} {locs : List Loc} {ls : Array Slot} {Q : State → Prop} (hlt : l.stackTraces = false) (Bx : MB p s m #[Value.ref b] c c_Lw_law "AbnfChartLaw" D cy) (hml : c.maxLocals = 7) (E : EV D cy sz s) (hn : 243 ≤ n) (hX : va_X b 4 xs s s.heap) (hbl : b < s.heap.size) (hbA : ¬ Az sz b) (hI : LI cy ad mem) (hP : va_P D vcl (fw n ad mem) H) (hD : va_D (Az sz) (fw n ad mem)) (hS : va_S (Az sz) s.heap H locs) (hl : lv_has ls 7 [(4, .int (0)), (3, .ref (ad 242)), (2, .ref (ad 224)), (1, .ref (ad 0)), (0, .ref (b))])
    (K : ∀ (ls : Array Slot) (H : Heap) (locs : List Loc), va_S (Az sz) s.heap H locs → lv_has ls 7 [(4, .int 0), (0, .ref b)] → W p l e room_1 s m #[Value.ref b] below meth c H locs 600002 7302232 Q (F0 m 734 ls [])) : W p l e room_1 s m #[Value.ref b] below meth c H locs 243 7734 Q (F0 m 454 ls []) := by
  obtain ⟨h0, h1, h2, h3, h4, h5, h6, h9, hc, hm, ht, hi, ho⟩ := hI
  refine lv_aload_n Bx.1 Bx.2.1 d_Lw_law_454 rfl (lv_at hl 3 rfl) ?_
  refine f_callVi (na := 0) (As := []) (rest := []) Bx hml E hP hD hS (by omega) h0 rfl (m_Ab_drop l (by omega) h0 h3 hc) kw_202 kw_203 kw_204 kw_1 kw_205 (by decide +kernel) ⟨rfl, rfl⟩ ⟨Nat.le_of_ble_eq_true rfl, Nat.le_of_ble_eq_true rfl⟩ rfl hl.1 (Nat.le_of_ble_eq_true rfl) d_Lw_law_455 ⟨Nat.le_of_ble_eq_true rfl, Nat.le_of_ble_eq_true rfl⟩ (fun r1 mem2 H locs hq hP hS => ?_)
  have hD : va_D (Az sz) (fw n ad mem2) := fw_D hD
  obtain ⟨hr9, hm9e⟩ := hq
  have hm9 : mem2 224 = moC ad J0 := by rw [hm9e, va_up_ne _ _ (by decide), va_up_ne _ _ (by decide)]; exact hm
  refine lv_aload_n Bx.1 Bx.2.1 d_Lw_law_458 rfl (lv_at hl 2 rfl) ?_
  refine f_callVi (na := 0) (As := []) (rest := [.int (r1)]) Bx hml E hP hD hS (by omega) hm9 rfl (m_Mo_drop l (by omega) hm9) kw_870 kw_871 kw_872 kw_8 kw_873 (by decide +kernel) ⟨rfl, rfl⟩ ⟨Nat.le_of_ble_eq_true rfl, Nat.le_of_ble_eq_true rfl⟩ rfl hl.1 (Nat.le_of_ble_eq_true rfl) d_Lw_law_459 ⟨Nat.le_of_ble_eq_true rfl, Nat.le_of_ble_eq_true rfl⟩ (fun r3 mem4 H locs hq2 hP hS => ?_)
  have hD : va_D (Az sz) (fw n ad mem4) := fw_D hD
  obtain ⟨hr10, hm10e⟩ := hq2
  refine lv_icmp_eq Bx.1 Bx.2.1 d_Lw_law_462 rfl (fun h => ?_) (fun h => ?_)
  · exact W.widen (Nat.le_of_ble_eq_true rfl) (Nat.le_of_ble_eq_true rfl) (K _ _ _ hS (lv_sub hl [0, 4] rfl))
  · exact absurd (hr9.trans ((show _ = J0 24 from rfl).trans hr10.symm)) h
