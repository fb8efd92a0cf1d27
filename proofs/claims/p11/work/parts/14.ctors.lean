theorem d_Ch_init_0 : decode c_Ch_init 0 = .ok (.aload_n 0, 1) := by decide +kernel
theorem d_Ch_init_1 : decode c_Ch_init 1 = .ok (.invokespecial 3, 3) := by decide +kernel
theorem d_Ch_init_4 : decode c_Ch_init 4 = .ok (.aload_n 0, 1) := by decide +kernel
theorem d_Ch_init_5 : decode c_Ch_init 5 = .ok (.iload_n 1, 1) := by decide +kernel
theorem d_Ch_init_6 : decode c_Ch_init 6 = .ok (.newarray .char, 2) := by decide +kernel
theorem d_Ch_init_8 : decode c_Ch_init 8 = .ok (.putfield 9, 3) := by decide +kernel
theorem d_Ch_init_11 : decode c_Ch_init 11 = .ok (.aload_n 0, 1) := by decide +kernel
theorem d_Ch_init_12 : decode c_Ch_init 12 = .ok (.iconst 0, 1) := by decide +kernel
theorem d_Ch_init_13 : decode c_Ch_init 13 = .ok (.putfield 15, 3) := by decide +kernel
theorem d_Ch_init_16 : decode c_Ch_init 16 = .ok (.return_, 1) := by decide +kernel
theorem d_El_init_0 : decode c_El_init 0 = .ok (.aload_n 0, 1) := by decide +kernel
theorem d_El_init_1 : decode c_El_init 1 = .ok (.invokespecial 3, 3) := by decide +kernel
theorem d_El_init_4 : decode c_El_init 4 = .ok (.aload_n 0, 1) := by decide +kernel
theorem d_El_init_5 : decode c_El_init 5 = .ok (.bipush 25, 2) := by decide +kernel
theorem d_El_init_7 : decode c_El_init 7 = .ok (.newarray .int, 2) := by decide +kernel
theorem d_El_init_9 : decode c_El_init 9 = .ok (.putfield 9, 3) := by decide +kernel
theorem d_El_init_12 : decode c_El_init 12 = .ok (.return_, 1) := by decide +kernel
theorem d_Ru_init_0 : decode c_Ru_init 0 = .ok (.aload_n 0, 1) := by decide +kernel
theorem d_Ru_init_1 : decode c_Ru_init 1 = .ok (.invokespecial 1, 3) := by decide +kernel
theorem d_Ru_init_4 : decode c_Ru_init 4 = .ok (.return_, 1) := by decide +kernel
theorem d_Rd_init_0 : decode c_Rd_init 0 = .ok (.aload_n 0, 1) := by decide +kernel
theorem d_Rd_init_1 : decode c_Rd_init 1 = .ok (.invokespecial 3, 3) := by decide +kernel
theorem d_Rd_init_4 : decode c_Rd_init 4 = .ok (.aload_n 0, 1) := by decide +kernel
theorem d_Rd_init_5 : decode c_Rd_init 5 = .ok (.aload_n 1, 1) := by decide +kernel
theorem d_Rd_init_6 : decode c_Rd_init 6 = .ok (.putfield 9, 3) := by decide +kernel
theorem d_Rd_init_9 : decode c_Rd_init 9 = .ok (.aload_n 0, 1) := by decide +kernel
theorem d_Rd_init_10 : decode c_Rd_init 10 = .ok (.aload_n 2, 1) := by decide +kernel
theorem d_Rd_init_11 : decode c_Rd_init 11 = .ok (.putfield 15, 3) := by decide +kernel
theorem d_Rd_init_14 : decode c_Rd_init 14 = .ok (.aload_n 0, 1) := by decide +kernel
theorem d_Rd_init_15 : decode c_Rd_init 15 = .ok (.iconst 0, 1) := by decide +kernel
theorem d_Rd_init_16 : decode c_Rd_init 16 = .ok (.putfield 19, 3) := by decide +kernel
theorem d_Rd_init_19 : decode c_Rd_init 19 = .ok (.aload_n 0, 1) := by decide +kernel
theorem d_Rd_init_20 : decode c_Rd_init 20 = .ok (.iconst (-1), 1) := by decide +kernel
theorem d_Rd_init_21 : decode c_Rd_init 21 = .ok (.putfield 23, 3) := by decide +kernel
theorem d_Rd_init_24 : decode c_Rd_init 24 = .ok (.return_, 1) := by decide +kernel
theorem d_Ct_init_0 : decode c_Ct_init 0 = .ok (.aload_n 0, 1) := by decide +kernel
theorem d_Ct_init_1 : decode c_Ct_init 1 = .ok (.invokespecial 3, 3) := by decide +kernel
theorem d_Ct_init_4 : decode c_Ct_init 4 = .ok (.aload_n 0, 1) := by decide +kernel
theorem d_Ct_init_5 : decode c_Ct_init 5 = .ok (.aload_n 1, 1) := by decide +kernel
theorem d_Ct_init_6 : decode c_Ct_init 6 = .ok (.putfield 9, 3) := by decide +kernel
theorem d_Ct_init_9 : decode c_Ct_init 9 = .ok (.aload_n 0, 1) := by decide +kernel
theorem d_Ct_init_10 : decode c_Ct_init 10 = .ok (.aload_n 2, 1) := by decide +kernel
theorem d_Ct_init_11 : decode c_Ct_init 11 = .ok (.putfield 15, 3) := by decide +kernel
theorem d_Ct_init_14 : decode c_Ct_init 14 = .ok (.aload_n 0, 1) := by decide +kernel
theorem d_Ct_init_15 : decode c_Ct_init 15 = .ok (.iconst 0, 1) := by decide +kernel
theorem d_Ct_init_16 : decode c_Ct_init 16 = .ok (.putfield 19, 3) := by decide +kernel
theorem d_Ct_init_19 : decode c_Ct_init 19 = .ok (.return_, 1) := by decide +kernel
set_option maxHeartbeats 4000000 in
set_option maxRecDepth 100000 in
theorem m_Ch_init (l : Launch) {D : va_G} {cy : Nat → ClassId} {sz base : Nat} {mem : Nat → va_E} {n j K : Nat} (hbz : sz ≤ base) (hj : j < n) (hm : mem j = .inr (0, [.null, .int 0])) (hK : K = 240 ∨ K = 24) : MC l D cy sz base n (n + 1) y_Ch_init c_Ch_init 2 ({ frames := 1, cells := 1, slots := K, locals := 12 } : Room) mem [.ref ((adB base) j), .int (nI K)] (fun mem' => mem' = va_up (va_up mem n (.inl (cy 0, K, .inl (fun _ => 0)))) j (.inr (0, [.ref ((adB base) n), .int 0]))) 1 K := by
  refine Met.ofW (cc := c_Ch_init) (maxL := 2) (ret := none) (by decide) rfl ?_
  intro p e s m args below meth c s₁ B hml hv
  obtain ⟨rfl, ⟨E, hP, -⟩, hs0⟩ := hv
  have hx := B.exec
  have hb := B.bytes
  have hr := B.returns
  have hlocks := B.notSynchronized
  have Bx : MB p s m [.ref ((adB base) j), .int (nI K)].toArray c c_Ch_init "AbnfChart$Characters" D cy := ⟨hx, hb, tb_all (atoms_spec B.pre) E.2.1, findClass_of_methodNamed B.named, E.1⟩
  have hS : va_S (Az sz) s.heap s.heap [] := va_S.rf
  have hin : meth.name = "<init>" := (name_of_methodNamed B.named B.method).1
  have hl := lv_entry ([.ref ((adB base) j), .int (nI K)]) (n := 2) (Nat.le_of_ble_eq_true rfl)
  rw [lg_entry_eq]
  generalize (lg_sl ([.ref ((adB base) j), .int (nI K)]) ++ List.replicate (2 - (lg_sl ([.ref ((adB base) j), .int (nI K)])).length) Slot.unset).toArray = ls at hl ⊢
  have hl : lv_has ls 2 [(0, .ref ((adB base) j)), (1, .int (nI K))] := hl
  refine lv_aload_n Bx.1 Bx.2.1 d_Ch_init_0 rfl (lv_at hl 0 rfl) ?_
  refine W.objInit hx hb Bx.2.2.2.1 (Bx.2.2.1 _ (tb_g kw_30 rfl)) (Bx.2.2.1 _ (tb_g kw_23 rfl)) (Bx.2.2.1 _ (tb_g kw_24 rfl)) rfl (by rw [hml]; exact hl.1) rfl d_Ch_init_1 (Nat.le_of_ble_eq_true rfl) (Nat.le_of_ble_eq_true rfl) ?_
  refine W.eq (g2 := F0 m 4 ls []) rfl ?_
  refine lv_aload_n Bx.1 Bx.2.1 d_Ch_init_4 rfl (lv_at hl 0 rfl) ?_
  refine lv_iload_n Bx.1 Bx.2.1 d_Ch_init_5 rfl (lv_at hl 1 rfl) ?_
  refine c_size (n := n) hP (by omega) (by omega) (fun hz => ?_)
  refine f_newa (atype := .char) (n := n) (t0 := 0) (N' := K) Bx hP hS hz kw_41 (Bx.2.2.2.2.2 0 _ rfl).2 (K, .inl (fun _ => 0)) (fun _ => rfl) (nI_pos (by omega)) (nI_clamp (by omega)) (by show K * 2 ≤ _; omega) (Nat.le_of_ble_eq_true rfl) (by show 0 + K ≤ K; omega) d_Ch_init_6 (fun H hP hS hz => ?_)
  obtain ⟨mem1, e_mem1⟩ : ∃ z, z = va_up mem (n) (.inl (cy 0, (K, .inl (fun _ => 0)))) := ⟨_, rfl⟩
  have hP : va_P D vcl (fw (n + 1) (adB base) mem1) H := by rw [e_mem1]; exact hP
  have h_mem1 : mem1 (n) = .inl (cy 0, (K, .inl (fun _ => 0))) := by rw [e_mem1, va_up_self]
  have hh2 := (va_up_ne mem (.inl (cy 0, (K, .inl (fun _ => 0)))) (show (j : Nat) ≠ n by first | decide | assumption | omega)).trans hm
  rw [← e_mem1] at hh2
  refine f_putF Bx hin hP (adB_D hbz) hS (by omega) hh2 rfl inCh tyCh okCh nmCh 0 (by decide) kw_31 rfl rfl rfl rfl (Nat.le_of_ble_eq_true rfl) d_Ch_init_8 (fun H locs hP hS => ?_)
  obtain ⟨mem3, e_mem3⟩ : ∃ z, z = va_up mem1 (j) (.inr (0, [.ref ((adB base) n), .int (0)])) := ⟨_, rfl⟩
  have hP : va_P D vcl (fw (n + 1) (adB base) mem3) H := by rw [e_mem3]; exact hP
  have h_mem3 : mem3 (j) = .inr (0, [.ref ((adB base) n), .int (0)]) := by rw [e_mem3, va_up_self]
  refine lv_aload_n Bx.1 Bx.2.1 d_Ch_init_11 rfl (lv_at hl 0 rfl) ?_
  refine lv_iconst (v := 0) Bx.1 Bx.2.1 d_Ch_init_12 (by decide) ?_
  refine f_put Bx hP (adB_D hbz) hS (by omega) h_mem3 rfl inCh tyCh okCh nmCh 1 (by decide) kw_32 rfl rfl rfl rfl (Nat.le_of_ble_eq_true rfl) d_Ch_init_13 (fun H locs hP hS => ?_)
  obtain ⟨mem4, e_mem4⟩ : ∃ z, z = va_up mem3 (j) (.inr (0, [.ref ((adB base) n), .int (0)])) := ⟨_, rfl⟩
  have hP : va_P D vcl (fw (n + 1) (adB base) mem4) H := by rw [e_mem4]; exact hP
  have h_mem4 : mem4 (j) = .inr (0, [.ref ((adB base) n), .int (0)]) := by rw [e_mem4, va_up_self]
  refine c_size (n := (n + 1)) hP (by omega) (by omega) (fun hz => ?_)
  refine W.widen (k := 1) (n := K) (Nat.le_of_ble_eq_true rfl) (by omega) ?_
  exact W.vret hx hb hr (fun t ht hW => ⟨⟨mem4, rfl, by rw [e_mem4, e_mem3, e_mem1, up_up], by rw [ht]; exact hP, by rw [ht]; exact hz⟩, hS.F ht⟩) hS.2.2 d_Ch_init_16
set_option maxHeartbeats 4000000 in
set_option maxRecDepth 100000 in
theorem m_El_init (l : Launch) {D : va_G} {cy : Nat → ClassId} {sz base : Nat} {mem : Nat → va_E} {n j : Nat} (hbz : sz ≤ base) (hj : j < n) (hm : mem j = .inr (2, [.int 0, .int 0, .int 0, .null, .null, .null, .null])) : MC l D cy sz base n (n + 1) y_El_init c_El_init 1 ({ frames := 1, cells := 1, slots := 25, locals := 12 } : Room) mem [.ref ((adB base) j)] (fun mem' => mem' = va_up (va_up mem n (.inl (cy 1, 25, .inl (fun _ => 0)))) j (.inr (2, [.int 0, .int 0, .int 0, .null, .null, .null, .ref ((adB base) n)]))) 1 25 := by
  refine Met.ofW (cc := c_El_init) (maxL := 1) (ret := none) (by decide) rfl ?_
  intro p e s m args below meth c s₁ B hml hv
  obtain ⟨rfl, ⟨E, hP, -⟩, hs0⟩ := hv
  have hx := B.exec
  have hb := B.bytes
  have hr := B.returns
  have hlocks := B.notSynchronized
  have Bx : MB p s m [.ref ((adB base) j)].toArray c c_El_init "AbnfChart$Element" D cy := ⟨hx, hb, tb_all (atoms_spec B.pre) E.2.1, findClass_of_methodNamed B.named, E.1⟩
  have hS : va_S (Az sz) s.heap s.heap [] := va_S.rf
  have hin : meth.name = "<init>" := (name_of_methodNamed B.named B.method).1
  have hl := lv_entry ([.ref ((adB base) j)]) (n := 1) (Nat.le_of_ble_eq_true rfl)
  rw [lg_entry_eq]
  generalize (lg_sl ([.ref ((adB base) j)]) ++ List.replicate (1 - (lg_sl ([.ref ((adB base) j)])).length) Slot.unset).toArray = ls at hl ⊢
  have hl : lv_has ls 1 [(0, .ref ((adB base) j))] := hl
  refine lv_aload_n Bx.1 Bx.2.1 d_El_init_0 rfl (lv_at hl 0 rfl) ?_
  refine W.objInit hx hb Bx.2.2.2.1 (Bx.2.2.1 _ (tb_g kw_73 rfl)) (Bx.2.2.1 _ (tb_g kw_23 rfl)) (Bx.2.2.1 _ (tb_g kw_24 rfl)) rfl (by rw [hml]; exact hl.1) rfl d_El_init_1 (Nat.le_of_ble_eq_true rfl) (Nat.le_of_ble_eq_true rfl) ?_
  refine W.eq (g2 := F0 m 4 ls []) rfl ?_
  refine lv_aload_n Bx.1 Bx.2.1 d_El_init_4 rfl (lv_at hl 0 rfl) ?_
  refine lv_bipush (v := 25) Bx.1 Bx.2.1 d_El_init_5 (by decide) ?_
  refine c_size (n := n) hP (by omega) (by omega) (fun hz => ?_)
  refine f_newa (atype := .int) (n := n) (t0 := 1) (N' := 25) Bx hP hS hz kw_110 (Bx.2.2.2.2.2 1 _ rfl).2 (25, .inl (fun _ => 0)) (fun _ => rfl) (by decide) (by decide) (by decide) (Nat.le_of_ble_eq_true rfl) (Nat.le_of_ble_eq_true rfl) d_El_init_7 (fun H hP hS hz => ?_)
  obtain ⟨mem1, e_mem1⟩ : ∃ z, z = va_up mem (n) (.inl (cy 1, (25, .inl (fun _ => 0)))) := ⟨_, rfl⟩
  have hP : va_P D vcl (fw (n + 1) (adB base) mem1) H := by rw [e_mem1]; exact hP
  have h_mem1 : mem1 (n) = .inl (cy 1, (25, .inl (fun _ => 0))) := by rw [e_mem1, va_up_self]
  have hh2 := (va_up_ne mem (.inl (cy 1, (25, .inl (fun _ => 0)))) (show (j : Nat) ≠ n by first | decide | assumption | omega)).trans hm
  rw [← e_mem1] at hh2
  refine f_putF Bx hin hP (adB_D hbz) hS (by omega) hh2 rfl inEl tyEl okEl nmEl 6 (by decide) kw_93 rfl rfl rfl rfl (Nat.le_of_ble_eq_true rfl) d_El_init_9 (fun H locs hP hS => ?_)
  obtain ⟨mem3, e_mem3⟩ : ∃ z, z = va_up mem1 (j) (.inr (2, [.int (0), .int (0), .int (0), .null, .null, .null, .ref ((adB base) n)])) := ⟨_, rfl⟩
  have hP : va_P D vcl (fw (n + 1) (adB base) mem3) H := by rw [e_mem3]; exact hP
  have h_mem3 : mem3 (j) = .inr (2, [.int (0), .int (0), .int (0), .null, .null, .null, .ref ((adB base) n)]) := by rw [e_mem3, va_up_self]
  refine c_size (n := (n + 1)) hP (by omega) (by omega) (fun hz => ?_)
  refine W.widen (k := 1) (n := 25) (Nat.le_of_ble_eq_true rfl) (Nat.le_of_ble_eq_true rfl) ?_
  exact W.vret hx hb hr (fun t ht hW => ⟨⟨mem3, rfl, by rw [e_mem3, e_mem1], by rw [ht]; exact hP, by rw [ht]; exact hz⟩, hS.F ht⟩) hS.2.2 d_El_init_12
set_option maxHeartbeats 4000000 in
set_option maxRecDepth 100000 in
theorem m_Ru_init (l : Launch) {D : va_G} {cy : Nat → ClassId} {sz base : Nat} {mem : Nat → va_E} {n j : Nat} (hbz : sz ≤ base) (hj : j < n) : MC l D cy sz base n n y_Ru_init c_Ru_init 1 ({ frames := 1, cells := 0, slots := 0, locals := 12 } : Room) mem [.ref ((adB base) j)] (fun mem' => mem' = mem) 0 0 := by
  refine Met.ofW (cc := c_Ru_init) (maxL := 1) (ret := none) (by decide) rfl ?_
  intro p e s m args below meth c s₁ B hml hv
  obtain ⟨rfl, ⟨E, hP, -⟩, hs0⟩ := hv
  have hx := B.exec
  have hb := B.bytes
  have hr := B.returns
  have hlocks := B.notSynchronized
  have Bx : MB p s m [.ref ((adB base) j)].toArray c c_Ru_init "AbnfChart$Rule" D cy := ⟨hx, hb, tb_all (atoms_spec B.pre) E.2.1, findClass_of_methodNamed B.named, E.1⟩
  have hS : va_S (Az sz) s.heap s.heap [] := va_S.rf
  have hin : meth.name = "<init>" := (name_of_methodNamed B.named B.method).1
  have hl := lv_entry ([.ref ((adB base) j)]) (n := 1) (Nat.le_of_ble_eq_true rfl)
  rw [lg_entry_eq]
  generalize (lg_sl ([.ref ((adB base) j)]) ++ List.replicate (1 - (lg_sl ([.ref ((adB base) j)])).length) Slot.unset).toArray = ls at hl ⊢
  have hl : lv_has ls 1 [(0, .ref ((adB base) j))] := hl
  refine lv_aload_n Bx.1 Bx.2.1 d_Ru_init_0 rfl (lv_at hl 0 rfl) ?_
  refine W.objInit hx hb Bx.2.2.2.1 (Bx.2.2.1 _ (tb_g kw_54 rfl)) (Bx.2.2.1 _ (tb_g kw_23 rfl)) (Bx.2.2.1 _ (tb_g kw_24 rfl)) rfl (by rw [hml]; exact hl.1) rfl d_Ru_init_1 (Nat.le_of_ble_eq_true rfl) (Nat.le_of_ble_eq_true rfl) ?_
  refine W.eq (g2 := F0 m 4 ls []) rfl ?_
  refine c_size (n := n) hP (by omega) (by omega) (fun hz => ?_)
  refine W.widen (k := 0) (n := 0) (Nat.le_of_ble_eq_true rfl) (Nat.le_of_ble_eq_true rfl) ?_
  exact W.vret hx hb hr (fun t ht hW => ⟨⟨mem, rfl, rfl, by rw [ht]; exact hP, by rw [ht]; exact hz⟩, hS.F ht⟩) hS.2.2 d_Ru_init_4
set_option maxHeartbeats 4000000 in
set_option maxRecDepth 100000 in
theorem m_Rd_init (l : Launch) {D : va_G} {cy : Nat → ClassId} {sz base : Nat} {mem : Nat → va_E} {n j a b : Nat} (hbz : sz ≤ base) (hj : j < n) (hm : mem j = .inr (4, [.null, .null, .int 0, .int 0])) : MC l D cy sz base n n y_Rd_init c_Rd_init 3 ({ frames := 1, cells := 0, slots := 0, locals := 12 } : Room) mem [.ref ((adB base) j), .ref (a), .ref (b)] (fun mem' => mem' = va_up mem j (.inr (4, [.ref a, .ref b, .int 0, .int (-1)]))) 0 0 := by
  refine Met.ofW (cc := c_Rd_init) (maxL := 3) (ret := none) (by decide) rfl ?_
  intro p e s m args below meth c s₁ B hml hv
  obtain ⟨rfl, ⟨E, hP, -⟩, hs0⟩ := hv
  have hx := B.exec
  have hb := B.bytes
  have hr := B.returns
  have hlocks := B.notSynchronized
  have Bx : MB p s m [.ref ((adB base) j), .ref (a), .ref (b)].toArray c c_Rd_init "AbnfChart$Reader" D cy := ⟨hx, hb, tb_all (atoms_spec B.pre) E.2.1, findClass_of_methodNamed B.named, E.1⟩
  have hS : va_S (Az sz) s.heap s.heap [] := va_S.rf
  have hin : meth.name = "<init>" := (name_of_methodNamed B.named B.method).1
  have hl := lv_entry ([.ref ((adB base) j), .ref (a), .ref (b)]) (n := 3) (Nat.le_of_ble_eq_true rfl)
  rw [lg_entry_eq]
  generalize (lg_sl ([.ref ((adB base) j), .ref (a), .ref (b)]) ++ List.replicate (3 - (lg_sl ([.ref ((adB base) j), .ref (a), .ref (b)])).length) Slot.unset).toArray = ls at hl ⊢
  have hl : lv_has ls 3 [(0, .ref ((adB base) j)), (1, .ref (a)), (2, .ref (b))] := hl
  refine lv_aload_n Bx.1 Bx.2.1 d_Rd_init_0 rfl (lv_at hl 0 rfl) ?_
  refine W.objInit hx hb Bx.2.2.2.1 (Bx.2.2.1 _ (tb_g kw_143 rfl)) (Bx.2.2.1 _ (tb_g kw_23 rfl)) (Bx.2.2.1 _ (tb_g kw_24 rfl)) rfl (by rw [hml]; exact hl.1) rfl d_Rd_init_1 (Nat.le_of_ble_eq_true rfl) (Nat.le_of_ble_eq_true rfl) ?_
  refine W.eq (g2 := F0 m 4 ls []) rfl ?_
  refine lv_aload_n Bx.1 Bx.2.1 d_Rd_init_4 rfl (lv_at hl 0 rfl) ?_
  refine lv_aload_n Bx.1 Bx.2.1 d_Rd_init_5 rfl (lv_at hl 1 rfl) ?_
  refine f_putF Bx hin hP (adB_D hbz) hS hj hm rfl inRd tyRd okRd nmRd 0 (by decide) kw_144 rfl rfl rfl rfl (Nat.le_of_ble_eq_true rfl) d_Rd_init_6 (fun H locs hP hS => ?_)
  obtain ⟨mem1, e_mem1⟩ : ∃ z, z = va_up mem (j) (.inr (4, [.ref (a), .null, .int (0), .int (0)])) := ⟨_, rfl⟩
  have hP : va_P D vcl (fw n (adB base) mem1) H := by rw [e_mem1]; exact hP
  have h_mem1 : mem1 (j) = .inr (4, [.ref (a), .null, .int (0), .int (0)]) := by rw [e_mem1, va_up_self]
  refine lv_aload_n Bx.1 Bx.2.1 d_Rd_init_9 rfl (lv_at hl 0 rfl) ?_
  refine lv_aload_n Bx.1 Bx.2.1 d_Rd_init_10 rfl (lv_at hl 2 rfl) ?_
  refine f_putF Bx hin hP (adB_D hbz) hS hj h_mem1 rfl inRd tyRd okRd nmRd 1 (by decide) kw_145 rfl rfl rfl rfl (Nat.le_of_ble_eq_true rfl) d_Rd_init_11 (fun H locs hP hS => ?_)
  obtain ⟨mem2, e_mem2⟩ : ∃ z, z = va_up mem1 (j) (.inr (4, [.ref (a), .ref (b), .int (0), .int (0)])) := ⟨_, rfl⟩
  have hP : va_P D vcl (fw n (adB base) mem2) H := by rw [e_mem2]; exact hP
  have h_mem2 : mem2 (j) = .inr (4, [.ref (a), .ref (b), .int (0), .int (0)]) := by rw [e_mem2, va_up_self]
  refine lv_aload_n Bx.1 Bx.2.1 d_Rd_init_14 rfl (lv_at hl 0 rfl) ?_
  refine lv_iconst (v := 0) Bx.1 Bx.2.1 d_Rd_init_15 (by decide) ?_
  refine f_put Bx hP (adB_D hbz) hS hj h_mem2 rfl inRd tyRd okRd nmRd 2 (by decide) kw_146 rfl rfl rfl rfl (Nat.le_of_ble_eq_true rfl) d_Rd_init_16 (fun H locs hP hS => ?_)
  obtain ⟨mem3, e_mem3⟩ : ∃ z, z = va_up mem2 (j) (.inr (4, [.ref (a), .ref (b), .int (0), .int (0)])) := ⟨_, rfl⟩
  have hP : va_P D vcl (fw n (adB base) mem3) H := by rw [e_mem3]; exact hP
  have h_mem3 : mem3 (j) = .inr (4, [.ref (a), .ref (b), .int (0), .int (0)]) := by rw [e_mem3, va_up_self]
  refine lv_aload_n Bx.1 Bx.2.1 d_Rd_init_19 rfl (lv_at hl 0 rfl) ?_
  refine lv_iconst (v := -1) Bx.1 Bx.2.1 d_Rd_init_20 (by decide) ?_
  refine f_put Bx hP (adB_D hbz) hS hj h_mem3 rfl inRd tyRd okRd nmRd 3 (by decide) kw_147 rfl rfl rfl rfl (Nat.le_of_ble_eq_true rfl) d_Rd_init_21 (fun H locs hP hS => ?_)
  obtain ⟨mem4, e_mem4⟩ : ∃ z, z = va_up mem3 (j) (.inr (4, [.ref (a), .ref (b), .int (0), .int ((-1))])) := ⟨_, rfl⟩
  have hP : va_P D vcl (fw n (adB base) mem4) H := by rw [e_mem4]; exact hP
  have h_mem4 : mem4 (j) = .inr (4, [.ref (a), .ref (b), .int (0), .int ((-1))]) := by rw [e_mem4, va_up_self]
  refine c_size (n := n) hP (by omega) (by omega) (fun hz => ?_)
  refine W.widen (k := 0) (n := 0) (Nat.le_of_ble_eq_true rfl) (Nat.le_of_ble_eq_true rfl) ?_
  exact W.vret hx hb hr (fun t ht hW => ⟨⟨mem4, rfl, by rw [e_mem4, e_mem3, e_mem2, e_mem1, up_up, up_up, up_up], by rw [ht]; exact hP, by rw [ht]; exact hz⟩, hS.F ht⟩) hS.2.2 d_Rd_init_24
set_option maxHeartbeats 4000000 in
set_option maxRecDepth 100000 in
theorem m_Ct_init (l : Launch) {D : va_G} {cy : Nat → ClassId} {sz base : Nat} {mem : Nat → va_E} {n j a b : Nat} (hbz : sz ≤ base) (hj : j < n) (hm : mem j = .inr (1, [.null, .null, .int 0])) : MC l D cy sz base n n y_Ct_init c_Ct_init 3 ({ frames := 1, cells := 0, slots := 0, locals := 12 } : Room) mem [.ref ((adB base) j), .ref (a), .ref (b)] (fun mem' => mem' = va_up mem j (.inr (1, [.ref a, .ref b, .int 0]))) 0 0 := by
  refine Met.ofW (cc := c_Ct_init) (maxL := 3) (ret := none) (by decide) rfl ?_
  intro p e s m args below meth c s₁ B hml hv
  obtain ⟨rfl, ⟨E, hP, -⟩, hs0⟩ := hv
  have hx := B.exec
  have hb := B.bytes
  have hr := B.returns
  have hlocks := B.notSynchronized
  have Bx : MB p s m [.ref ((adB base) j), .ref (a), .ref (b)].toArray c c_Ct_init "AbnfChart$Chart" D cy := ⟨hx, hb, tb_all (atoms_spec B.pre) E.2.1, findClass_of_methodNamed B.named, E.1⟩
  have hS : va_S (Az sz) s.heap s.heap [] := va_S.rf
  have hin : meth.name = "<init>" := (name_of_methodNamed B.named B.method).1
  have hl := lv_entry ([.ref ((adB base) j), .ref (a), .ref (b)]) (n := 3) (Nat.le_of_ble_eq_true rfl)
  rw [lg_entry_eq]
  generalize (lg_sl ([.ref ((adB base) j), .ref (a), .ref (b)]) ++ List.replicate (3 - (lg_sl ([.ref ((adB base) j), .ref (a), .ref (b)])).length) Slot.unset).toArray = ls at hl ⊢
  have hl : lv_has ls 3 [(0, .ref ((adB base) j)), (1, .ref (a)), (2, .ref (b))] := hl
  refine lv_aload_n Bx.1 Bx.2.1 d_Ct_init_0 rfl (lv_at hl 0 rfl) ?_
  refine W.objInit hx hb Bx.2.2.2.1 (Bx.2.2.1 _ (tb_g kw_163 rfl)) (Bx.2.2.1 _ (tb_g kw_23 rfl)) (Bx.2.2.1 _ (tb_g kw_24 rfl)) rfl (by rw [hml]; exact hl.1) rfl d_Ct_init_1 (Nat.le_of_ble_eq_true rfl) (Nat.le_of_ble_eq_true rfl) ?_
  refine W.eq (g2 := F0 m 4 ls []) rfl ?_
  refine lv_aload_n Bx.1 Bx.2.1 d_Ct_init_4 rfl (lv_at hl 0 rfl) ?_
  refine lv_aload_n Bx.1 Bx.2.1 d_Ct_init_5 rfl (lv_at hl 1 rfl) ?_
  refine f_putF Bx hin hP (adB_D hbz) hS hj hm rfl inCt tyCt okCt nmCt 0 (by decide) kw_164 rfl rfl rfl rfl (Nat.le_of_ble_eq_true rfl) d_Ct_init_6 (fun H locs hP hS => ?_)
  obtain ⟨mem1, e_mem1⟩ : ∃ z, z = va_up mem (j) (.inr (1, [.ref (a), .null, .int (0)])) := ⟨_, rfl⟩
  have hP : va_P D vcl (fw n (adB base) mem1) H := by rw [e_mem1]; exact hP
  have h_mem1 : mem1 (j) = .inr (1, [.ref (a), .null, .int (0)]) := by rw [e_mem1, va_up_self]
  refine lv_aload_n Bx.1 Bx.2.1 d_Ct_init_9 rfl (lv_at hl 0 rfl) ?_
  refine lv_aload_n Bx.1 Bx.2.1 d_Ct_init_10 rfl (lv_at hl 2 rfl) ?_
  refine f_putF Bx hin hP (adB_D hbz) hS hj h_mem1 rfl inCt tyCt okCt nmCt 1 (by decide) kw_165 rfl rfl rfl rfl (Nat.le_of_ble_eq_true rfl) d_Ct_init_11 (fun H locs hP hS => ?_)
  obtain ⟨mem2, e_mem2⟩ : ∃ z, z = va_up mem1 (j) (.inr (1, [.ref (a), .ref (b), .int (0)])) := ⟨_, rfl⟩
  have hP : va_P D vcl (fw n (adB base) mem2) H := by rw [e_mem2]; exact hP
  have h_mem2 : mem2 (j) = .inr (1, [.ref (a), .ref (b), .int (0)]) := by rw [e_mem2, va_up_self]
  refine lv_aload_n Bx.1 Bx.2.1 d_Ct_init_14 rfl (lv_at hl 0 rfl) ?_
  refine lv_iconst (v := 0) Bx.1 Bx.2.1 d_Ct_init_15 (by decide) ?_
  refine f_put Bx hP (adB_D hbz) hS hj h_mem2 rfl inCt tyCt okCt nmCt 2 (by decide) kw_166 rfl rfl rfl rfl (Nat.le_of_ble_eq_true rfl) d_Ct_init_16 (fun H locs hP hS => ?_)
  obtain ⟨mem3, e_mem3⟩ : ∃ z, z = va_up mem2 (j) (.inr (1, [.ref (a), .ref (b), .int (0)])) := ⟨_, rfl⟩
  have hP : va_P D vcl (fw n (adB base) mem3) H := by rw [e_mem3]; exact hP
  have h_mem3 : mem3 (j) = .inr (1, [.ref (a), .ref (b), .int (0)]) := by rw [e_mem3, va_up_self]
  refine c_size (n := n) hP (by omega) (by omega) (fun hz => ?_)
  refine W.widen (k := 0) (n := 0) (Nat.le_of_ble_eq_true rfl) (Nat.le_of_ble_eq_true rfl) ?_
  exact W.vret hx hb hr (fun t ht hW => ⟨⟨mem3, rfl, by rw [e_mem3, e_mem2, e_mem1, up_up, up_up], by rw [ht]; exact hP, by rw [ht]; exact hz⟩, hS.F ht⟩) hS.2.2 d_Ct_init_19
