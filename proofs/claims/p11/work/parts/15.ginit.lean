theorem d_Gr_init_0 : decode c_Gr_init 0 = .ok (.aload_n 0, 1) := by decide +kernel
theorem d_Gr_init_1 : decode c_Gr_init 1 = .ok (.invokespecial 3, 3) := by decide +kernel
theorem d_Gr_init_4 : decode c_Gr_init 4 = .ok (.aload_n 0, 1) := by decide +kernel
theorem d_Gr_init_5 : decode c_Gr_init 5 = .ok (.bipush 12, 2) := by decide +kernel
theorem d_Gr_init_7 : decode c_Gr_init 7 = .ok (.anewarray 9, 3) := by decide +kernel
theorem d_Gr_init_10 : decode c_Gr_init 10 = .ok (.putfield 11, 3) := by decide +kernel
theorem d_Gr_init_13 : decode c_Gr_init 13 = .ok (.iconst 0, 1) := by decide +kernel
theorem d_Gr_init_14 : decode c_Gr_init 14 = .ok (.istore_n 1, 1) := by decide +kernel
theorem d_Gr_init_15 : decode c_Gr_init 15 = .ok (.iload_n 1, 1) := by decide +kernel
theorem d_Gr_init_16 : decode c_Gr_init 16 = .ok (.bipush 12, 2) := by decide +kernel
theorem d_Gr_init_18 : decode c_Gr_init 18 = .ok (.if_icmp .ge 22, 3) := by decide +kernel
theorem d_Gr_init_21 : decode c_Gr_init 21 = .ok (.aload_n 0, 1) := by decide +kernel
theorem d_Gr_init_22 : decode c_Gr_init 22 = .ok (.getfield 11, 3) := by decide +kernel
theorem d_Gr_init_25 : decode c_Gr_init 25 = .ok (.iload_n 1, 1) := by decide +kernel
theorem d_Gr_init_26 : decode c_Gr_init 26 = .ok (.new 9, 3) := by decide +kernel
theorem d_Gr_init_29 : decode c_Gr_init 29 = .ok (.dup, 1) := by decide +kernel
theorem d_Gr_init_30 : decode c_Gr_init 30 = .ok (.invokespecial 17, 3) := by decide +kernel
theorem d_Gr_init_33 : decode c_Gr_init 33 = .ok (.aastore, 1) := by decide +kernel
theorem d_Gr_init_34 : decode c_Gr_init 34 = .ok (.iinc 1 1, 3) := by decide +kernel
theorem d_Gr_init_37 : decode c_Gr_init 37 = .ok (.goto (-22), 3) := by decide +kernel
theorem d_Gr_init_40 : decode c_Gr_init 40 = .ok (.aload_n 0, 1) := by decide +kernel
theorem d_Gr_init_41 : decode c_Gr_init 41 = .ok (.bipush 100, 2) := by decide +kernel
theorem d_Gr_init_43 : decode c_Gr_init 43 = .ok (.anewarray 18, 3) := by decide +kernel
theorem d_Gr_init_46 : decode c_Gr_init 46 = .ok (.putfield 20, 3) := by decide +kernel
theorem d_Gr_init_49 : decode c_Gr_init 49 = .ok (.iconst 0, 1) := by decide +kernel
theorem d_Gr_init_50 : decode c_Gr_init 50 = .ok (.istore_n 1, 1) := by decide +kernel
theorem d_Gr_init_51 : decode c_Gr_init 51 = .ok (.iload_n 1, 1) := by decide +kernel
theorem d_Gr_init_52 : decode c_Gr_init 52 = .ok (.bipush 100, 2) := by decide +kernel
theorem d_Gr_init_54 : decode c_Gr_init 54 = .ok (.if_icmp .ge 22, 3) := by decide +kernel
theorem d_Gr_init_57 : decode c_Gr_init 57 = .ok (.aload_n 0, 1) := by decide +kernel
theorem d_Gr_init_58 : decode c_Gr_init 58 = .ok (.getfield 20, 3) := by decide +kernel
theorem d_Gr_init_61 : decode c_Gr_init 61 = .ok (.iload_n 1, 1) := by decide +kernel
theorem d_Gr_init_62 : decode c_Gr_init 62 = .ok (.new 18, 3) := by decide +kernel
theorem d_Gr_init_65 : decode c_Gr_init 65 = .ok (.dup, 1) := by decide +kernel
theorem d_Gr_init_66 : decode c_Gr_init 66 = .ok (.invokespecial 24, 3) := by decide +kernel
theorem d_Gr_init_69 : decode c_Gr_init 69 = .ok (.aastore, 1) := by decide +kernel
theorem d_Gr_init_70 : decode c_Gr_init 70 = .ok (.iinc 1 1, 3) := by decide +kernel
theorem d_Gr_init_73 : decode c_Gr_init 73 = .ok (.goto (-22), 3) := by decide +kernel
theorem d_Gr_init_76 : decode c_Gr_init 76 = .ok (.aload_n 0, 1) := by decide +kernel
theorem d_Gr_init_77 : decode c_Gr_init 77 = .ok (.new 25, 3) := by decide +kernel
theorem d_Gr_init_80 : decode c_Gr_init 80 = .ok (.dup, 1) := by decide +kernel
theorem d_Gr_init_81 : decode c_Gr_init 81 = .ok (.sipush 240, 3) := by decide +kernel
theorem d_Gr_init_84 : decode c_Gr_init 84 = .ok (.invokespecial 27, 3) := by decide +kernel
theorem d_Gr_init_87 : decode c_Gr_init 87 = .ok (.putfield 30, 3) := by decide +kernel
theorem d_Gr_init_90 : decode c_Gr_init 90 = .ok (.aload_n 0, 1) := by decide +kernel
theorem d_Gr_init_91 : decode c_Gr_init 91 = .ok (.iconst 0, 1) := by decide +kernel
theorem d_Gr_init_92 : decode c_Gr_init 92 = .ok (.putfield 34, 3) := by decide +kernel
theorem d_Gr_init_95 : decode c_Gr_init 95 = .ok (.aload_n 0, 1) := by decide +kernel
theorem d_Gr_init_96 : decode c_Gr_init 96 = .ok (.iconst 0, 1) := by decide +kernel
theorem d_Gr_init_97 : decode c_Gr_init 97 = .ok (.putfield 38, 3) := by decide +kernel
theorem d_Gr_init_100 : decode c_Gr_init 100 = .ok (.aload_n 0, 1) := by decide +kernel
theorem d_Gr_init_101 : decode c_Gr_init 101 = .ok (.iconst 0, 1) := by decide +kernel
theorem d_Gr_init_102 : decode c_Gr_init 102 = .ok (.putfield 41, 3) := by decide +kernel
theorem d_Gr_init_105 : decode c_Gr_init 105 = .ok (.return_, 1) := by decide +kernel
def rfB (base off k : Nat) : Nat → Option Nat := fun i => if i < k then some (adB base (off + i)) else none
theorem rfB_0 (base off : Nat) : rfB base off 0 = fun _ => none := by
  funext i
  unfold rfB
  rw [if_neg (Nat.not_lt_zero i)]
theorem rfB_s (base off k : Nat) : va_up (rfB base off k) k (some (adB base (off + k))) = rfB base off (k + 1) := by
  funext i
  unfold va_up rfB
  by_cases h : i = k
  · subst h
    rw [if_pos rfl, if_pos (by omega)]
  · rw [if_neg h]
    by_cases h2 : i < k
    · rw [if_pos h2, if_pos (by omega)]
    · rw [if_neg h2, if_neg (by omega)]
def rf2 (base k : Nat) : Nat → Option Nat := fun i => if i < k then some (adB base (20 + 2 * i)) else none
theorem rf2_0 (base : Nat) : rf2 base 0 = fun _ => none := by
  funext i
  unfold rf2
  rw [if_neg (Nat.not_lt_zero i)]
theorem rf2_s (base k : Nat) : va_up (rf2 base k) k (some (adB base (20 + 2 * k))) = rf2 base (k + 1) := by
  funext i
  unfold va_up rf2
  by_cases h : i = k
  · subst h
    rw [if_pos rfl, if_pos (by omega)]
  · rw [if_neg h]
    by_cases h2 : i < k
    · rw [if_pos h2, if_pos (by omega)]
    · rw [if_neg h2, if_neg (by omega)]
abbrev ruC : va_E := .inr (5, [.long 0, .null, .null])
abbrev elC (base i : Nat) : va_E := .inr (2, [.int 0, .int 0, .int 0, .null, .null, .null, .ref ((adB base) (21 + 2 * i))])
abbrev enC (cy : Nat → ClassId) : va_E := .inl (cy 1, 25, .inl (fun _ => 0))
abbrev gaC (t : ClassId) (N' : Nat) (f : Nat → Option Nat) : va_E := .inl (t, N', .inr (.inr (.inr (.inr f))))
/-- Grammar's cells: k rules made -/
def GI1 (cy : Nat → ClassId) (base : Nat) (mem : Nat → va_E) (k : Nat) (mk : Nat → va_E) : Prop :=
  (∀ i, i < 5 → mk i = mem i) ∧ mk 5 = .inr (3, [.ref ((adB base) 6), .null, .null, .int 0, .int 0, .int 0]) ∧ mk 6 = gaC (cy 5) 12 (rfB base 7 k) ∧ ∀ i, i < k → mk (7 + i) = ruC
/-- and k elements -/
def GI2 (cy : Nat → ClassId) (base : Nat) (mem : Nat → va_E) (k : Nat) (mk : Nat → va_E) : Prop :=
  (∀ i, i < 5 → mk i = mem i) ∧ mk 5 = .inr (3, [.ref ((adB base) 6), .ref ((adB base) 19), .null, .int 0, .int 0, .int 0]) ∧ mk 6 = gaC (cy 5) 12 (rfB base 7 12) ∧ (∀ i, i < 12 → mk (7 + i) = ruC) ∧ mk 19 = gaC (cy 4) 100 (rf2 base k) ∧ ∀ i, i < k → mk (20 + 2 * i) = elC base i ∧ mk (21 + 2 * i) = enC cy
def GI3 (cy : Nat → ClassId) (base : Nat) (mem mk : Nat → va_E) : Prop :=
  (∀ i, i < 5 → mk i = mem i) ∧ mk 5 = .inr (3, [.ref ((adB base) 6), .ref ((adB base) 19), .ref ((adB base) 220), .int 0, .int 0, .int 0]) ∧ mk 6 = gaC (cy 5) 12 (rfB base 7 12) ∧ (∀ i, i < 12 → mk (7 + i) = ruC) ∧ mk 19 = gaC (cy 4) 100 (rf2 base 100) ∧ (∀ i, i < 100 → mk (20 + 2 * i) = elC base i ∧ mk (21 + 2 * i) = enC cy) ∧ mk 220 = .inr (0, [.ref ((adB base) 221), .int 0]) ∧ mk 221 = .inl (cy 0, 240, .inl (fun _ => 0))
set_option maxHeartbeats 4000000 in
set_option maxRecDepth 100000 in
theorem m_Gr_init (l : Launch) {D : va_G} {cy : Nat → ClassId} {sz base : Nat} {mem : Nat → va_E}  (hbz : sz ≤ base) (h5 : mem 5 = .inr (3, [.null, .null, .null, .int 0, .int 0, .int 0])) : MC l D cy sz base 6 222 y_Gr_init c_Gr_init 2 ({ frames := 4, cells := 216, slots := 3590, locals := 100 } : Room) mem [.ref ((adB base) 5)] (fun mem' => GI3 cy base mem mem') 216 3590 := by
  refine Met.ofW (cc := c_Gr_init) (maxL := 2) (ret := none) (by decide) rfl ?_
  intro p e s m args below meth c s₁ B hml hv
  obtain ⟨rfl, ⟨E, hP, -⟩, hs0⟩ := hv
  have hx := B.exec
  have hb := B.bytes
  have hr := B.returns
  have hlocks := B.notSynchronized
  have Bx : MB p s m [.ref ((adB base) 5)].toArray c c_Gr_init "AbnfChart$Grammar" D cy := ⟨hx, hb, tb_all (atoms_spec B.pre) E.2.1, findClass_of_methodNamed B.named, E.1⟩
  have hS : va_S (Az sz) s.heap s.heap [] := va_S.rf
  have hin : meth.name = "<init>" := (name_of_methodNamed B.named B.method).1
  have hl := lv_entry ([.ref ((adB base) 5)]) (n := 2) (Nat.le_of_ble_eq_true rfl)
  rw [lg_entry_eq]
  generalize (lg_sl ([.ref ((adB base) 5)]) ++ List.replicate (2 - (lg_sl ([.ref ((adB base) 5)])).length) Slot.unset).toArray = ls at hl ⊢
  have hl : lv_has ls 2 [(0, .ref ((adB base) 5))] := hl
  have tail2 : ∀ (ls : Array Slot) (H : Heap) (locs : List Loc) (mk : Nat → va_E), lv_has ls 2 [(0, .ref ((adB base) 5))] → GI2 cy base mem 100 mk → va_P D vcl (fw 220 (adB base) mk) H → va_S (Az sz) s.heap H locs → W p l e (headSpec (Cond.code y_Gr_init c_Gr_init 2 none :: tg) ({ frames := 4, cells := 216, slots := 3590, locals := 100 } : Room)).room s m [.ref ((adB base) 5)].toArray below meth c H locs 214 3348 (MQ below (va_Qv (fun mem' => GI3 cy base mem mem') (fun u t => va_P D vcl (fw 222 (adB base) u) t.heap ∧ t.heap.size = base + 222) (Az sz)) [.ref ((adB base) 5)].toArray s 216 3590 (Az sz)) (F0 m 76 ls []) := by
    intro ls H locs mk hl hI hP hS
    obtain ⟨i1, i2, i3, i4, i5, i6⟩ := hI
    refine lv_aload_n Bx.1 Bx.2.1 d_Gr_init_76 rfl (lv_at hl 0 rfl) ?_
    refine c_size (n := 220) hP (by omega) (by omega) (fun hz => ?_)
    refine f_new (ci := 0) (n := 220) Bx hP hS hz rfl inCh tyCh okCh kw_111 kw_26 kw_2 [.null, .int (0)] (by intro j hj; match j, hj with | 0, _ => rfl | 1, _ => rfl) (Nat.le_of_ble_eq_true rfl) (Nat.le_of_ble_eq_true rfl) d_Gr_init_77 (fun H hP hS hz => ?_)
    obtain ⟨mem1, e_mem1⟩ : ∃ z, z = va_up mk (220) (.inr (0, [.null, .int (0)])) := ⟨_, rfl⟩
    have hP : va_P D vcl (fw 221 (adB base) mem1) H := by rw [e_mem1]; exact hP
    have h_mem1 : mem1 (220) = .inr (0, [.null, .int (0)]) := by rw [e_mem1, va_up_self]
    have hh2 := (va_up_ne mk (.inr (0, [.null, .int (0)])) (show (5 : Nat) ≠ 220 by first | decide | assumption | omega)).trans i2
    rw [← e_mem1] at hh2
    refine lv_dup Bx.1 Bx.2.1 d_Gr_init_80 rfl ?_
    refine lv_sipush (v := 240) Bx.1 Bx.2.1 d_Gr_init_81 (by decide) ?_
    refine c_size (n := 221) hP (by omega) (by omega) (fun hz => ?_)
    refine f_callI (na := 1) (n := 221) (j := 220) (As := [.int (240)]) (rest := [.ref ((adB base) 220), .ref ((adB base) 5)]) Bx hml E hP hS hbz hz (m_Ch_init (n := 221) (j := 220) (K := 240) l hbz (by omega) h_mem1 (Or.inl rfl)) kw_112 kw_28 kw_2 kw_29 rfl (by decide +kernel) ⟨rfl, rfl⟩ ⟨Nat.le_of_ble_eq_true rfl, Nat.le_of_ble_eq_true rfl⟩ rfl hl.1 (Nat.le_of_ble_eq_true rfl) d_Gr_init_84 ⟨Nat.le_of_ble_eq_true rfl, Nat.le_of_ble_eq_true rfl⟩ (fun mem3 H locs hq hP hS hz => ?_)
    have i2b : mem3 5 = .inr (3, [.ref ((adB base) 6), .ref ((adB base) 19), .null, .int (0), .int (0), .int (0)]) := by rw [hq, va_up_ne _ _ (by decide), va_up_ne _ _ (by decide), e_mem1, va_up_ne _ _ (by decide)]; exact i2
    refine f_putF Bx hin hP (adB_D hbz) hS (by omega) i2b rfl inGr tyGr okGr nmGr 2 (by decide) kw_118 rfl rfl rfl rfl (Nat.le_of_ble_eq_true rfl) d_Gr_init_87 (fun H locs hP hS => ?_)
    obtain ⟨mem4, e_mem4⟩ : ∃ z, z = va_up mem3 (5) (.inr (3, [.ref ((adB base) 6), .ref ((adB base) 19), .ref ((adB base) 220), .int (0), .int (0), .int (0)])) := ⟨_, rfl⟩
    have hP : va_P D vcl (fw 222 (adB base) mem4) H := by rw [e_mem4]; exact hP
    have h_mem4 : mem4 (5) = .inr (3, [.ref ((adB base) 6), .ref ((adB base) 19), .ref ((adB base) 220), .int (0), .int (0), .int (0)]) := by rw [e_mem4, va_up_self]
    refine lv_aload_n Bx.1 Bx.2.1 d_Gr_init_90 rfl (lv_at hl 0 rfl) ?_
    refine lv_iconst (v := 0) Bx.1 Bx.2.1 d_Gr_init_91 (by decide) ?_
    refine f_put Bx hP (adB_D hbz) hS (by omega) h_mem4 rfl inGr tyGr okGr nmGr 3 (by decide) kw_121 rfl rfl rfl rfl (Nat.le_of_ble_eq_true rfl) d_Gr_init_92 (fun H locs hP hS => ?_)
    obtain ⟨mem5, e_mem5⟩ : ∃ z, z = va_up mem4 (5) (.inr (3, [.ref ((adB base) 6), .ref ((adB base) 19), .ref ((adB base) 220), .int (0), .int (0), .int (0)])) := ⟨_, rfl⟩
    have hP : va_P D vcl (fw 222 (adB base) mem5) H := by rw [e_mem5]; exact hP
    have h_mem5 : mem5 (5) = .inr (3, [.ref ((adB base) 6), .ref ((adB base) 19), .ref ((adB base) 220), .int (0), .int (0), .int (0)]) := by rw [e_mem5, va_up_self]
    refine lv_aload_n Bx.1 Bx.2.1 d_Gr_init_95 rfl (lv_at hl 0 rfl) ?_
    refine lv_iconst (v := 0) Bx.1 Bx.2.1 d_Gr_init_96 (by decide) ?_
    refine f_put Bx hP (adB_D hbz) hS (by omega) h_mem5 rfl inGr tyGr okGr nmGr 4 (by decide) kw_122 rfl rfl rfl rfl (Nat.le_of_ble_eq_true rfl) d_Gr_init_97 (fun H locs hP hS => ?_)
    obtain ⟨mem6, e_mem6⟩ : ∃ z, z = va_up mem5 (5) (.inr (3, [.ref ((adB base) 6), .ref ((adB base) 19), .ref ((adB base) 220), .int (0), .int (0), .int (0)])) := ⟨_, rfl⟩
    have hP : va_P D vcl (fw 222 (adB base) mem6) H := by rw [e_mem6]; exact hP
    have h_mem6 : mem6 (5) = .inr (3, [.ref ((adB base) 6), .ref ((adB base) 19), .ref ((adB base) 220), .int (0), .int (0), .int (0)]) := by rw [e_mem6, va_up_self]
    refine lv_aload_n Bx.1 Bx.2.1 d_Gr_init_100 rfl (lv_at hl 0 rfl) ?_
    refine lv_iconst (v := 0) Bx.1 Bx.2.1 d_Gr_init_101 (by decide) ?_
    refine f_put Bx hP (adB_D hbz) hS (by omega) h_mem6 rfl inGr tyGr okGr nmGr 5 (by decide) kw_124 rfl rfl rfl rfl (Nat.le_of_ble_eq_true rfl) d_Gr_init_102 (fun H locs hP hS => ?_)
    obtain ⟨mem7, e_mem7⟩ : ∃ z, z = va_up mem6 (5) (.inr (3, [.ref ((adB base) 6), .ref ((adB base) 19), .ref ((adB base) 220), .int (0), .int (0), .int (0)])) := ⟨_, rfl⟩
    have hP : va_P D vcl (fw 222 (adB base) mem7) H := by rw [e_mem7]; exact hP
    have h_mem7 : mem7 (5) = .inr (3, [.ref ((adB base) 6), .ref ((adB base) 19), .ref ((adB base) 220), .int (0), .int (0), .int (0)]) := by rw [e_mem7, va_up_self]
    have key : mem7 = va_up (va_up (va_up (va_up mk 220 (.inr (0, [.null, .int 0]))) 221 (.inl (cy 0, 240, .inl (fun _ => 0)))) 220 (.inr (0, [.ref ((adB base) 221), .int 0]))) 5 (.inr (3, [.ref ((adB base) 6), .ref ((adB base) 19), .ref ((adB base) 220), .int 0, .int 0, .int 0])) := by rw [e_mem7, e_mem6, e_mem5, e_mem4, up_up, up_up, up_up, hq, e_mem1]
    have ne : ∀ i, i ≠ 5 → i ≠ 220 → i ≠ 221 → mem7 i = mk i := fun i a b c => by rw [key, va_up_ne _ _ a, va_up_ne _ _ b, va_up_ne _ _ c, va_up_ne _ _ b]
    have hG : GI3 cy base mem mem7 := ⟨fun i hi => (ne i (by omega) (by omega) (by omega)).trans (i1 i hi), by rw [key, va_up_self], (ne 6 (by decide) (by decide) (by decide)).trans i3, fun i hi => (ne _ (by omega) (by omega) (by omega)).trans (i4 i hi), (ne 19 (by decide) (by decide) (by decide)).trans i5, fun i hi => ⟨(ne _ (by omega) (by omega) (by omega)).trans (i6 i hi).1, (ne _ (by omega) (by omega) (by omega)).trans (i6 i hi).2⟩, by rw [key, va_up_ne _ _ (by decide), va_up_self], by rw [key, va_up_ne _ _ (by decide), va_up_ne _ _ (by decide), va_up_self]⟩
    refine c_size (n := 222) hP (by omega) (by omega) (fun hz => ?_)
    refine W.widen (k := 216) (n := 3590) (Nat.le_of_ble_eq_true rfl) (Nat.le_of_ble_eq_true rfl) ?_
    exact W.vret hx hb hr (fun t ht hW => ⟨⟨mem7, rfl, hG, by rw [ht]; exact hP, by rw [ht]; exact hz⟩, hS.F ht⟩) hS.2.2 d_Gr_init_105
  have loop2 : ∀ (d k : Nat) (ls : Array Slot) (H : Heap) (locs : List Loc) (mk : Nat → va_E), k + d = 100 → lv_has ls 2 [(1, .int (nI k)), (0, .ref ((adB base) 5))] → GI2 cy base mem k mk → va_P D vcl (fw (20 + 2 * k) (adB base) mk) H → va_S (Az sz) s.heap H locs → W p l e (headSpec (Cond.code y_Gr_init c_Gr_init 2 none :: tg) ({ frames := 4, cells := 216, slots := 3590, locals := 100 } : Room)).room s m [.ref ((adB base) 5)].toArray below meth c H locs (14 + 2 * k) (148 + 32 * k) (MQ below (va_Qv (fun mem' => GI3 cy base mem mem') (fun u t => va_P D vcl (fw 222 (adB base) u) t.heap ∧ t.heap.size = base + 222) (Az sz)) [.ref ((adB base) 5)].toArray s 216 3590 (Az sz)) (F0 m 51 ls []) := by
    intro d
    induction d with
    | zero =>
      intro k ls H locs mk hk hl hI hP hS
      obtain rfl : k = 100 := by omega
      refine lv_iload_n Bx.1 Bx.2.1 d_Gr_init_51 rfl (lv_at hl 0 rfl) ?_
      refine lv_bipush (v := 100) Bx.1 Bx.2.1 d_Gr_init_52 (by decide) ?_
      refine lv_icmp_ge Bx.1 Bx.2.1 d_Gr_init_54 rfl (fun h => ?_) (fun h => ?_)
      · exact tail2 ls H locs mk (lv_sub hl [1] rfl) hI hP hS
      · exact absurd (by decide) h
    | succ d ih =>
      intro k ls H locs mk hk hl hI hP hS
      obtain ⟨i1, i2, i3, i4, i5, i6⟩ := hI
      refine lv_iload_n Bx.1 Bx.2.1 d_Gr_init_51 rfl (lv_at hl 0 rfl) ?_
      refine lv_bipush (v := 100) Bx.1 Bx.2.1 d_Gr_init_52 (by decide) ?_
      refine lv_icmp_ge Bx.1 Bx.2.1 d_Gr_init_54 rfl (fun h => ?_) (fun h => ?_)
      · exact absurd h (by rw [show (100 : Int32) = nI 100 from rfl]; exact nI_ge (by omega) (by omega))
      · refine lv_aload_n Bx.1 Bx.2.1 d_Gr_init_57 rfl (lv_at hl 1 rfl) ?_
        refine f_get Bx hP (by omega) i2 rfl inGr 1 (by decide) kw_116 rfl rfl d_Gr_init_58 ?_
        refine lv_iload_n Bx.1 Bx.2.1 d_Gr_init_61 rfl (lv_at hl 0 rfl) ?_
        refine c_size (n := (20 + 2 * k)) hP (by omega) (by omega) (fun hz => ?_)
        refine f_new (ci := 2) (n := (20 + 2 * k)) Bx hP hS hz rfl inEl tyEl okEl kw_67 kw_69 kw_5 [.int (0), .int (0), .int (0), .null, .null, .null, .null] (by intro j hj; match j, hj with | 0, _ => rfl | 1, _ => rfl | 2, _ => rfl | 3, _ => rfl | 4, _ => rfl | 5, _ => rfl | 6, _ => rfl) (by show 14 + 2 * k + 1 ≤ 216; omega) (by show 148 + 32 * k + 7 ≤ 3590; omega) d_Gr_init_62 (fun H hP hS hz => ?_)
        obtain ⟨mem8, e_mem8⟩ : ∃ z, z = va_up mk ((20 + 2 * k)) (.inr (2, [.int (0), .int (0), .int (0), .null, .null, .null, .null])) := ⟨_, rfl⟩
        have hP : va_P D vcl (fw ((20 + 2 * k) + 1) (adB base) mem8) H := by rw [e_mem8]; exact hP
        have h_mem8 : mem8 ((20 + 2 * k)) = .inr (2, [.int (0), .int (0), .int (0), .null, .null, .null, .null]) := by rw [e_mem8, va_up_self]
        have hh9 := (va_up_ne mk (.inr (2, [.int (0), .int (0), .int (0), .null, .null, .null, .null])) (show (5 : Nat) ≠ (20 + 2 * k) by first | decide | assumption | omega)).trans i2
        rw [← e_mem8] at hh9
        refine lv_dup Bx.1 Bx.2.1 d_Gr_init_65 rfl ?_
        refine c_size (n := ((20 + 2 * k) + 1)) hP (by omega) (by omega) (fun hz => ?_)
        refine f_callI (na := 0) (n := ((20 + 2 * k) + 1)) (j := (20 + 2 * k)) (As := []) (rest := [.ref ((adB base) (20 + 2 * k)), .int (nI k), .ref ((adB base) 19)]) Bx hml E hP hS hbz hz (m_El_init (n := 20 + 2 * k + 1) (j := 20 + 2 * k) l hbz (by omega) h_mem8) kw_70 kw_71 kw_5 kw_72 rfl (by decide +kernel) ⟨rfl, rfl⟩ ⟨Nat.le_of_ble_eq_true rfl, Nat.le_of_ble_eq_true rfl⟩ rfl hl.1 (Nat.le_of_ble_eq_true rfl) d_Gr_init_66 ⟨by show 14 + 2 * k + 1 + 1 ≤ 216; omega, by show 148 + 32 * k + 7 + 25 ≤ 3590; omega⟩ (fun mem10 H locs hq hP hS hz => ?_)
        have i5b : mem10 19 = gaC (cy 4) 100 (rf2 base k) := by rw [hq, va_up_ne _ _ (by omega), va_up_ne _ _ (by omega), e_mem8, va_up_ne _ _ (by omega)]; exact i5
        have heb : mem10 (20 + 2 * k) = elC base k := by rw [hq, va_up_self, show 20 + 2 * k + 1 = 21 + 2 * k by omega]
        refine f_aast (j := 19) (j2 := 20 + 2 * k) (t0 := 4) (r := ("AbnfChart$Element", TEl, 7)) Bx hP (adB_D hbz) hS (by omega) i5b rfl (by omega) heb rfl (vp_in_nI (by omega) (by decide)) d_Gr_init_69 (fun H locs hP hS => ?_)
        rw [nI_clamp (by omega), rf2_s] at hP
        obtain ⟨mz, e_mz⟩ : ∃ z, z = va_up mem10 19 (gaC (cy 4) 100 (rf2 base (k + 1))) := ⟨_, rfl⟩
        rw [← e_mz] at hP
        have key : mz = va_up (va_up (va_up (va_up mk (20 + 2 * k) (.inr (2, [.int 0, .int 0, .int 0, .null, .null, .null, .null]))) (20 + 2 * k + 1) (enC cy)) (20 + 2 * k) (.inr (2, [.int 0, .int 0, .int 0, .null, .null, .null, .ref ((adB base) (20 + 2 * k + 1))]))) 19 (gaC (cy 4) 100 (rf2 base (k + 1))) := by rw [e_mz, hq, e_mem8]
        have ne : ∀ i, i ≠ 19 → i < 20 + 2 * k → mz i = mk i := fun i a b => by rw [key, va_up_ne _ _ a, va_up_ne _ _ (by omega), va_up_ne _ _ (by omega), va_up_ne _ _ (by omega)]
        have hI' : GI2 cy base mem (k + 1) mz := ⟨fun i hi => (ne i (by omega) (by omega)).trans (i1 i hi), (ne 5 (by decide) (by omega)).trans i2, (ne 6 (by decide) (by omega)).trans i3, fun i hi => (ne _ (by omega) (by omega)).trans (i4 i hi), by rw [key, va_up_self], fun i hi => by
            by_cases hik : i = k
            · subst hik
              exact ⟨by rw [key, va_up_ne _ _ (by omega), va_up_self, show 20 + 2 * i + 1 = 21 + 2 * i by omega], by rw [show 21 + 2 * i = 20 + 2 * i + 1 by omega, key, va_up_ne _ _ (by omega), va_up_ne _ _ (by omega), va_up_self]⟩
            · exact ⟨(ne _ (by omega) (by omega)).trans (i6 i (by omega)).1, (ne _ (by omega) (by omega)).trans (i6 i (by omega)).2⟩⟩
        refine lv_iinc (lv' := [(1, .int ((nI k + (1)))), (0, .ref ((adB base) 5))]) Bx.1 Bx.2.1 d_Gr_init_70 hl (k := 0) rfl rfl (by decide) rfl (fun ls hl => ?_)
        refine lv_goto Bx.1 Bx.2.1 d_Gr_init_73 rfl ?_
        refine W.widen (k := 14 + 2 * (k + 1)) (n := 148 + 32 * (k + 1)) (by omega) (by omega) ?_
        exact ih (k + 1) ls H locs mz (by omega) (by rw [nI_succ]; exact (lv_sub hl [0, 1] rfl)) hI' (by rw [show 20 + 2 * (k + 1) = 20 + 2 * k + 1 + 1 by omega]; exact hP) hS
  have tail1 : ∀ (ls : Array Slot) (H : Heap) (locs : List Loc) (mk : Nat → va_E), lv_has ls 2 [(0, .ref ((adB base) 5))] → GI1 cy base mem 12 mk → va_P D vcl (fw 19 (adB base) mk) H → va_S (Az sz) s.heap H locs → W p l e (headSpec (Cond.code y_Gr_init c_Gr_init 2 none :: tg) ({ frames := 4, cells := 216, slots := 3590, locals := 100 } : Room)).room s m [.ref ((adB base) 5)].toArray below meth c H locs 13 48 (MQ below (va_Qv (fun mem' => GI3 cy base mem mem') (fun u t => va_P D vcl (fw 222 (adB base) u) t.heap ∧ t.heap.size = base + 222) (Az sz)) [.ref ((adB base) 5)].toArray s 216 3590 (Az sz)) (F0 m 40 ls []) := by
    intro ls H locs mk hl hI hP hS
    obtain ⟨i1, i2, i3, i4⟩ := hI
    refine lv_aload_n Bx.1 Bx.2.1 d_Gr_init_40 rfl (lv_at hl 0 rfl) ?_
    refine lv_bipush (v := 100) Bx.1 Bx.2.1 d_Gr_init_41 (by decide) ?_
    refine c_size (n := 19) hP (by omega) (by omega) (fun hz => ?_)
    refine f_anew (n := 19) (t0 := 4) (N' := 100) Bx hP hS hz kw_67 kw_68 rfl (by decide) (by decide) (by decide) (Nat.le_of_ble_eq_true rfl) (Nat.le_of_ble_eq_true rfl) d_Gr_init_43 (fun H hP hS hz => ?_)
    obtain ⟨mem11, e_mem11⟩ : ∃ z, z = va_up mk (19) (.inl (cy 4, 100, .inr (.inr (.inr (.inr (fun _ => none)))))) := ⟨_, rfl⟩
    have hP : va_P D vcl (fw 20 (adB base) mem11) H := by rw [e_mem11]; exact hP
    have h_mem11 : mem11 (19) = .inl (cy 4, 100, .inr (.inr (.inr (.inr (fun _ => none))))) := by rw [e_mem11, va_up_self]
    have hh12 := (va_up_ne mk (.inl (cy 4, 100, .inr (.inr (.inr (.inr (fun _ => none)))))) (show (5 : Nat) ≠ 19 by first | decide | assumption | omega)).trans i2
    rw [← e_mem11] at hh12
    refine f_putF Bx hin hP (adB_D hbz) hS (by omega) hh12 rfl inGr tyGr okGr nmGr 1 (by decide) kw_116 rfl rfl rfl rfl (Nat.le_of_ble_eq_true rfl) d_Gr_init_46 (fun H locs hP hS => ?_)
    obtain ⟨mem13, e_mem13⟩ : ∃ z, z = va_up mem11 (5) (.inr (3, [.ref ((adB base) 6), .ref ((adB base) 19), .null, .int (0), .int (0), .int (0)])) := ⟨_, rfl⟩
    have hP : va_P D vcl (fw 20 (adB base) mem13) H := by rw [e_mem13]; exact hP
    have h_mem13 : mem13 (5) = .inr (3, [.ref ((adB base) 6), .ref ((adB base) 19), .null, .int (0), .int (0), .int (0)]) := by rw [e_mem13, va_up_self]
    refine lv_iconst (v := 0) Bx.1 Bx.2.1 d_Gr_init_49 (by decide) ?_
    refine lv_istore_n (lv' := [(1, .int (0)), (0, .ref ((adB base) 5))]) Bx.1 Bx.2.1 d_Gr_init_50 rfl hl (by decide) rfl (fun ls hl => ?_)
    have key : mem13 = va_up (va_up mk 19 (gaC (cy 4) 100 (fun _ => none))) 5 (.inr (3, [.ref ((adB base) 6), .ref ((adB base) 19), .null, .int (0), .int (0), .int (0)])) := by rw [e_mem13, e_mem11]
    have ne : ∀ i, i ≠ 5 → i ≠ 19 → mem13 i = mk i := fun i a b => by rw [key, va_up_ne _ _ a, va_up_ne _ _ b]
    exact loop2 100 0 ls H locs mem13 (by omega) (lv_sub hl [0, 1] rfl) ⟨fun i hi => (ne i (by omega) (by omega)).trans (i1 i hi), by rw [key, va_up_self], (ne 6 (by decide) (by decide)).trans i3, fun i hi => (ne _ (by omega) (by omega)).trans (i4 i hi), by rw [key, va_up_ne _ _ (by decide), va_up_self, rf2_0], fun i hi => absurd hi (Nat.not_lt_zero i)⟩ hP hS
  have loop1 : ∀ (d k : Nat) (ls : Array Slot) (H : Heap) (locs : List Loc) (mk : Nat → va_E), k + d = 12 → lv_has ls 2 [(1, .int (nI k)), (0, .ref ((adB base) 5))] → GI1 cy base mem k mk → va_P D vcl (fw (7 + k) (adB base) mk) H → va_S (Az sz) s.heap H locs → W p l e (headSpec (Cond.code y_Gr_init c_Gr_init 2 none :: tg) ({ frames := 4, cells := 216, slots := 3590, locals := 100 } : Room)).room s m [.ref ((adB base) 5)].toArray below meth c H locs (1 + k) (12 + 3 * k) (MQ below (va_Qv (fun mem' => GI3 cy base mem mem') (fun u t => va_P D vcl (fw 222 (adB base) u) t.heap ∧ t.heap.size = base + 222) (Az sz)) [.ref ((adB base) 5)].toArray s 216 3590 (Az sz)) (F0 m 15 ls []) := by
    intro d
    induction d with
    | zero =>
      intro k ls H locs mk hk hl hI hP hS
      obtain rfl : k = 12 := by omega
      refine lv_iload_n Bx.1 Bx.2.1 d_Gr_init_15 rfl (lv_at hl 0 rfl) ?_
      refine lv_bipush (v := 12) Bx.1 Bx.2.1 d_Gr_init_16 (by decide) ?_
      refine lv_icmp_ge Bx.1 Bx.2.1 d_Gr_init_18 rfl (fun h => ?_) (fun h => ?_)
      · exact tail1 ls H locs mk (lv_sub hl [1] rfl) hI hP hS
      · exact absurd (by decide) h
    | succ d ih =>
      intro k ls H locs mk hk hl hI hP hS
      obtain ⟨i1, i2, i3, i4⟩ := hI
      refine lv_iload_n Bx.1 Bx.2.1 d_Gr_init_15 rfl (lv_at hl 0 rfl) ?_
      refine lv_bipush (v := 12) Bx.1 Bx.2.1 d_Gr_init_16 (by decide) ?_
      refine lv_icmp_ge Bx.1 Bx.2.1 d_Gr_init_18 rfl (fun h => ?_) (fun h => ?_)
      · exact absurd h (by rw [show (12 : Int32) = nI 12 from rfl]; exact nI_ge (by omega) (by omega))
      · refine lv_aload_n Bx.1 Bx.2.1 d_Gr_init_21 rfl (lv_at hl 1 rfl) ?_
        refine f_get Bx hP (by omega) i2 rfl inGr 0 (by decide) kw_113 rfl rfl d_Gr_init_22 ?_
        refine lv_iload_n Bx.1 Bx.2.1 d_Gr_init_25 rfl (lv_at hl 0 rfl) ?_
        refine c_size (n := (7 + k)) hP (by omega) (by omega) (fun hz => ?_)
        refine f_new (ci := 5) (n := (7 + k)) Bx hP hS hz rfl inRu tyRu okRu kw_48 kw_50 kw_4 [.long (0), .null, .null] (by intro j hj; match j, hj with | 0, _ => rfl | 1, _ => rfl | 2, _ => rfl) (by show 1 + k + 1 ≤ 216; omega) (by show 12 + 3 * k + 3 ≤ 3590; omega) d_Gr_init_26 (fun H hP hS hz => ?_)
        obtain ⟨mem14, e_mem14⟩ : ∃ z, z = va_up mk ((7 + k)) (.inr (5, [.long (0), .null, .null])) := ⟨_, rfl⟩
        have hP : va_P D vcl (fw ((7 + k) + 1) (adB base) mem14) H := by rw [e_mem14]; exact hP
        have h_mem14 : mem14 ((7 + k)) = .inr (5, [.long (0), .null, .null]) := by rw [e_mem14, va_up_self]
        have hh15 := (va_up_ne mk (.inr (5, [.long (0), .null, .null])) (show (5 : Nat) ≠ (7 + k) by first | decide | assumption | omega)).trans i2
        rw [← e_mem14] at hh15
        refine lv_dup Bx.1 Bx.2.1 d_Gr_init_29 rfl ?_
        refine c_size (n := ((7 + k) + 1)) hP (by omega) (by omega) (fun hz => ?_)
        refine f_callIN (na := 0) (n := ((7 + k) + 1)) (j := (7 + k)) (As := []) (rest := [.ref ((adB base) (7 + k)), .int (nI k), .ref ((adB base) 6)]) Bx hml E hP hS hbz hz (m_Ru_init (n := 7 + k + 1) (j := 7 + k) l hbz (by omega)) kw_51 kw_52 kw_4 kw_53 rfl (by decide +kernel) ⟨rfl, rfl⟩ ⟨Nat.le_of_ble_eq_true rfl, Nat.le_of_ble_eq_true rfl⟩ rfl hl.1 (Nat.le_of_ble_eq_true rfl) d_Gr_init_30 ⟨by show 1 + k + 1 + 0 ≤ 216; omega, by show 12 + 3 * k + 3 + 0 ≤ 3590; omega⟩ (fun mem16 H locs hq hP hS hz => ?_)
        have i3b : mem16 6 = gaC (cy 5) 12 (rfB base 7 k) := by rw [hq, e_mem14, va_up_ne _ _ (by omega)]; exact i3
        have heb : mem16 (7 + k) = ruC := by rw [hq, e_mem14, va_up_self]
        refine f_aast (j := 6) (j2 := 7 + k) (t0 := 5) (r := ("AbnfChart$Rule", TRu, 3)) Bx hP (adB_D hbz) hS (by omega) i3b rfl (by omega) heb rfl (vp_in_nI (by omega) (by decide)) d_Gr_init_33 (fun H locs hP hS => ?_)
        rw [nI_clamp (by omega), rfB_s] at hP
        obtain ⟨mz, e_mz⟩ : ∃ z, z = va_up mem16 6 (gaC (cy 5) 12 (rfB base 7 (k + 1))) := ⟨_, rfl⟩
        rw [← e_mz] at hP
        have key : mz = va_up (va_up mk (7 + k) ruC) 6 (gaC (cy 5) 12 (rfB base 7 (k + 1))) := by rw [e_mz, hq, e_mem14]
        have ne : ∀ i, i ≠ 6 → i ≠ 7 + k → mz i = mk i := fun i a b => by rw [key, va_up_ne _ _ a, va_up_ne _ _ b]
        have hI' : GI1 cy base mem (k + 1) mz := ⟨fun i hi => (ne i (by omega) (by omega)).trans (i1 i hi), (ne 5 (by decide) (by omega)).trans i2, by rw [key, va_up_self], fun i hi => by
            by_cases hik : i = k
            · subst hik
              rw [key, va_up_ne _ _ (by omega), va_up_self]
            · exact (ne _ (by omega) (by omega)).trans (i4 i (by omega))⟩
        refine lv_iinc (lv' := [(1, .int ((nI k + (1)))), (0, .ref ((adB base) 5))]) Bx.1 Bx.2.1 d_Gr_init_34 hl (k := 0) rfl rfl (by decide) rfl (fun ls hl => ?_)
        refine lv_goto Bx.1 Bx.2.1 d_Gr_init_37 rfl ?_
        refine W.widen (k := 1 + (k + 1)) (n := 12 + 3 * (k + 1)) (by omega) (by omega) ?_
        exact ih (k + 1) ls H locs mz (by omega) (by rw [nI_succ]; exact (lv_sub hl [0, 1] rfl)) hI' (by rw [show 7 + (k + 1) = 7 + k + 1 by omega]; exact hP) hS
  refine lv_aload_n Bx.1 Bx.2.1 d_Gr_init_0 rfl (lv_at hl 0 rfl) ?_
  refine W.objInit hx hb Bx.2.2.2.1 (Bx.2.2.1 _ (tb_g kw_47 rfl)) (Bx.2.2.1 _ (tb_g kw_23 rfl)) (Bx.2.2.1 _ (tb_g kw_24 rfl)) rfl (by rw [hml]; exact hl.1) rfl d_Gr_init_1 (Nat.le_of_ble_eq_true rfl) (Nat.le_of_ble_eq_true rfl) ?_
  refine W.eq (g2 := F0 m 4 ls []) rfl ?_
  refine lv_aload_n Bx.1 Bx.2.1 d_Gr_init_4 rfl (lv_at hl 0 rfl) ?_
  refine lv_bipush (v := 12) Bx.1 Bx.2.1 d_Gr_init_5 (by decide) ?_
  refine c_size (n := 6) hP (by omega) (by omega) (fun hz => ?_)
  refine f_anew (n := 6) (t0 := 5) (N' := 12) Bx hP hS hz kw_48 kw_49 rfl (by decide) (by decide) (by decide) (Nat.le_of_ble_eq_true rfl) (Nat.le_of_ble_eq_true rfl) d_Gr_init_7 (fun H hP hS hz => ?_)
  obtain ⟨mem17, e_mem17⟩ : ∃ z, z = va_up mem (6) (.inl (cy 5, 12, .inr (.inr (.inr (.inr (fun _ => none)))))) := ⟨_, rfl⟩
  have hP : va_P D vcl (fw 7 (adB base) mem17) H := by rw [e_mem17]; exact hP
  have h_mem17 : mem17 (6) = .inl (cy 5, 12, .inr (.inr (.inr (.inr (fun _ => none))))) := by rw [e_mem17, va_up_self]
  have hh18 := (va_up_ne mem (.inl (cy 5, 12, .inr (.inr (.inr (.inr (fun _ => none)))))) (show (5 : Nat) ≠ 6 by first | decide | assumption | omega)).trans h5
  rw [← e_mem17] at hh18
  refine f_putF Bx hin hP (adB_D hbz) hS (by omega) hh18 rfl inGr tyGr okGr nmGr 0 (by decide) kw_113 rfl rfl rfl rfl (Nat.le_of_ble_eq_true rfl) d_Gr_init_10 (fun H locs hP hS => ?_)
  obtain ⟨mem19, e_mem19⟩ : ∃ z, z = va_up mem17 (5) (.inr (3, [.ref ((adB base) 6), .null, .null, .int (0), .int (0), .int (0)])) := ⟨_, rfl⟩
  have hP : va_P D vcl (fw 7 (adB base) mem19) H := by rw [e_mem19]; exact hP
  have h_mem19 : mem19 (5) = .inr (3, [.ref ((adB base) 6), .null, .null, .int (0), .int (0), .int (0)]) := by rw [e_mem19, va_up_self]
  refine lv_iconst (v := 0) Bx.1 Bx.2.1 d_Gr_init_13 (by decide) ?_
  refine lv_istore_n (lv' := [(1, .int (0)), (0, .ref ((adB base) 5))]) Bx.1 Bx.2.1 d_Gr_init_14 rfl hl (by decide) rfl (fun ls hl => ?_)
  have key : mem19 = va_up (va_up mem 6 (gaC (cy 5) 12 (fun _ => none))) 5 (.inr (3, [.ref ((adB base) 6), .null, .null, .int (0), .int (0), .int (0)])) := by rw [e_mem19, e_mem17]
  have ne : ∀ i, i ≠ 5 → i ≠ 6 → mem19 i = mem i := fun i a b => by rw [key, va_up_ne _ _ a, va_up_ne _ _ b]
  exact loop1 12 0 ls H locs mem19 (by omega) (lv_sub hl [0, 1] rfl) ⟨fun i hi => ne i (by omega) (by omega), by rw [key, va_up_self], by rw [key, va_up_ne _ _ (by decide), va_up_self, rfB_0], fun i hi => absurd hi (Nat.not_lt_zero i)⟩ hP hS
