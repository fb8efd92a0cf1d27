theorem d_Ab_init_0 : decode c_Ab_init 0 = .ok (.aload_n 0, 1) := by decide +kernel
theorem d_Ab_init_1 : decode c_Ab_init 1 = .ok (.invokespecial 1, 3) := by decide +kernel
theorem d_Ab_init_4 : decode c_Ab_init 4 = .ok (.aload_n 0, 1) := by decide +kernel
theorem d_Ab_init_5 : decode c_Ab_init 5 = .ok (.new 7, 3) := by decide +kernel
theorem d_Ab_init_8 : decode c_Ab_init 8 = .ok (.dup, 1) := by decide +kernel
theorem d_Ab_init_9 : decode c_Ab_init 9 = .ok (.sipush 240, 3) := by decide +kernel
theorem d_Ab_init_12 : decode c_Ab_init 12 = .ok (.invokespecial 11, 3) := by decide +kernel
theorem d_Ab_init_15 : decode c_Ab_init 15 = .ok (.putfield 14, 3) := by decide +kernel
theorem d_Ab_init_18 : decode c_Ab_init 18 = .ok (.aload_n 0, 1) := by decide +kernel
theorem d_Ab_init_19 : decode c_Ab_init 19 = .ok (.new 7, 3) := by decide +kernel
theorem d_Ab_init_22 : decode c_Ab_init 22 = .ok (.dup, 1) := by decide +kernel
theorem d_Ab_init_23 : decode c_Ab_init 23 = .ok (.bipush 24, 2) := by decide +kernel
theorem d_Ab_init_25 : decode c_Ab_init 25 = .ok (.invokespecial 11, 3) := by decide +kernel
theorem d_Ab_init_28 : decode c_Ab_init 28 = .ok (.putfield 18, 3) := by decide +kernel
theorem d_Ab_init_31 : decode c_Ab_init 31 = .ok (.aload_n 0, 1) := by decide +kernel
theorem d_Ab_init_32 : decode c_Ab_init 32 = .ok (.new 21, 3) := by decide +kernel
theorem d_Ab_init_35 : decode c_Ab_init 35 = .ok (.dup, 1) := by decide +kernel
theorem d_Ab_init_36 : decode c_Ab_init 36 = .ok (.invokespecial 23, 3) := by decide +kernel
theorem d_Ab_init_39 : decode c_Ab_init 39 = .ok (.putfield 24, 3) := by decide +kernel
theorem d_Ab_init_42 : decode c_Ab_init 42 = .ok (.aload_n 0, 1) := by decide +kernel
theorem d_Ab_init_43 : decode c_Ab_init 43 = .ok (.new 28, 3) := by decide +kernel
theorem d_Ab_init_46 : decode c_Ab_init 46 = .ok (.dup, 1) := by decide +kernel
theorem d_Ab_init_47 : decode c_Ab_init 47 = .ok (.aload_n 0, 1) := by decide +kernel
theorem d_Ab_init_48 : decode c_Ab_init 48 = .ok (.getfield 14, 3) := by decide +kernel
theorem d_Ab_init_51 : decode c_Ab_init 51 = .ok (.aload_n 0, 1) := by decide +kernel
theorem d_Ab_init_52 : decode c_Ab_init 52 = .ok (.getfield 24, 3) := by decide +kernel
theorem d_Ab_init_55 : decode c_Ab_init 55 = .ok (.invokespecial 30, 3) := by decide +kernel
theorem d_Ab_init_58 : decode c_Ab_init 58 = .ok (.putfield 33, 3) := by decide +kernel
theorem d_Ab_init_61 : decode c_Ab_init 61 = .ok (.aload_n 0, 1) := by decide +kernel
theorem d_Ab_init_62 : decode c_Ab_init 62 = .ok (.new 37, 3) := by decide +kernel
theorem d_Ab_init_65 : decode c_Ab_init 65 = .ok (.dup, 1) := by decide +kernel
theorem d_Ab_init_66 : decode c_Ab_init 66 = .ok (.aload_n 0, 1) := by decide +kernel
theorem d_Ab_init_67 : decode c_Ab_init 67 = .ok (.getfield 18, 3) := by decide +kernel
theorem d_Ab_init_70 : decode c_Ab_init 70 = .ok (.aload_n 0, 1) := by decide +kernel
theorem d_Ab_init_71 : decode c_Ab_init 71 = .ok (.getfield 24, 3) := by decide +kernel
theorem d_Ab_init_74 : decode c_Ab_init 74 = .ok (.invokespecial 39, 3) := by decide +kernel
theorem d_Ab_init_77 : decode c_Ab_init 77 = .ok (.putfield 40, 3) := by decide +kernel
theorem d_Ab_init_80 : decode c_Ab_init 80 = .ok (.return_, 1) := by decide +kernel
theorem d_Mo_init_0 : decode c_Mo_init 0 = .ok (.aload_n 0, 1) := by decide +kernel
theorem d_Mo_init_1 : decode c_Mo_init 1 = .ok (.invokespecial 1, 3) := by decide +kernel
theorem d_Mo_init_4 : decode c_Mo_init 4 = .ok (.aload_n 0, 1) := by decide +kernel
theorem d_Mo_init_5 : decode c_Mo_init 5 = .ok (.sipush 240, 3) := by decide +kernel
theorem d_Mo_init_8 : decode c_Mo_init 8 = .ok (.newarray .int, 2) := by decide +kernel
theorem d_Mo_init_10 : decode c_Mo_init 10 = .ok (.putfield 7, 3) := by decide +kernel
theorem d_Mo_init_13 : decode c_Mo_init 13 = .ok (.aload_n 0, 1) := by decide +kernel
theorem d_Mo_init_14 : decode c_Mo_init 14 = .ok (.iconst (-1), 1) := by decide +kernel
theorem d_Mo_init_15 : decode c_Mo_init 15 = .ok (.putfield 13, 3) := by decide +kernel
theorem d_Mo_init_18 : decode c_Mo_init 18 = .ok (.aload_n 0, 1) := by decide +kernel
theorem d_Mo_init_19 : decode c_Mo_init 19 = .ok (.bipush 12, 2) := by decide +kernel
theorem d_Mo_init_21 : decode c_Mo_init 21 = .ok (.newarray .long, 2) := by decide +kernel
theorem d_Mo_init_23 : decode c_Mo_init 23 = .ok (.putfield 17, 3) := by decide +kernel
theorem d_Mo_init_26 : decode c_Mo_init 26 = .ok (.aload_n 0, 1) := by decide +kernel
theorem d_Mo_init_27 : decode c_Mo_init 27 = .ok (.bipush 12, 2) := by decide +kernel
theorem d_Mo_init_29 : decode c_Mo_init 29 = .ok (.newarray .int, 2) := by decide +kernel
theorem d_Mo_init_31 : decode c_Mo_init 31 = .ok (.putfield 21, 3) := by decide +kernel
theorem d_Mo_init_34 : decode c_Mo_init 34 = .ok (.aload_n 0, 1) := by decide +kernel
theorem d_Mo_init_35 : decode c_Mo_init 35 = .ok (.bipush 100, 2) := by decide +kernel
theorem d_Mo_init_37 : decode c_Mo_init 37 = .ok (.newarray .int, 2) := by decide +kernel
theorem d_Mo_init_39 : decode c_Mo_init 39 = .ok (.putfield 24, 3) := by decide +kernel
theorem d_Mo_init_42 : decode c_Mo_init 42 = .ok (.aload_n 0, 1) := by decide +kernel
theorem d_Mo_init_43 : decode c_Mo_init 43 = .ok (.bipush 100, 2) := by decide +kernel
theorem d_Mo_init_45 : decode c_Mo_init 45 = .ok (.newarray .int, 2) := by decide +kernel
theorem d_Mo_init_47 : decode c_Mo_init 47 = .ok (.putfield 27, 3) := by decide +kernel
theorem d_Mo_init_50 : decode c_Mo_init 50 = .ok (.aload_n 0, 1) := by decide +kernel
theorem d_Mo_init_51 : decode c_Mo_init 51 = .ok (.bipush 100, 2) := by decide +kernel
theorem d_Mo_init_53 : decode c_Mo_init 53 = .ok (.newarray .int, 2) := by decide +kernel
theorem d_Mo_init_55 : decode c_Mo_init 55 = .ok (.putfield 30, 3) := by decide +kernel
theorem d_Mo_init_58 : decode c_Mo_init 58 = .ok (.aload_n 0, 1) := by decide +kernel
theorem d_Mo_init_59 : decode c_Mo_init 59 = .ok (.bipush 100, 2) := by decide +kernel
theorem d_Mo_init_61 : decode c_Mo_init 61 = .ok (.newarray .boolean, 2) := by decide +kernel
theorem d_Mo_init_63 : decode c_Mo_init 63 = .ok (.putfield 33, 3) := by decide +kernel
theorem d_Mo_init_66 : decode c_Mo_init 66 = .ok (.aload_n 0, 1) := by decide +kernel
theorem d_Mo_init_67 : decode c_Mo_init 67 = .ok (.bipush 100, 2) := by decide +kernel
theorem d_Mo_init_69 : decode c_Mo_init 69 = .ok (.newarray .int, 2) := by decide +kernel
theorem d_Mo_init_71 : decode c_Mo_init 71 = .ok (.putfield 37, 3) := by decide +kernel
theorem d_Mo_init_74 : decode c_Mo_init 74 = .ok (.aload_n 0, 1) := by decide +kernel
theorem d_Mo_init_75 : decode c_Mo_init 75 = .ok (.bipush 100, 2) := by decide +kernel
theorem d_Mo_init_77 : decode c_Mo_init 77 = .ok (.newarray .int, 2) := by decide +kernel
theorem d_Mo_init_79 : decode c_Mo_init 79 = .ok (.putfield 40, 3) := by decide +kernel
theorem d_Mo_init_82 : decode c_Mo_init 82 = .ok (.aload_n 0, 1) := by decide +kernel
theorem d_Mo_init_83 : decode c_Mo_init 83 = .ok (.sipush 400, 3) := by decide +kernel
theorem d_Mo_init_86 : decode c_Mo_init 86 = .ok (.newarray .int, 2) := by decide +kernel
theorem d_Mo_init_88 : decode c_Mo_init 88 = .ok (.putfield 43, 3) := by decide +kernel
theorem d_Mo_init_91 : decode c_Mo_init 91 = .ok (.aload_n 0, 1) := by decide +kernel
theorem d_Mo_init_92 : decode c_Mo_init 92 = .ok (.bipush 8, 2) := by decide +kernel
theorem d_Mo_init_94 : decode c_Mo_init 94 = .ok (.newarray .int, 2) := by decide +kernel
theorem d_Mo_init_96 : decode c_Mo_init 96 = .ok (.putfield 46, 3) := by decide +kernel
theorem d_Mo_init_99 : decode c_Mo_init 99 = .ok (.aload_n 0, 1) := by decide +kernel
theorem d_Mo_init_100 : decode c_Mo_init 100 = .ok (.bipush 8, 2) := by decide +kernel
theorem d_Mo_init_102 : decode c_Mo_init 102 = .ok (.newarray .int, 2) := by decide +kernel
theorem d_Mo_init_104 : decode c_Mo_init 104 = .ok (.putfield 49, 3) := by decide +kernel
theorem d_Mo_init_107 : decode c_Mo_init 107 = .ok (.aload_n 0, 1) := by decide +kernel
theorem d_Mo_init_108 : decode c_Mo_init 108 = .ok (.bipush 8, 2) := by decide +kernel
theorem d_Mo_init_110 : decode c_Mo_init 110 = .ok (.newarray .int, 2) := by decide +kernel
theorem d_Mo_init_112 : decode c_Mo_init 112 = .ok (.putfield 52, 3) := by decide +kernel
theorem d_Mo_init_115 : decode c_Mo_init 115 = .ok (.aload_n 0, 1) := by decide +kernel
theorem d_Mo_init_116 : decode c_Mo_init 116 = .ok (.bipush 8, 2) := by decide +kernel
theorem d_Mo_init_118 : decode c_Mo_init 118 = .ok (.newarray .int, 2) := by decide +kernel
theorem d_Mo_init_120 : decode c_Mo_init 120 = .ok (.putfield 55, 3) := by decide +kernel
theorem d_Mo_init_123 : decode c_Mo_init 123 = .ok (.aload_n 0, 1) := by decide +kernel
theorem d_Mo_init_124 : decode c_Mo_init 124 = .ok (.bipush 8, 2) := by decide +kernel
theorem d_Mo_init_126 : decode c_Mo_init 126 = .ok (.newarray .int, 2) := by decide +kernel
theorem d_Mo_init_128 : decode c_Mo_init 128 = .ok (.putfield 58, 3) := by decide +kernel
theorem d_Mo_init_131 : decode c_Mo_init 131 = .ok (.aload_n 0, 1) := by decide +kernel
theorem d_Mo_init_132 : decode c_Mo_init 132 = .ok (.bipush 24, 2) := by decide +kernel
theorem d_Mo_init_134 : decode c_Mo_init 134 = .ok (.newarray .int, 2) := by decide +kernel
theorem d_Mo_init_136 : decode c_Mo_init 136 = .ok (.putfield 61, 3) := by decide +kernel
theorem d_Mo_init_139 : decode c_Mo_init 139 = .ok (.aload_n 0, 1) := by decide +kernel
theorem d_Mo_init_140 : decode c_Mo_init 140 = .ok (.iconst 1, 1) := by decide +kernel
theorem d_Mo_init_141 : decode c_Mo_init 141 = .ok (.putfield 64, 3) := by decide +kernel
theorem d_Mo_init_144 : decode c_Mo_init 144 = .ok (.aload_n 0, 1) := by decide +kernel
theorem d_Mo_init_145 : decode c_Mo_init 145 = .ok (.sipush 2500, 3) := by decide +kernel
theorem d_Mo_init_148 : decode c_Mo_init 148 = .ok (.newarray .int, 2) := by decide +kernel
theorem d_Mo_init_150 : decode c_Mo_init 150 = .ok (.putfield 68, 3) := by decide +kernel
theorem d_Mo_init_153 : decode c_Mo_init 153 = .ok (.return_, 1) := by decide +kernel
/-- a new AbnfChart: cells 0 to 223 -/
def XI (cy : Nat → ClassId) (base : Nat) (mk : Nat → va_E) : Prop :=
  mk 0 = .inr (6, [.ref ((adB base) 1), .ref ((adB base) 3), .ref ((adB base) 5), .ref ((adB base) 222), .ref ((adB base) 223)]) ∧ mk 1 = .inr (0, [.ref ((adB base) 2), .int 0]) ∧ mk 2 = .inl (cy 0, 240, .inl (fun _ => 0)) ∧ mk 3 = .inr (0, [.ref ((adB base) 4), .int 0]) ∧ mk 4 = .inl (cy 0, 24, .inl (fun _ => 0)) ∧
  mk 5 = .inr (3, [.ref ((adB base) 6), .ref ((adB base) 19), .ref ((adB base) 220), .int 0, .int 0, .int 0]) ∧ mk 6 = gaC (cy 5) 12 (rfB base 7 12) ∧ (∀ i, i < 12 → mk (7 + i) = ruC) ∧ mk 19 = gaC (cy 4) 100 (rf2 base 100) ∧ (∀ i, i < 100 → mk (20 + 2 * i) = elC base i ∧ mk (21 + 2 * i) = enC cy) ∧ mk 220 = .inr (0, [.ref ((adB base) 221), .int 0]) ∧ mk 221 = .inl (cy 0, 240, .inl (fun _ => 0)) ∧
  mk 222 = .inr (4, [.ref ((adB base) 1), .ref ((adB base) 5), .int 0, .int (-1)]) ∧ mk 223 = .inr (1, [.ref ((adB base) 3), .ref ((adB base) 5), .int 0])
set_option maxHeartbeats 4000000 in
set_option maxRecDepth 100000 in
theorem m_Ab_init (l : Launch) {D : va_G} {cy : Nat → ClassId} {sz base : Nat} {mem : Nat → va_E}  (hbz : sz ≤ base) (h0 : mem 0 = .inr (6, [.null, .null, .null, .null, .null])) : MC l D cy sz base 1 224 y_Ab_init c_Ab_init 1 ({ frames := 8, cells := 223, slots := 3871, locals := 200 } : Room) mem [.ref ((adB base) 0)] (fun mem' => XI cy base mem') 223 3871 := by
  refine Met.ofW (cc := c_Ab_init) (maxL := 1) (ret := none) (by decide) rfl ?_
  intro p e s m args below meth c s₁ B hml hv
  obtain ⟨rfl, ⟨E, hP, -⟩, hs0⟩ := hv
  have hx := B.exec
  have hb := B.bytes
  have hr := B.returns
  have hlocks := B.notSynchronized
  have Bx : MB p s m [.ref ((adB base) 0)].toArray c c_Ab_init "AbnfChart" D cy := ⟨hx, hb, tb_all (atoms_spec B.pre) E.2.1, findClass_of_methodNamed B.named, E.1⟩
  have hS : va_S (Az sz) s.heap s.heap [] := va_S.rf
  have hin : meth.name = "<init>" := (name_of_methodNamed B.named B.method).1
  have hl := lv_entry ([.ref ((adB base) 0)]) (n := 1) (Nat.le_of_ble_eq_true rfl)
  rw [lg_entry_eq]
  generalize (lg_sl ([.ref ((adB base) 0)]) ++ List.replicate (1 - (lg_sl ([.ref ((adB base) 0)])).length) Slot.unset).toArray = ls at hl ⊢
  have hl : lv_has ls 1 [(0, .ref ((adB base) 0))] := hl
  refine lv_aload_n Bx.1 Bx.2.1 d_Ab_init_0 rfl (lv_at hl 0 rfl) ?_
  refine W.objInit hx hb Bx.2.2.2.1 (Bx.2.2.1 _ (tb_g kw_22 rfl)) (Bx.2.2.1 _ (tb_g kw_23 rfl)) (Bx.2.2.1 _ (tb_g kw_24 rfl)) rfl (by rw [hml]; exact hl.1) rfl d_Ab_init_1 (Nat.le_of_ble_eq_true rfl) (Nat.le_of_ble_eq_true rfl) ?_
  refine W.eq (g2 := F0 m 4 ls []) rfl ?_
  refine lv_aload_n Bx.1 Bx.2.1 d_Ab_init_4 rfl (lv_at hl 0 rfl) ?_
  refine c_size (n := 1) hP (by omega) (by omega) (fun hz => ?_)
  refine f_new (ci := 0) (n := 1) Bx hP hS hz rfl inCh tyCh okCh kw_25 kw_26 kw_2 [.null, .int (0)] (by intro j hj; match j, hj with | 0, _ => rfl | 1, _ => rfl) (Nat.le_of_ble_eq_true rfl) (Nat.le_of_ble_eq_true rfl) d_Ab_init_5 (fun H hP hS hz => ?_)
  obtain ⟨mem1, e_mem1⟩ : ∃ z, z = va_up mem (1) (.inr (0, [.null, .int (0)])) := ⟨_, rfl⟩
  have hP : va_P D vcl (fw 2 (adB base) mem1) H := by rw [e_mem1]; exact hP
  have h_mem1 : mem1 (1) = .inr (0, [.null, .int (0)]) := by rw [e_mem1, va_up_self]
  have hh2 := (va_up_ne mem (.inr (0, [.null, .int (0)])) (show (0 : Nat) ≠ 1 by first | decide | assumption | omega)).trans h0
  rw [← e_mem1] at hh2
  refine lv_dup Bx.1 Bx.2.1 d_Ab_init_8 rfl ?_
  refine lv_sipush (v := 240) Bx.1 Bx.2.1 d_Ab_init_9 (by decide) ?_
  refine c_size (n := 2) hP (by omega) (by omega) (fun hz => ?_)
  refine f_callI (na := 1) (n := 2) (j := 1) (As := [.int (nI 240)]) (rest := [.ref ((adB base) 1), .ref ((adB base) 0)]) Bx hml E hP hS hbz hz (m_Ch_init (n := 2) (j := 1) (K := 240) l hbz (by omega) h_mem1 (Or.inl rfl)) kw_27 kw_28 kw_2 kw_29 rfl (by decide +kernel) ⟨rfl, rfl⟩ ⟨Nat.le_of_ble_eq_true rfl, Nat.le_of_ble_eq_true rfl⟩ rfl hl.1 (Nat.le_of_ble_eq_true rfl) d_Ab_init_12 ⟨Nat.le_of_ble_eq_true rfl, Nat.le_of_ble_eq_true rfl⟩ (fun mem3 H locs hq1 hP hS hz => ?_)
  have a0 : mem3 0 = .inr (6, [.null, .null, .null, .null, .null]) := by rw [hq1, va_up_ne _ _ (by decide), va_up_ne _ _ (by decide), e_mem1, va_up_ne _ _ (by decide)]; exact h0
  have a1 : mem3 1 = .inr (0, [.ref ((adB base) 2), .int 0]) := by rw [hq1, va_up_self]
  have a2 : mem3 2 = .inl (cy 0, 240, .inl (fun _ => 0)) := by rw [hq1, va_up_ne _ _ (by decide), va_up_self]
  refine f_putF Bx hin hP (adB_D hbz) hS (by omega) a0 rfl inAb tyAb okAb nmAb 0 (by decide) kw_174 rfl rfl rfl rfl (Nat.le_of_ble_eq_true rfl) d_Ab_init_15 (fun H locs hP hS => ?_)
  obtain ⟨mem4, e_mem4⟩ : ∃ z, z = va_up mem3 (0) (.inr (6, [.ref ((adB base) 1), .null, .null, .null, .null])) := ⟨_, rfl⟩
  have hP : va_P D vcl (fw 3 (adB base) mem4) H := by rw [e_mem4]; exact hP
  have h_mem4 : mem4 (0) = .inr (6, [.ref ((adB base) 1), .null, .null, .null, .null]) := by rw [e_mem4, va_up_self]
  have hh5 := (va_up_ne mem3 (.inr (6, [.ref ((adB base) 1), .null, .null, .null, .null])) (show (1 : Nat) ≠ 0 by first | decide | assumption | omega)).trans a1
  rw [← e_mem4] at hh5
  have hh6 := (va_up_ne mem3 (.inr (6, [.ref ((adB base) 1), .null, .null, .null, .null])) (show (2 : Nat) ≠ 0 by first | decide | assumption | omega)).trans a2
  rw [← e_mem4] at hh6
  refine lv_aload_n Bx.1 Bx.2.1 d_Ab_init_18 rfl (lv_at hl 0 rfl) ?_
  refine c_size (n := 3) hP (by omega) (by omega) (fun hz => ?_)
  refine f_new (ci := 0) (n := 3) Bx hP hS hz rfl inCh tyCh okCh kw_25 kw_26 kw_2 [.null, .int (0)] (by intro j hj; match j, hj with | 0, _ => rfl | 1, _ => rfl) (Nat.le_of_ble_eq_true rfl) (Nat.le_of_ble_eq_true rfl) d_Ab_init_19 (fun H hP hS hz => ?_)
  obtain ⟨mem7, e_mem7⟩ : ∃ z, z = va_up mem4 (3) (.inr (0, [.null, .int (0)])) := ⟨_, rfl⟩
  have hP : va_P D vcl (fw 4 (adB base) mem7) H := by rw [e_mem7]; exact hP
  have h_mem7 : mem7 (3) = .inr (0, [.null, .int (0)]) := by rw [e_mem7, va_up_self]
  have hh8 := (va_up_ne mem4 (.inr (0, [.null, .int (0)])) (show (0 : Nat) ≠ 3 by first | decide | assumption | omega)).trans h_mem4
  rw [← e_mem7] at hh8
  have hh9 := (va_up_ne mem4 (.inr (0, [.null, .int (0)])) (show (1 : Nat) ≠ 3 by first | decide | assumption | omega)).trans hh5
  rw [← e_mem7] at hh9
  have hh10 := (va_up_ne mem4 (.inr (0, [.null, .int (0)])) (show (2 : Nat) ≠ 3 by first | decide | assumption | omega)).trans hh6
  rw [← e_mem7] at hh10
  refine lv_dup Bx.1 Bx.2.1 d_Ab_init_22 rfl ?_
  refine lv_bipush (v := 24) Bx.1 Bx.2.1 d_Ab_init_23 (by decide) ?_
  refine c_size (n := 4) hP (by omega) (by omega) (fun hz => ?_)
  refine f_callI (na := 1) (n := 4) (j := 3) (As := [.int (nI 24)]) (rest := [.ref ((adB base) 3), .ref ((adB base) 0)]) Bx hml E hP hS hbz hz (m_Ch_init (n := 4) (j := 3) (K := 24) l hbz (by omega) h_mem7 (Or.inr rfl)) kw_27 kw_28 kw_2 kw_29 rfl (by decide +kernel) ⟨rfl, rfl⟩ ⟨Nat.le_of_ble_eq_true rfl, Nat.le_of_ble_eq_true rfl⟩ rfl hl.1 (Nat.le_of_ble_eq_true rfl) d_Ab_init_25 ⟨Nat.le_of_ble_eq_true rfl, Nat.le_of_ble_eq_true rfl⟩ (fun mem11 H locs hq3 hP hS hz => ?_)
  have hh12 : mem11 (0) = .inr (6, [.ref ((adB base) 1), .null, .null, .null, .null]) := by rw [hq3]; (try unfold chM); rw [va_up_ne _ _ (by first | decide | assumption | omega), va_up_ne _ _ (by first | decide | assumption | omega)]; exact hh8
  have hh13 : mem11 (1) = .inr (0, [.ref ((adB base) 2), .int (0)]) := by rw [hq3]; (try unfold chM); rw [va_up_ne _ _ (by first | decide | assumption | omega), va_up_ne _ _ (by first | decide | assumption | omega)]; exact hh9
  have hh14 : mem11 (2) = .inl (cy 0, 240, .inl (fun _ => 0)) := by rw [hq3]; (try unfold chM); rw [va_up_ne _ _ (by first | decide | assumption | omega), va_up_ne _ _ (by first | decide | assumption | omega)]; exact hh10
  have a3 : mem11 3 = .inr (0, [.ref ((adB base) 4), .int 0]) := by rw [hq3, va_up_self]
  have a4 : mem11 4 = .inl (cy 0, 24, .inl (fun _ => 0)) := by rw [hq3, va_up_ne _ _ (by decide), va_up_self]
  refine f_putF Bx hin hP (adB_D hbz) hS (by omega) hh12 rfl inAb tyAb okAb nmAb 1 (by decide) kw_175 rfl rfl rfl rfl (Nat.le_of_ble_eq_true rfl) d_Ab_init_28 (fun H locs hP hS => ?_)
  obtain ⟨mem15, e_mem15⟩ : ∃ z, z = va_up mem11 (0) (.inr (6, [.ref ((adB base) 1), .ref ((adB base) 3), .null, .null, .null])) := ⟨_, rfl⟩
  have hP : va_P D vcl (fw 5 (adB base) mem15) H := by rw [e_mem15]; exact hP
  have h_mem15 : mem15 (0) = .inr (6, [.ref ((adB base) 1), .ref ((adB base) 3), .null, .null, .null]) := by rw [e_mem15, va_up_self]
  have hh16 := (va_up_ne mem11 (.inr (6, [.ref ((adB base) 1), .ref ((adB base) 3), .null, .null, .null])) (show (1 : Nat) ≠ 0 by first | decide | assumption | omega)).trans hh13
  rw [← e_mem15] at hh16
  have hh17 := (va_up_ne mem11 (.inr (6, [.ref ((adB base) 1), .ref ((adB base) 3), .null, .null, .null])) (show (2 : Nat) ≠ 0 by first | decide | assumption | omega)).trans hh14
  rw [← e_mem15] at hh17
  have hh18 := (va_up_ne mem11 (.inr (6, [.ref ((adB base) 1), .ref ((adB base) 3), .null, .null, .null])) (show (3 : Nat) ≠ 0 by first | decide | assumption | omega)).trans a3
  rw [← e_mem15] at hh18
  have hh19 := (va_up_ne mem11 (.inr (6, [.ref ((adB base) 1), .ref ((adB base) 3), .null, .null, .null])) (show (4 : Nat) ≠ 0 by first | decide | assumption | omega)).trans a4
  rw [← e_mem15] at hh19
  refine lv_aload_n Bx.1 Bx.2.1 d_Ab_init_31 rfl (lv_at hl 0 rfl) ?_
  refine c_size (n := 5) hP (by omega) (by omega) (fun hz => ?_)
  refine f_new (ci := 3) (n := 5) Bx hP hS hz rfl inGr tyGr okGr kw_42 kw_43 kw_3 [.null, .null, .null, .int (0), .int (0), .int (0)] (by intro j hj; match j, hj with | 0, _ => rfl | 1, _ => rfl | 2, _ => rfl | 3, _ => rfl | 4, _ => rfl | 5, _ => rfl) (Nat.le_of_ble_eq_true rfl) (Nat.le_of_ble_eq_true rfl) d_Ab_init_32 (fun H hP hS hz => ?_)
  obtain ⟨mem20, e_mem20⟩ : ∃ z, z = va_up mem15 (5) (.inr (3, [.null, .null, .null, .int (0), .int (0), .int (0)])) := ⟨_, rfl⟩
  have hP : va_P D vcl (fw 6 (adB base) mem20) H := by rw [e_mem20]; exact hP
  have h_mem20 : mem20 (5) = .inr (3, [.null, .null, .null, .int (0), .int (0), .int (0)]) := by rw [e_mem20, va_up_self]
  have hh21 := (va_up_ne mem15 (.inr (3, [.null, .null, .null, .int (0), .int (0), .int (0)])) (show (0 : Nat) ≠ 5 by first | decide | assumption | omega)).trans h_mem15
  rw [← e_mem20] at hh21
  have hh22 := (va_up_ne mem15 (.inr (3, [.null, .null, .null, .int (0), .int (0), .int (0)])) (show (1 : Nat) ≠ 5 by first | decide | assumption | omega)).trans hh16
  rw [← e_mem20] at hh22
  have hh23 := (va_up_ne mem15 (.inr (3, [.null, .null, .null, .int (0), .int (0), .int (0)])) (show (2 : Nat) ≠ 5 by first | decide | assumption | omega)).trans hh17
  rw [← e_mem20] at hh23
  have hh24 := (va_up_ne mem15 (.inr (3, [.null, .null, .null, .int (0), .int (0), .int (0)])) (show (3 : Nat) ≠ 5 by first | decide | assumption | omega)).trans hh18
  rw [← e_mem20] at hh24
  have hh25 := (va_up_ne mem15 (.inr (3, [.null, .null, .null, .int (0), .int (0), .int (0)])) (show (4 : Nat) ≠ 5 by first | decide | assumption | omega)).trans hh19
  rw [← e_mem20] at hh25
  refine lv_dup Bx.1 Bx.2.1 d_Ab_init_35 rfl ?_
  refine c_size (n := 6) hP (by omega) (by omega) (fun hz => ?_)
  refine f_callI (na := 0) (n := 6) (j := 5) (As := []) (rest := [.ref ((adB base) 5), .ref ((adB base) 0)]) Bx hml E hP hS hbz hz (m_Gr_init l hbz h_mem20) kw_44 kw_45 kw_3 kw_46 rfl (by decide +kernel) ⟨rfl, rfl⟩ ⟨Nat.le_of_ble_eq_true rfl, Nat.le_of_ble_eq_true rfl⟩ rfl hl.1 (Nat.le_of_ble_eq_true rfl) d_Ab_init_36 ⟨Nat.le_of_ble_eq_true rfl, Nat.le_of_ble_eq_true rfl⟩ (fun mem26 H locs hg hP hS hz => ?_)
  obtain ⟨g0, g5, g6, g7, g19, g20, g220, g221⟩ := hg
  have hh27 := (g0 0 (by decide)).trans hh21
  have hh28 := (g0 1 (by decide)).trans hh22
  have hh29 := (g0 2 (by decide)).trans hh23
  have hh30 := (g0 3 (by decide)).trans hh24
  have hh31 := (g0 4 (by decide)).trans hh25
  refine f_putF Bx hin hP (adB_D hbz) hS (by omega) hh27 rfl inAb tyAb okAb nmAb 2 (by decide) kw_176 rfl rfl rfl rfl (Nat.le_of_ble_eq_true rfl) d_Ab_init_39 (fun H locs hP hS => ?_)
  obtain ⟨mem32, e_mem32⟩ : ∃ z, z = va_up mem26 (0) (.inr (6, [.ref ((adB base) 1), .ref ((adB base) 3), .ref ((adB base) 5), .null, .null])) := ⟨_, rfl⟩
  have hP : va_P D vcl (fw 222 (adB base) mem32) H := by rw [e_mem32]; exact hP
  have h_mem32 : mem32 (0) = .inr (6, [.ref ((adB base) 1), .ref ((adB base) 3), .ref ((adB base) 5), .null, .null]) := by rw [e_mem32, va_up_self]
  have hh33 := (va_up_ne mem26 (.inr (6, [.ref ((adB base) 1), .ref ((adB base) 3), .ref ((adB base) 5), .null, .null])) (show (1 : Nat) ≠ 0 by first | decide | assumption | omega)).trans hh28
  rw [← e_mem32] at hh33
  have hh34 := (va_up_ne mem26 (.inr (6, [.ref ((adB base) 1), .ref ((adB base) 3), .ref ((adB base) 5), .null, .null])) (show (2 : Nat) ≠ 0 by first | decide | assumption | omega)).trans hh29
  rw [← e_mem32] at hh34
  have hh35 := (va_up_ne mem26 (.inr (6, [.ref ((adB base) 1), .ref ((adB base) 3), .ref ((adB base) 5), .null, .null])) (show (3 : Nat) ≠ 0 by first | decide | assumption | omega)).trans hh30
  rw [← e_mem32] at hh35
  have hh36 := (va_up_ne mem26 (.inr (6, [.ref ((adB base) 1), .ref ((adB base) 3), .ref ((adB base) 5), .null, .null])) (show (4 : Nat) ≠ 0 by first | decide | assumption | omega)).trans hh31
  rw [← e_mem32] at hh36
  have hh37 := (va_up_ne mem26 (.inr (6, [.ref ((adB base) 1), .ref ((adB base) 3), .ref ((adB base) 5), .null, .null])) (show (5 : Nat) ≠ 0 by first | decide | assumption | omega)).trans g5
  rw [← e_mem32] at hh37
  have hh38 := (va_up_ne mem26 (.inr (6, [.ref ((adB base) 1), .ref ((adB base) 3), .ref ((adB base) 5), .null, .null])) (show (6 : Nat) ≠ 0 by first | decide | assumption | omega)).trans g6
  rw [← e_mem32] at hh38
  have hh39 := (va_up_ne mem26 (.inr (6, [.ref ((adB base) 1), .ref ((adB base) 3), .ref ((adB base) 5), .null, .null])) (show (19 : Nat) ≠ 0 by first | decide | assumption | omega)).trans g19
  rw [← e_mem32] at hh39
  have hh40 := (va_up_ne mem26 (.inr (6, [.ref ((adB base) 1), .ref ((adB base) 3), .ref ((adB base) 5), .null, .null])) (show (220 : Nat) ≠ 0 by first | decide | assumption | omega)).trans g220
  rw [← e_mem32] at hh40
  have hh41 := (va_up_ne mem26 (.inr (6, [.ref ((adB base) 1), .ref ((adB base) 3), .ref ((adB base) 5), .null, .null])) (show (221 : Nat) ≠ 0 by first | decide | assumption | omega)).trans g221
  rw [← e_mem32] at hh41
  refine lv_aload_n Bx.1 Bx.2.1 d_Ab_init_42 rfl (lv_at hl 0 rfl) ?_
  refine c_size (n := 222) hP (by omega) (by omega) (fun hz => ?_)
  refine f_new (ci := 4) (n := 222) Bx hP hS hz rfl inRd tyRd okRd kw_138 kw_139 kw_6 [.null, .null, .int (0), .int (0)] (by intro j hj; match j, hj with | 0, _ => rfl | 1, _ => rfl | 2, _ => rfl | 3, _ => rfl) (Nat.le_of_ble_eq_true rfl) (Nat.le_of_ble_eq_true rfl) d_Ab_init_43 (fun H hP hS hz => ?_)
  obtain ⟨mem42, e_mem42⟩ : ∃ z, z = va_up mem32 (222) (.inr (4, [.null, .null, .int (0), .int (0)])) := ⟨_, rfl⟩
  have hP : va_P D vcl (fw 223 (adB base) mem42) H := by rw [e_mem42]; exact hP
  have h_mem42 : mem42 (222) = .inr (4, [.null, .null, .int (0), .int (0)]) := by rw [e_mem42, va_up_self]
  have hh43 := (va_up_ne mem32 (.inr (4, [.null, .null, .int (0), .int (0)])) (show (0 : Nat) ≠ 222 by first | decide | assumption | omega)).trans h_mem32
  rw [← e_mem42] at hh43
  have hh44 := (va_up_ne mem32 (.inr (4, [.null, .null, .int (0), .int (0)])) (show (1 : Nat) ≠ 222 by first | decide | assumption | omega)).trans hh33
  rw [← e_mem42] at hh44
  have hh45 := (va_up_ne mem32 (.inr (4, [.null, .null, .int (0), .int (0)])) (show (2 : Nat) ≠ 222 by first | decide | assumption | omega)).trans hh34
  rw [← e_mem42] at hh45
  have hh46 := (va_up_ne mem32 (.inr (4, [.null, .null, .int (0), .int (0)])) (show (3 : Nat) ≠ 222 by first | decide | assumption | omega)).trans hh35
  rw [← e_mem42] at hh46
  have hh47 := (va_up_ne mem32 (.inr (4, [.null, .null, .int (0), .int (0)])) (show (4 : Nat) ≠ 222 by first | decide | assumption | omega)).trans hh36
  rw [← e_mem42] at hh47
  have hh48 := (va_up_ne mem32 (.inr (4, [.null, .null, .int (0), .int (0)])) (show (5 : Nat) ≠ 222 by first | decide | assumption | omega)).trans hh37
  rw [← e_mem42] at hh48
  have hh49 := (va_up_ne mem32 (.inr (4, [.null, .null, .int (0), .int (0)])) (show (6 : Nat) ≠ 222 by first | decide | assumption | omega)).trans hh38
  rw [← e_mem42] at hh49
  have hh50 := (va_up_ne mem32 (.inr (4, [.null, .null, .int (0), .int (0)])) (show (19 : Nat) ≠ 222 by first | decide | assumption | omega)).trans hh39
  rw [← e_mem42] at hh50
  have hh51 := (va_up_ne mem32 (.inr (4, [.null, .null, .int (0), .int (0)])) (show (220 : Nat) ≠ 222 by first | decide | assumption | omega)).trans hh40
  rw [← e_mem42] at hh51
  have hh52 := (va_up_ne mem32 (.inr (4, [.null, .null, .int (0), .int (0)])) (show (221 : Nat) ≠ 222 by first | decide | assumption | omega)).trans hh41
  rw [← e_mem42] at hh52
  refine lv_dup Bx.1 Bx.2.1 d_Ab_init_46 rfl ?_
  refine lv_aload_n Bx.1 Bx.2.1 d_Ab_init_47 rfl (lv_at hl 0 rfl) ?_
  refine f_get Bx hP (by omega) hh43 rfl inAb 0 (by decide) kw_174 rfl rfl d_Ab_init_48 ?_
  refine lv_aload_n Bx.1 Bx.2.1 d_Ab_init_51 rfl (lv_at hl 0 rfl) ?_
  refine f_get Bx hP (by omega) hh43 rfl inAb 2 (by decide) kw_176 rfl rfl d_Ab_init_52 ?_
  refine c_size (n := 223) hP (by omega) (by omega) (fun hz => ?_)
  refine f_callI (na := 2) (n := 223) (j := 222) (As := [.ref ((adB base) 1), .ref ((adB base) 5)]) (rest := [.ref ((adB base) 222), .ref ((adB base) 0)]) Bx hml E hP hS hbz hz (m_Rd_init (n := 223) (j := 222) l hbz (by omega) h_mem42) kw_140 kw_141 kw_6 kw_142 rfl (by decide +kernel) ⟨rfl, rfl⟩ ⟨Nat.le_of_ble_eq_true rfl, Nat.le_of_ble_eq_true rfl⟩ rfl hl.1 (Nat.le_of_ble_eq_true rfl) d_Ab_init_55 ⟨Nat.le_of_ble_eq_true rfl, Nat.le_of_ble_eq_true rfl⟩ (fun mem53 H locs hq5 hP hS hz => ?_)
  have hh54 : mem53 (0) = .inr (6, [.ref ((adB base) 1), .ref ((adB base) 3), .ref ((adB base) 5), .null, .null]) := by rw [hq5]; (try unfold chM); rw [va_up_ne _ _ (by first | decide | assumption | omega)]; exact hh43
  have hh55 : mem53 (1) = .inr (0, [.ref ((adB base) 2), .int (0)]) := by rw [hq5]; (try unfold chM); rw [va_up_ne _ _ (by first | decide | assumption | omega)]; exact hh44
  have hh56 : mem53 (2) = .inl (cy 0, 240, .inl (fun _ => 0)) := by rw [hq5]; (try unfold chM); rw [va_up_ne _ _ (by first | decide | assumption | omega)]; exact hh45
  have hh57 : mem53 (3) = .inr (0, [.ref ((adB base) 4), .int (0)]) := by rw [hq5]; (try unfold chM); rw [va_up_ne _ _ (by first | decide | assumption | omega)]; exact hh46
  have hh58 : mem53 (4) = .inl (cy 0, 24, .inl (fun _ => 0)) := by rw [hq5]; (try unfold chM); rw [va_up_ne _ _ (by first | decide | assumption | omega)]; exact hh47
  have hh59 : mem53 (5) = .inr (3, [.ref ((adB base) 6), .ref ((adB base) 19), .ref ((adB base) 220), .int (0), .int (0), .int (0)]) := by rw [hq5]; (try unfold chM); rw [va_up_ne _ _ (by first | decide | assumption | omega)]; exact hh48
  have hh60 : mem53 (6) = gaC (cy 5) 12 (rfB base 7 12) := by rw [hq5]; (try unfold chM); rw [va_up_ne _ _ (by first | decide | assumption | omega)]; exact hh49
  have hh61 : mem53 (19) = gaC (cy 4) 100 (rf2 base 100) := by rw [hq5]; (try unfold chM); rw [va_up_ne _ _ (by first | decide | assumption | omega)]; exact hh50
  have hh62 : mem53 (220) = .inr (0, [.ref ((adB base) 221), .int 0]) := by rw [hq5]; (try unfold chM); rw [va_up_ne _ _ (by first | decide | assumption | omega)]; exact hh51
  have hh63 : mem53 (221) = .inl (cy 0, 240, .inl (fun _ => 0)) := by rw [hq5]; (try unfold chM); rw [va_up_ne _ _ (by first | decide | assumption | omega)]; exact hh52
  have a222 : mem53 222 = .inr (4, [.ref ((adB base) 1), .ref ((adB base) 5), .int 0, .int (-1)]) := by rw [hq5, va_up_self]
  refine f_putF Bx hin hP (adB_D hbz) hS (by omega) hh54 rfl inAb tyAb okAb nmAb 3 (by decide) kw_177 rfl rfl rfl rfl (Nat.le_of_ble_eq_true rfl) d_Ab_init_58 (fun H locs hP hS => ?_)
  obtain ⟨mem64, e_mem64⟩ : ∃ z, z = va_up mem53 (0) (.inr (6, [.ref ((adB base) 1), .ref ((adB base) 3), .ref ((adB base) 5), .ref ((adB base) 222), .null])) := ⟨_, rfl⟩
  have hP : va_P D vcl (fw 223 (adB base) mem64) H := by rw [e_mem64]; exact hP
  have h_mem64 : mem64 (0) = .inr (6, [.ref ((adB base) 1), .ref ((adB base) 3), .ref ((adB base) 5), .ref ((adB base) 222), .null]) := by rw [e_mem64, va_up_self]
  have hh65 := (va_up_ne mem53 (.inr (6, [.ref ((adB base) 1), .ref ((adB base) 3), .ref ((adB base) 5), .ref ((adB base) 222), .null])) (show (1 : Nat) ≠ 0 by first | decide | assumption | omega)).trans hh55
  rw [← e_mem64] at hh65
  have hh66 := (va_up_ne mem53 (.inr (6, [.ref ((adB base) 1), .ref ((adB base) 3), .ref ((adB base) 5), .ref ((adB base) 222), .null])) (show (2 : Nat) ≠ 0 by first | decide | assumption | omega)).trans hh56
  rw [← e_mem64] at hh66
  have hh67 := (va_up_ne mem53 (.inr (6, [.ref ((adB base) 1), .ref ((adB base) 3), .ref ((adB base) 5), .ref ((adB base) 222), .null])) (show (3 : Nat) ≠ 0 by first | decide | assumption | omega)).trans hh57
  rw [← e_mem64] at hh67
  have hh68 := (va_up_ne mem53 (.inr (6, [.ref ((adB base) 1), .ref ((adB base) 3), .ref ((adB base) 5), .ref ((adB base) 222), .null])) (show (4 : Nat) ≠ 0 by first | decide | assumption | omega)).trans hh58
  rw [← e_mem64] at hh68
  have hh69 := (va_up_ne mem53 (.inr (6, [.ref ((adB base) 1), .ref ((adB base) 3), .ref ((adB base) 5), .ref ((adB base) 222), .null])) (show (5 : Nat) ≠ 0 by first | decide | assumption | omega)).trans hh59
  rw [← e_mem64] at hh69
  have hh70 := (va_up_ne mem53 (.inr (6, [.ref ((adB base) 1), .ref ((adB base) 3), .ref ((adB base) 5), .ref ((adB base) 222), .null])) (show (6 : Nat) ≠ 0 by first | decide | assumption | omega)).trans hh60
  rw [← e_mem64] at hh70
  have hh71 := (va_up_ne mem53 (.inr (6, [.ref ((adB base) 1), .ref ((adB base) 3), .ref ((adB base) 5), .ref ((adB base) 222), .null])) (show (19 : Nat) ≠ 0 by first | decide | assumption | omega)).trans hh61
  rw [← e_mem64] at hh71
  have hh72 := (va_up_ne mem53 (.inr (6, [.ref ((adB base) 1), .ref ((adB base) 3), .ref ((adB base) 5), .ref ((adB base) 222), .null])) (show (220 : Nat) ≠ 0 by first | decide | assumption | omega)).trans hh62
  rw [← e_mem64] at hh72
  have hh73 := (va_up_ne mem53 (.inr (6, [.ref ((adB base) 1), .ref ((adB base) 3), .ref ((adB base) 5), .ref ((adB base) 222), .null])) (show (221 : Nat) ≠ 0 by first | decide | assumption | omega)).trans hh63
  rw [← e_mem64] at hh73
  have hh74 := (va_up_ne mem53 (.inr (6, [.ref ((adB base) 1), .ref ((adB base) 3), .ref ((adB base) 5), .ref ((adB base) 222), .null])) (show (222 : Nat) ≠ 0 by first | decide | assumption | omega)).trans a222
  rw [← e_mem64] at hh74
  refine lv_aload_n Bx.1 Bx.2.1 d_Ab_init_61 rfl (lv_at hl 0 rfl) ?_
  refine c_size (n := 223) hP (by omega) (by omega) (fun hz => ?_)
  refine f_new (ci := 1) (n := 223) Bx hP hS hz rfl inCt tyCt okCt kw_158 kw_159 kw_7 [.null, .null, .int (0)] (by intro j hj; match j, hj with | 0, _ => rfl | 1, _ => rfl | 2, _ => rfl) (Nat.le_of_ble_eq_true rfl) (Nat.le_of_ble_eq_true rfl) d_Ab_init_62 (fun H hP hS hz => ?_)
  obtain ⟨mem75, e_mem75⟩ : ∃ z, z = va_up mem64 (223) (.inr (1, [.null, .null, .int (0)])) := ⟨_, rfl⟩
  have hP : va_P D vcl (fw 224 (adB base) mem75) H := by rw [e_mem75]; exact hP
  have h_mem75 : mem75 (223) = .inr (1, [.null, .null, .int (0)]) := by rw [e_mem75, va_up_self]
  have hh76 := (va_up_ne mem64 (.inr (1, [.null, .null, .int (0)])) (show (0 : Nat) ≠ 223 by first | decide | assumption | omega)).trans h_mem64
  rw [← e_mem75] at hh76
  have hh77 := (va_up_ne mem64 (.inr (1, [.null, .null, .int (0)])) (show (1 : Nat) ≠ 223 by first | decide | assumption | omega)).trans hh65
  rw [← e_mem75] at hh77
  have hh78 := (va_up_ne mem64 (.inr (1, [.null, .null, .int (0)])) (show (2 : Nat) ≠ 223 by first | decide | assumption | omega)).trans hh66
  rw [← e_mem75] at hh78
  have hh79 := (va_up_ne mem64 (.inr (1, [.null, .null, .int (0)])) (show (3 : Nat) ≠ 223 by first | decide | assumption | omega)).trans hh67
  rw [← e_mem75] at hh79
  have hh80 := (va_up_ne mem64 (.inr (1, [.null, .null, .int (0)])) (show (4 : Nat) ≠ 223 by first | decide | assumption | omega)).trans hh68
  rw [← e_mem75] at hh80
  have hh81 := (va_up_ne mem64 (.inr (1, [.null, .null, .int (0)])) (show (5 : Nat) ≠ 223 by first | decide | assumption | omega)).trans hh69
  rw [← e_mem75] at hh81
  have hh82 := (va_up_ne mem64 (.inr (1, [.null, .null, .int (0)])) (show (6 : Nat) ≠ 223 by first | decide | assumption | omega)).trans hh70
  rw [← e_mem75] at hh82
  have hh83 := (va_up_ne mem64 (.inr (1, [.null, .null, .int (0)])) (show (19 : Nat) ≠ 223 by first | decide | assumption | omega)).trans hh71
  rw [← e_mem75] at hh83
  have hh84 := (va_up_ne mem64 (.inr (1, [.null, .null, .int (0)])) (show (220 : Nat) ≠ 223 by first | decide | assumption | omega)).trans hh72
  rw [← e_mem75] at hh84
  have hh85 := (va_up_ne mem64 (.inr (1, [.null, .null, .int (0)])) (show (221 : Nat) ≠ 223 by first | decide | assumption | omega)).trans hh73
  rw [← e_mem75] at hh85
  have hh86 := (va_up_ne mem64 (.inr (1, [.null, .null, .int (0)])) (show (222 : Nat) ≠ 223 by first | decide | assumption | omega)).trans hh74
  rw [← e_mem75] at hh86
  refine lv_dup Bx.1 Bx.2.1 d_Ab_init_65 rfl ?_
  refine lv_aload_n Bx.1 Bx.2.1 d_Ab_init_66 rfl (lv_at hl 0 rfl) ?_
  refine f_get Bx hP (by omega) hh76 rfl inAb 1 (by decide) kw_175 rfl rfl d_Ab_init_67 ?_
  refine lv_aload_n Bx.1 Bx.2.1 d_Ab_init_70 rfl (lv_at hl 0 rfl) ?_
  refine f_get Bx hP (by omega) hh76 rfl inAb 2 (by decide) kw_176 rfl rfl d_Ab_init_71 ?_
  refine c_size (n := 224) hP (by omega) (by omega) (fun hz => ?_)
  refine f_callI (na := 2) (n := 224) (j := 223) (As := [.ref ((adB base) 3), .ref ((adB base) 5)]) (rest := [.ref ((adB base) 223), .ref ((adB base) 0)]) Bx hml E hP hS hbz hz (m_Ct_init (n := 224) (j := 223) l hbz (by omega) h_mem75) kw_160 kw_161 kw_7 kw_162 rfl (by decide +kernel) ⟨rfl, rfl⟩ ⟨Nat.le_of_ble_eq_true rfl, Nat.le_of_ble_eq_true rfl⟩ rfl hl.1 (Nat.le_of_ble_eq_true rfl) d_Ab_init_74 ⟨Nat.le_of_ble_eq_true rfl, Nat.le_of_ble_eq_true rfl⟩ (fun mem87 H locs hq6 hP hS hz => ?_)
  have hh88 : mem87 (0) = .inr (6, [.ref ((adB base) 1), .ref ((adB base) 3), .ref ((adB base) 5), .ref ((adB base) 222), .null]) := by rw [hq6]; (try unfold chM); rw [va_up_ne _ _ (by first | decide | assumption | omega)]; exact hh76
  have hh89 : mem87 (1) = .inr (0, [.ref ((adB base) 2), .int (0)]) := by rw [hq6]; (try unfold chM); rw [va_up_ne _ _ (by first | decide | assumption | omega)]; exact hh77
  have hh90 : mem87 (2) = .inl (cy 0, 240, .inl (fun _ => 0)) := by rw [hq6]; (try unfold chM); rw [va_up_ne _ _ (by first | decide | assumption | omega)]; exact hh78
  have hh91 : mem87 (3) = .inr (0, [.ref ((adB base) 4), .int (0)]) := by rw [hq6]; (try unfold chM); rw [va_up_ne _ _ (by first | decide | assumption | omega)]; exact hh79
  have hh92 : mem87 (4) = .inl (cy 0, 24, .inl (fun _ => 0)) := by rw [hq6]; (try unfold chM); rw [va_up_ne _ _ (by first | decide | assumption | omega)]; exact hh80
  have hh93 : mem87 (5) = .inr (3, [.ref ((adB base) 6), .ref ((adB base) 19), .ref ((adB base) 220), .int (0), .int (0), .int (0)]) := by rw [hq6]; (try unfold chM); rw [va_up_ne _ _ (by first | decide | assumption | omega)]; exact hh81
  have hh94 : mem87 (6) = gaC (cy 5) 12 (rfB base 7 12) := by rw [hq6]; (try unfold chM); rw [va_up_ne _ _ (by first | decide | assumption | omega)]; exact hh82
  have hh95 : mem87 (19) = gaC (cy 4) 100 (rf2 base 100) := by rw [hq6]; (try unfold chM); rw [va_up_ne _ _ (by first | decide | assumption | omega)]; exact hh83
  have hh96 : mem87 (220) = .inr (0, [.ref ((adB base) 221), .int 0]) := by rw [hq6]; (try unfold chM); rw [va_up_ne _ _ (by first | decide | assumption | omega)]; exact hh84
  have hh97 : mem87 (221) = .inl (cy 0, 240, .inl (fun _ => 0)) := by rw [hq6]; (try unfold chM); rw [va_up_ne _ _ (by first | decide | assumption | omega)]; exact hh85
  have hh98 : mem87 (222) = .inr (4, [.ref ((adB base) 1), .ref ((adB base) 5), .int (0), .int ((-1))]) := by rw [hq6]; (try unfold chM); rw [va_up_ne _ _ (by first | decide | assumption | omega)]; exact hh86
  have a223 : mem87 223 = .inr (1, [.ref ((adB base) 3), .ref ((adB base) 5), .int 0]) := by rw [hq6, va_up_self]
  refine f_putF Bx hin hP (adB_D hbz) hS (by omega) hh88 rfl inAb tyAb okAb nmAb 4 (by decide) kw_178 rfl rfl rfl rfl (Nat.le_of_ble_eq_true rfl) d_Ab_init_77 (fun H locs hP hS => ?_)
  obtain ⟨mem99, e_mem99⟩ : ∃ z, z = va_up mem87 (0) (.inr (6, [.ref ((adB base) 1), .ref ((adB base) 3), .ref ((adB base) 5), .ref ((adB base) 222), .ref ((adB base) 223)])) := ⟨_, rfl⟩
  have hP : va_P D vcl (fw 224 (adB base) mem99) H := by rw [e_mem99]; exact hP
  have h_mem99 : mem99 (0) = .inr (6, [.ref ((adB base) 1), .ref ((adB base) 3), .ref ((adB base) 5), .ref ((adB base) 222), .ref ((adB base) 223)]) := by rw [e_mem99, va_up_self]
  have hh100 := (va_up_ne mem87 (.inr (6, [.ref ((adB base) 1), .ref ((adB base) 3), .ref ((adB base) 5), .ref ((adB base) 222), .ref ((adB base) 223)])) (show (1 : Nat) ≠ 0 by first | decide | assumption | omega)).trans hh89
  rw [← e_mem99] at hh100
  have hh101 := (va_up_ne mem87 (.inr (6, [.ref ((adB base) 1), .ref ((adB base) 3), .ref ((adB base) 5), .ref ((adB base) 222), .ref ((adB base) 223)])) (show (2 : Nat) ≠ 0 by first | decide | assumption | omega)).trans hh90
  rw [← e_mem99] at hh101
  have hh102 := (va_up_ne mem87 (.inr (6, [.ref ((adB base) 1), .ref ((adB base) 3), .ref ((adB base) 5), .ref ((adB base) 222), .ref ((adB base) 223)])) (show (3 : Nat) ≠ 0 by first | decide | assumption | omega)).trans hh91
  rw [← e_mem99] at hh102
  have hh103 := (va_up_ne mem87 (.inr (6, [.ref ((adB base) 1), .ref ((adB base) 3), .ref ((adB base) 5), .ref ((adB base) 222), .ref ((adB base) 223)])) (show (4 : Nat) ≠ 0 by first | decide | assumption | omega)).trans hh92
  rw [← e_mem99] at hh103
  have hh104 := (va_up_ne mem87 (.inr (6, [.ref ((adB base) 1), .ref ((adB base) 3), .ref ((adB base) 5), .ref ((adB base) 222), .ref ((adB base) 223)])) (show (5 : Nat) ≠ 0 by first | decide | assumption | omega)).trans hh93
  rw [← e_mem99] at hh104
  have hh105 := (va_up_ne mem87 (.inr (6, [.ref ((adB base) 1), .ref ((adB base) 3), .ref ((adB base) 5), .ref ((adB base) 222), .ref ((adB base) 223)])) (show (6 : Nat) ≠ 0 by first | decide | assumption | omega)).trans hh94
  rw [← e_mem99] at hh105
  have hh106 := (va_up_ne mem87 (.inr (6, [.ref ((adB base) 1), .ref ((adB base) 3), .ref ((adB base) 5), .ref ((adB base) 222), .ref ((adB base) 223)])) (show (19 : Nat) ≠ 0 by first | decide | assumption | omega)).trans hh95
  rw [← e_mem99] at hh106
  have hh107 := (va_up_ne mem87 (.inr (6, [.ref ((adB base) 1), .ref ((adB base) 3), .ref ((adB base) 5), .ref ((adB base) 222), .ref ((adB base) 223)])) (show (220 : Nat) ≠ 0 by first | decide | assumption | omega)).trans hh96
  rw [← e_mem99] at hh107
  have hh108 := (va_up_ne mem87 (.inr (6, [.ref ((adB base) 1), .ref ((adB base) 3), .ref ((adB base) 5), .ref ((adB base) 222), .ref ((adB base) 223)])) (show (221 : Nat) ≠ 0 by first | decide | assumption | omega)).trans hh97
  rw [← e_mem99] at hh108
  have hh109 := (va_up_ne mem87 (.inr (6, [.ref ((adB base) 1), .ref ((adB base) 3), .ref ((adB base) 5), .ref ((adB base) 222), .ref ((adB base) 223)])) (show (222 : Nat) ≠ 0 by first | decide | assumption | omega)).trans hh98
  rw [← e_mem99] at hh109
  have hh110 := (va_up_ne mem87 (.inr (6, [.ref ((adB base) 1), .ref ((adB base) 3), .ref ((adB base) 5), .ref ((adB base) 222), .ref ((adB base) 223)])) (show (223 : Nat) ≠ 0 by first | decide | assumption | omega)).trans a223
  rw [← e_mem99] at hh110
  have ne : ∀ i, 6 ≤ i → i < 222 → mem99 i = mem26 i := fun i a b => by rw [e_mem99, va_up_ne _ _ (by omega), hq6, va_up_ne _ _ (by omega), e_mem75, va_up_ne _ _ (by omega), e_mem64, va_up_ne _ _ (by omega), hq5, va_up_ne _ _ (by omega), e_mem42, va_up_ne _ _ (by omega), e_mem32, va_up_ne _ _ (by omega)]
  refine c_size (n := 224) hP (by omega) (by omega) (fun hz => ?_)
  refine W.widen (k := 223) (n := 3871) (Nat.le_of_ble_eq_true rfl) (Nat.le_of_ble_eq_true rfl) ?_
  exact W.vret hx hb hr (fun t ht hW => ⟨⟨mem99, rfl, ⟨h_mem99, hh100, hh101, hh102, hh103, hh104, hh105, fun i hi => (ne _ (by omega) (by omega)).trans (g7 i hi), hh106, fun i hi => ⟨(ne _ (by omega) (by omega)).trans (g20 i hi).1, (ne _ (by omega) (by omega)).trans (g20 i hi).2⟩, hh107, hh108, hh109, hh110⟩, by rw [ht]; exact hP, by rw [ht]; exact hz⟩, hS.F ht⟩) hS.2.2 d_Ab_init_80
/-- a new AbnfChartModel: cells 224 to 241 -/
def YI (cy : Nat → ClassId) (base : Nat) (mk : Nat → va_E) : Prop :=
  mk 224 = .inr (7, [.int (0), .int (0), .ref ((adB base) 225), .int ((-1)), .int (0), .ref ((adB base) 226), .ref ((adB base) 227), .int (0), .ref ((adB base) 228), .ref ((adB base) 229), .ref ((adB base) 230), .ref ((adB base) 231), .ref ((adB base) 232), .ref ((adB base) 233), .int (0), .ref ((adB base) 234), .int (0), .int (0), .int (0), .ref ((adB base) 235), .ref ((adB base) 236), .ref ((adB base) 237), .ref ((adB base) 238), .ref ((adB base) 239), .int (0), .ref ((adB base) 240), .int (1), .ref ((adB base) 241), .int (0)]) ∧ mk 225 = .inl (cy 1, 240, .inl (fun _ => 0)) ∧ mk 226 = .inl (cy 2, 12, .inr (.inl (fun _ => 0))) ∧ mk 227 = .inl (cy 1, 12, .inl (fun _ => 0)) ∧ mk 228 = .inl (cy 1, 100, .inl (fun _ => 0)) ∧ mk 229 = .inl (cy 1, 100, .inl (fun _ => 0)) ∧ mk 230 = .inl (cy 1, 100, .inl (fun _ => 0)) ∧ mk 231 = .inl (cy 3, 100, .inl (fun _ => 0)) ∧ mk 232 = .inl (cy 1, 100, .inl (fun _ => 0)) ∧ mk 233 = .inl (cy 1, 100, .inl (fun _ => 0)) ∧ mk 234 = .inl (cy 1, 400, .inl (fun _ => 0)) ∧ mk 235 = .inl (cy 1, 8, .inl (fun _ => 0)) ∧ mk 236 = .inl (cy 1, 8, .inl (fun _ => 0)) ∧ mk 237 = .inl (cy 1, 8, .inl (fun _ => 0)) ∧ mk 238 = .inl (cy 1, 8, .inl (fun _ => 0)) ∧ mk 239 = .inl (cy 1, 8, .inl (fun _ => 0)) ∧ mk 240 = .inl (cy 1, 24, .inl (fun _ => 0)) ∧ mk 241 = .inl (cy 1, 2500, .inl (fun _ => 0))
set_option maxHeartbeats 4000000 in
set_option maxRecDepth 100000 in
theorem m_Mo_init (l : Launch) {D : va_G} {cy : Nat → ClassId} {sz base : Nat} {mem : Nat → va_E}  (hbz : sz ≤ base) (h0 : mem 224 = .inr (7, [.int (0), .int (0), .null, .int (0), .int (0), .null, .null, .int (0), .null, .null, .null, .null, .null, .null, .int (0), .null, .int (0), .int (0), .int (0), .null, .null, .null, .null, .null, .int (0), .null, .int (0), .null, .int (0)])) : MC l D cy sz base 225 242 y_Mo_init c_Mo_init 1 ({ frames := 1, cells := 17, slots := 3828, locals := 12 } : Room) mem [.ref ((adB base) 224)] (fun mem' => YI cy base mem' ∧ ∀ i, i < 224 → mem' i = mem i) 17 3828 := by
  refine Met.ofW (cc := c_Mo_init) (maxL := 1) (ret := none) (by decide) rfl ?_
  intro p e s m args below meth c s₁ B hml hv
  obtain ⟨rfl, ⟨E, hP, -⟩, hs0⟩ := hv
  have hx := B.exec
  have hb := B.bytes
  have hr := B.returns
  have hlocks := B.notSynchronized
  have Bx : MB p s m [.ref ((adB base) 224)].toArray c c_Mo_init "AbnfChartModel" D cy := ⟨hx, hb, tb_all (atoms_spec B.pre) E.2.1, findClass_of_methodNamed B.named, E.1⟩
  have hS : va_S (Az sz) s.heap s.heap [] := va_S.rf
  have hin : meth.name = "<init>" := (name_of_methodNamed B.named B.method).1
  have hl := lv_entry ([.ref ((adB base) 224)]) (n := 1) (Nat.le_of_ble_eq_true rfl)
  rw [lg_entry_eq]
  generalize (lg_sl ([.ref ((adB base) 224)]) ++ List.replicate (1 - (lg_sl ([.ref ((adB base) 224)])).length) Slot.unset).toArray = ls at hl ⊢
  have hl : lv_has ls 1 [(0, .ref ((adB base) 224))] := hl
  refine lv_aload_n Bx.1 Bx.2.1 d_Mo_init_0 rfl (lv_at hl 0 rfl) ?_
  refine W.objInit hx hb Bx.2.2.2.1 (Bx.2.2.1 _ (tb_g kw_655 rfl)) (Bx.2.2.1 _ (tb_g kw_23 rfl)) (Bx.2.2.1 _ (tb_g kw_24 rfl)) rfl (by rw [hml]; exact hl.1) rfl d_Mo_init_1 (Nat.le_of_ble_eq_true rfl) (Nat.le_of_ble_eq_true rfl) ?_
  refine W.eq (g2 := F0 m 4 ls []) rfl ?_
  refine lv_aload_n Bx.1 Bx.2.1 d_Mo_init_4 rfl (lv_at hl 0 rfl) ?_
  refine lv_sipush (v := 240) Bx.1 Bx.2.1 d_Mo_init_5 (by decide) ?_
  refine c_size (n := 225) hP (by omega) (by omega) (fun hz => ?_)
  refine f_newa (atype := .int) (n := 225) (t0 := 1) (N' := 240) Bx hP hS hz kw_110 (Bx.2.2.2.2.2 1 _ rfl).2 (240, .inl (fun _ => 0)) (fun _ => rfl) (by decide) (by decide) (by decide) (Nat.le_of_ble_eq_true rfl) (Nat.le_of_ble_eq_true rfl) d_Mo_init_8 (fun H hP hS hz => ?_)
  obtain ⟨mem1, e_mem1⟩ : ∃ z, z = va_up mem (225) (.inl (cy 1, (240, .inl (fun _ => 0)))) := ⟨_, rfl⟩
  have hP : va_P D vcl (fw 226 (adB base) mem1) H := by rw [e_mem1]; exact hP
  have h_mem1 : mem1 (225) = .inl (cy 1, (240, .inl (fun _ => 0))) := by rw [e_mem1, va_up_self]
  have hh2 := (va_up_ne mem (.inl (cy 1, (240, .inl (fun _ => 0)))) (show (224 : Nat) ≠ 225 by first | decide | assumption | omega)).trans h0
  rw [← e_mem1] at hh2
  refine f_putF Bx hin hP (adB_D hbz) hS (by omega) hh2 rfl inMo tyMo okMo nmMo 2 (by decide) kw_658 rfl rfl rfl rfl (Nat.le_of_ble_eq_true rfl) d_Mo_init_10 (fun H locs hP hS => ?_)
  obtain ⟨mem3, e_mem3⟩ : ∃ z, z = va_up mem1 (224) (.inr (7, [.int (0), .int (0), .ref ((adB base) 225), .int (0), .int (0), .null, .null, .int (0), .null, .null, .null, .null, .null, .null, .int (0), .null, .int (0), .int (0), .int (0), .null, .null, .null, .null, .null, .int (0), .null, .int (0), .null, .int (0)])) := ⟨_, rfl⟩
  have hP : va_P D vcl (fw 226 (adB base) mem3) H := by rw [e_mem3]; exact hP
  have h_mem3 : mem3 (224) = .inr (7, [.int (0), .int (0), .ref ((adB base) 225), .int (0), .int (0), .null, .null, .int (0), .null, .null, .null, .null, .null, .null, .int (0), .null, .int (0), .int (0), .int (0), .null, .null, .null, .null, .null, .int (0), .null, .int (0), .null, .int (0)]) := by rw [e_mem3, va_up_self]
  have hh4 := (va_up_ne mem1 (.inr (7, [.int (0), .int (0), .ref ((adB base) 225), .int (0), .int (0), .null, .null, .int (0), .null, .null, .null, .null, .null, .null, .int (0), .null, .int (0), .int (0), .int (0), .null, .null, .null, .null, .null, .int (0), .null, .int (0), .null, .int (0)])) (show (225 : Nat) ≠ 224 by first | decide | assumption | omega)).trans h_mem1
  rw [← e_mem3] at hh4
  refine lv_aload_n Bx.1 Bx.2.1 d_Mo_init_13 rfl (lv_at hl 0 rfl) ?_
  refine lv_iconst (v := -1) Bx.1 Bx.2.1 d_Mo_init_14 (by decide) ?_
  refine f_put Bx hP (adB_D hbz) hS (by omega) h_mem3 rfl inMo tyMo okMo nmMo 3 (by decide) kw_659 rfl rfl rfl rfl (Nat.le_of_ble_eq_true rfl) d_Mo_init_15 (fun H locs hP hS => ?_)
  obtain ⟨mem5, e_mem5⟩ : ∃ z, z = va_up mem3 (224) (.inr (7, [.int (0), .int (0), .ref ((adB base) 225), .int ((-1)), .int (0), .null, .null, .int (0), .null, .null, .null, .null, .null, .null, .int (0), .null, .int (0), .int (0), .int (0), .null, .null, .null, .null, .null, .int (0), .null, .int (0), .null, .int (0)])) := ⟨_, rfl⟩
  have hP : va_P D vcl (fw 226 (adB base) mem5) H := by rw [e_mem5]; exact hP
  have h_mem5 : mem5 (224) = .inr (7, [.int (0), .int (0), .ref ((adB base) 225), .int ((-1)), .int (0), .null, .null, .int (0), .null, .null, .null, .null, .null, .null, .int (0), .null, .int (0), .int (0), .int (0), .null, .null, .null, .null, .null, .int (0), .null, .int (0), .null, .int (0)]) := by rw [e_mem5, va_up_self]
  have hh6 := (va_up_ne mem3 (.inr (7, [.int (0), .int (0), .ref ((adB base) 225), .int ((-1)), .int (0), .null, .null, .int (0), .null, .null, .null, .null, .null, .null, .int (0), .null, .int (0), .int (0), .int (0), .null, .null, .null, .null, .null, .int (0), .null, .int (0), .null, .int (0)])) (show (225 : Nat) ≠ 224 by first | decide | assumption | omega)).trans hh4
  rw [← e_mem5] at hh6
  refine lv_aload_n Bx.1 Bx.2.1 d_Mo_init_18 rfl (lv_at hl 0 rfl) ?_
  refine lv_bipush (v := 12) Bx.1 Bx.2.1 d_Mo_init_19 (by decide) ?_
  refine c_size (n := 226) hP (by omega) (by omega) (fun hz => ?_)
  refine f_newa (atype := .long) (n := 226) (t0 := 2) (N' := 12) Bx hP hS hz kw_744 (Bx.2.2.2.2.2 2 _ rfl).2 (12, .inr (.inl (fun _ => 0))) (fun _ => rfl) (by decide) (by decide) (by decide) (Nat.le_of_ble_eq_true rfl) (Nat.le_of_ble_eq_true rfl) d_Mo_init_21 (fun H hP hS hz => ?_)
  obtain ⟨mem7, e_mem7⟩ : ∃ z, z = va_up mem5 (226) (.inl (cy 2, (12, .inr (.inl (fun _ => 0))))) := ⟨_, rfl⟩
  have hP : va_P D vcl (fw 227 (adB base) mem7) H := by rw [e_mem7]; exact hP
  have h_mem7 : mem7 (226) = .inl (cy 2, (12, .inr (.inl (fun _ => 0)))) := by rw [e_mem7, va_up_self]
  have hh8 := (va_up_ne mem5 (.inl (cy 2, (12, .inr (.inl (fun _ => 0))))) (show (224 : Nat) ≠ 226 by first | decide | assumption | omega)).trans h_mem5
  rw [← e_mem7] at hh8
  have hh9 := (va_up_ne mem5 (.inl (cy 2, (12, .inr (.inl (fun _ => 0))))) (show (225 : Nat) ≠ 226 by first | decide | assumption | omega)).trans hh6
  rw [← e_mem7] at hh9
  refine f_putF Bx hin hP (adB_D hbz) hS (by omega) hh8 rfl inMo tyMo okMo nmMo 5 (by decide) kw_661 rfl rfl rfl rfl (Nat.le_of_ble_eq_true rfl) d_Mo_init_23 (fun H locs hP hS => ?_)
  obtain ⟨mem10, e_mem10⟩ : ∃ z, z = va_up mem7 (224) (.inr (7, [.int (0), .int (0), .ref ((adB base) 225), .int ((-1)), .int (0), .ref ((adB base) 226), .null, .int (0), .null, .null, .null, .null, .null, .null, .int (0), .null, .int (0), .int (0), .int (0), .null, .null, .null, .null, .null, .int (0), .null, .int (0), .null, .int (0)])) := ⟨_, rfl⟩
  have hP : va_P D vcl (fw 227 (adB base) mem10) H := by rw [e_mem10]; exact hP
  have h_mem10 : mem10 (224) = .inr (7, [.int (0), .int (0), .ref ((adB base) 225), .int ((-1)), .int (0), .ref ((adB base) 226), .null, .int (0), .null, .null, .null, .null, .null, .null, .int (0), .null, .int (0), .int (0), .int (0), .null, .null, .null, .null, .null, .int (0), .null, .int (0), .null, .int (0)]) := by rw [e_mem10, va_up_self]
  have hh11 := (va_up_ne mem7 (.inr (7, [.int (0), .int (0), .ref ((adB base) 225), .int ((-1)), .int (0), .ref ((adB base) 226), .null, .int (0), .null, .null, .null, .null, .null, .null, .int (0), .null, .int (0), .int (0), .int (0), .null, .null, .null, .null, .null, .int (0), .null, .int (0), .null, .int (0)])) (show (225 : Nat) ≠ 224 by first | decide | assumption | omega)).trans hh9
  rw [← e_mem10] at hh11
  have hh12 := (va_up_ne mem7 (.inr (7, [.int (0), .int (0), .ref ((adB base) 225), .int ((-1)), .int (0), .ref ((adB base) 226), .null, .int (0), .null, .null, .null, .null, .null, .null, .int (0), .null, .int (0), .int (0), .int (0), .null, .null, .null, .null, .null, .int (0), .null, .int (0), .null, .int (0)])) (show (226 : Nat) ≠ 224 by first | decide | assumption | omega)).trans h_mem7
  rw [← e_mem10] at hh12
  refine lv_aload_n Bx.1 Bx.2.1 d_Mo_init_26 rfl (lv_at hl 0 rfl) ?_
  refine lv_bipush (v := 12) Bx.1 Bx.2.1 d_Mo_init_27 (by decide) ?_
  refine c_size (n := 227) hP (by omega) (by omega) (fun hz => ?_)
  refine f_newa (atype := .int) (n := 227) (t0 := 1) (N' := 12) Bx hP hS hz kw_110 (Bx.2.2.2.2.2 1 _ rfl).2 (12, .inl (fun _ => 0)) (fun _ => rfl) (by decide) (by decide) (by decide) (Nat.le_of_ble_eq_true rfl) (Nat.le_of_ble_eq_true rfl) d_Mo_init_29 (fun H hP hS hz => ?_)
  obtain ⟨mem13, e_mem13⟩ : ∃ z, z = va_up mem10 (227) (.inl (cy 1, (12, .inl (fun _ => 0)))) := ⟨_, rfl⟩
  have hP : va_P D vcl (fw 228 (adB base) mem13) H := by rw [e_mem13]; exact hP
  have h_mem13 : mem13 (227) = .inl (cy 1, (12, .inl (fun _ => 0))) := by rw [e_mem13, va_up_self]
  have hh14 := (va_up_ne mem10 (.inl (cy 1, (12, .inl (fun _ => 0)))) (show (224 : Nat) ≠ 227 by first | decide | assumption | omega)).trans h_mem10
  rw [← e_mem13] at hh14
  have hh15 := (va_up_ne mem10 (.inl (cy 1, (12, .inl (fun _ => 0)))) (show (225 : Nat) ≠ 227 by first | decide | assumption | omega)).trans hh11
  rw [← e_mem13] at hh15
  have hh16 := (va_up_ne mem10 (.inl (cy 1, (12, .inl (fun _ => 0)))) (show (226 : Nat) ≠ 227 by first | decide | assumption | omega)).trans hh12
  rw [← e_mem13] at hh16
  refine f_putF Bx hin hP (adB_D hbz) hS (by omega) hh14 rfl inMo tyMo okMo nmMo 6 (by decide) kw_662 rfl rfl rfl rfl (Nat.le_of_ble_eq_true rfl) d_Mo_init_31 (fun H locs hP hS => ?_)
  obtain ⟨mem17, e_mem17⟩ : ∃ z, z = va_up mem13 (224) (.inr (7, [.int (0), .int (0), .ref ((adB base) 225), .int ((-1)), .int (0), .ref ((adB base) 226), .ref ((adB base) 227), .int (0), .null, .null, .null, .null, .null, .null, .int (0), .null, .int (0), .int (0), .int (0), .null, .null, .null, .null, .null, .int (0), .null, .int (0), .null, .int (0)])) := ⟨_, rfl⟩
  have hP : va_P D vcl (fw 228 (adB base) mem17) H := by rw [e_mem17]; exact hP
  have h_mem17 : mem17 (224) = .inr (7, [.int (0), .int (0), .ref ((adB base) 225), .int ((-1)), .int (0), .ref ((adB base) 226), .ref ((adB base) 227), .int (0), .null, .null, .null, .null, .null, .null, .int (0), .null, .int (0), .int (0), .int (0), .null, .null, .null, .null, .null, .int (0), .null, .int (0), .null, .int (0)]) := by rw [e_mem17, va_up_self]
  have hh18 := (va_up_ne mem13 (.inr (7, [.int (0), .int (0), .ref ((adB base) 225), .int ((-1)), .int (0), .ref ((adB base) 226), .ref ((adB base) 227), .int (0), .null, .null, .null, .null, .null, .null, .int (0), .null, .int (0), .int (0), .int (0), .null, .null, .null, .null, .null, .int (0), .null, .int (0), .null, .int (0)])) (show (225 : Nat) ≠ 224 by first | decide | assumption | omega)).trans hh15
  rw [← e_mem17] at hh18
  have hh19 := (va_up_ne mem13 (.inr (7, [.int (0), .int (0), .ref ((adB base) 225), .int ((-1)), .int (0), .ref ((adB base) 226), .ref ((adB base) 227), .int (0), .null, .null, .null, .null, .null, .null, .int (0), .null, .int (0), .int (0), .int (0), .null, .null, .null, .null, .null, .int (0), .null, .int (0), .null, .int (0)])) (show (226 : Nat) ≠ 224 by first | decide | assumption | omega)).trans hh16
  rw [← e_mem17] at hh19
  have hh20 := (va_up_ne mem13 (.inr (7, [.int (0), .int (0), .ref ((adB base) 225), .int ((-1)), .int (0), .ref ((adB base) 226), .ref ((adB base) 227), .int (0), .null, .null, .null, .null, .null, .null, .int (0), .null, .int (0), .int (0), .int (0), .null, .null, .null, .null, .null, .int (0), .null, .int (0), .null, .int (0)])) (show (227 : Nat) ≠ 224 by first | decide | assumption | omega)).trans h_mem13
  rw [← e_mem17] at hh20
  refine lv_aload_n Bx.1 Bx.2.1 d_Mo_init_34 rfl (lv_at hl 0 rfl) ?_
  refine lv_bipush (v := 100) Bx.1 Bx.2.1 d_Mo_init_35 (by decide) ?_
  refine c_size (n := 228) hP (by omega) (by omega) (fun hz => ?_)
  refine f_newa (atype := .int) (n := 228) (t0 := 1) (N' := 100) Bx hP hS hz kw_110 (Bx.2.2.2.2.2 1 _ rfl).2 (100, .inl (fun _ => 0)) (fun _ => rfl) (by decide) (by decide) (by decide) (Nat.le_of_ble_eq_true rfl) (Nat.le_of_ble_eq_true rfl) d_Mo_init_37 (fun H hP hS hz => ?_)
  obtain ⟨mem21, e_mem21⟩ : ∃ z, z = va_up mem17 (228) (.inl (cy 1, (100, .inl (fun _ => 0)))) := ⟨_, rfl⟩
  have hP : va_P D vcl (fw 229 (adB base) mem21) H := by rw [e_mem21]; exact hP
  have h_mem21 : mem21 (228) = .inl (cy 1, (100, .inl (fun _ => 0))) := by rw [e_mem21, va_up_self]
  have hh22 := (va_up_ne mem17 (.inl (cy 1, (100, .inl (fun _ => 0)))) (show (224 : Nat) ≠ 228 by first | decide | assumption | omega)).trans h_mem17
  rw [← e_mem21] at hh22
  have hh23 := (va_up_ne mem17 (.inl (cy 1, (100, .inl (fun _ => 0)))) (show (225 : Nat) ≠ 228 by first | decide | assumption | omega)).trans hh18
  rw [← e_mem21] at hh23
  have hh24 := (va_up_ne mem17 (.inl (cy 1, (100, .inl (fun _ => 0)))) (show (226 : Nat) ≠ 228 by first | decide | assumption | omega)).trans hh19
  rw [← e_mem21] at hh24
  have hh25 := (va_up_ne mem17 (.inl (cy 1, (100, .inl (fun _ => 0)))) (show (227 : Nat) ≠ 228 by first | decide | assumption | omega)).trans hh20
  rw [← e_mem21] at hh25
  refine f_putF Bx hin hP (adB_D hbz) hS (by omega) hh22 rfl inMo tyMo okMo nmMo 8 (by decide) kw_664 rfl rfl rfl rfl (Nat.le_of_ble_eq_true rfl) d_Mo_init_39 (fun H locs hP hS => ?_)
  obtain ⟨mem26, e_mem26⟩ : ∃ z, z = va_up mem21 (224) (.inr (7, [.int (0), .int (0), .ref ((adB base) 225), .int ((-1)), .int (0), .ref ((adB base) 226), .ref ((adB base) 227), .int (0), .ref ((adB base) 228), .null, .null, .null, .null, .null, .int (0), .null, .int (0), .int (0), .int (0), .null, .null, .null, .null, .null, .int (0), .null, .int (0), .null, .int (0)])) := ⟨_, rfl⟩
  have hP : va_P D vcl (fw 229 (adB base) mem26) H := by rw [e_mem26]; exact hP
  have h_mem26 : mem26 (224) = .inr (7, [.int (0), .int (0), .ref ((adB base) 225), .int ((-1)), .int (0), .ref ((adB base) 226), .ref ((adB base) 227), .int (0), .ref ((adB base) 228), .null, .null, .null, .null, .null, .int (0), .null, .int (0), .int (0), .int (0), .null, .null, .null, .null, .null, .int (0), .null, .int (0), .null, .int (0)]) := by rw [e_mem26, va_up_self]
  have hh27 := (va_up_ne mem21 (.inr (7, [.int (0), .int (0), .ref ((adB base) 225), .int ((-1)), .int (0), .ref ((adB base) 226), .ref ((adB base) 227), .int (0), .ref ((adB base) 228), .null, .null, .null, .null, .null, .int (0), .null, .int (0), .int (0), .int (0), .null, .null, .null, .null, .null, .int (0), .null, .int (0), .null, .int (0)])) (show (225 : Nat) ≠ 224 by first | decide | assumption | omega)).trans hh23
  rw [← e_mem26] at hh27
  have hh28 := (va_up_ne mem21 (.inr (7, [.int (0), .int (0), .ref ((adB base) 225), .int ((-1)), .int (0), .ref ((adB base) 226), .ref ((adB base) 227), .int (0), .ref ((adB base) 228), .null, .null, .null, .null, .null, .int (0), .null, .int (0), .int (0), .int (0), .null, .null, .null, .null, .null, .int (0), .null, .int (0), .null, .int (0)])) (show (226 : Nat) ≠ 224 by first | decide | assumption | omega)).trans hh24
  rw [← e_mem26] at hh28
  have hh29 := (va_up_ne mem21 (.inr (7, [.int (0), .int (0), .ref ((adB base) 225), .int ((-1)), .int (0), .ref ((adB base) 226), .ref ((adB base) 227), .int (0), .ref ((adB base) 228), .null, .null, .null, .null, .null, .int (0), .null, .int (0), .int (0), .int (0), .null, .null, .null, .null, .null, .int (0), .null, .int (0), .null, .int (0)])) (show (227 : Nat) ≠ 224 by first | decide | assumption | omega)).trans hh25
  rw [← e_mem26] at hh29
  have hh30 := (va_up_ne mem21 (.inr (7, [.int (0), .int (0), .ref ((adB base) 225), .int ((-1)), .int (0), .ref ((adB base) 226), .ref ((adB base) 227), .int (0), .ref ((adB base) 228), .null, .null, .null, .null, .null, .int (0), .null, .int (0), .int (0), .int (0), .null, .null, .null, .null, .null, .int (0), .null, .int (0), .null, .int (0)])) (show (228 : Nat) ≠ 224 by first | decide | assumption | omega)).trans h_mem21
  rw [← e_mem26] at hh30
  refine lv_aload_n Bx.1 Bx.2.1 d_Mo_init_42 rfl (lv_at hl 0 rfl) ?_
  refine lv_bipush (v := 100) Bx.1 Bx.2.1 d_Mo_init_43 (by decide) ?_
  refine c_size (n := 229) hP (by omega) (by omega) (fun hz => ?_)
  refine f_newa (atype := .int) (n := 229) (t0 := 1) (N' := 100) Bx hP hS hz kw_110 (Bx.2.2.2.2.2 1 _ rfl).2 (100, .inl (fun _ => 0)) (fun _ => rfl) (by decide) (by decide) (by decide) (Nat.le_of_ble_eq_true rfl) (Nat.le_of_ble_eq_true rfl) d_Mo_init_45 (fun H hP hS hz => ?_)
  obtain ⟨mem31, e_mem31⟩ : ∃ z, z = va_up mem26 (229) (.inl (cy 1, (100, .inl (fun _ => 0)))) := ⟨_, rfl⟩
  have hP : va_P D vcl (fw 230 (adB base) mem31) H := by rw [e_mem31]; exact hP
  have h_mem31 : mem31 (229) = .inl (cy 1, (100, .inl (fun _ => 0))) := by rw [e_mem31, va_up_self]
  have hh32 := (va_up_ne mem26 (.inl (cy 1, (100, .inl (fun _ => 0)))) (show (224 : Nat) ≠ 229 by first | decide | assumption | omega)).trans h_mem26
  rw [← e_mem31] at hh32
  have hh33 := (va_up_ne mem26 (.inl (cy 1, (100, .inl (fun _ => 0)))) (show (225 : Nat) ≠ 229 by first | decide | assumption | omega)).trans hh27
  rw [← e_mem31] at hh33
  have hh34 := (va_up_ne mem26 (.inl (cy 1, (100, .inl (fun _ => 0)))) (show (226 : Nat) ≠ 229 by first | decide | assumption | omega)).trans hh28
  rw [← e_mem31] at hh34
  have hh35 := (va_up_ne mem26 (.inl (cy 1, (100, .inl (fun _ => 0)))) (show (227 : Nat) ≠ 229 by first | decide | assumption | omega)).trans hh29
  rw [← e_mem31] at hh35
  have hh36 := (va_up_ne mem26 (.inl (cy 1, (100, .inl (fun _ => 0)))) (show (228 : Nat) ≠ 229 by first | decide | assumption | omega)).trans hh30
  rw [← e_mem31] at hh36
  refine f_putF Bx hin hP (adB_D hbz) hS (by omega) hh32 rfl inMo tyMo okMo nmMo 9 (by decide) kw_665 rfl rfl rfl rfl (Nat.le_of_ble_eq_true rfl) d_Mo_init_47 (fun H locs hP hS => ?_)
  obtain ⟨mem37, e_mem37⟩ : ∃ z, z = va_up mem31 (224) (.inr (7, [.int (0), .int (0), .ref ((adB base) 225), .int ((-1)), .int (0), .ref ((adB base) 226), .ref ((adB base) 227), .int (0), .ref ((adB base) 228), .ref ((adB base) 229), .null, .null, .null, .null, .int (0), .null, .int (0), .int (0), .int (0), .null, .null, .null, .null, .null, .int (0), .null, .int (0), .null, .int (0)])) := ⟨_, rfl⟩
  have hP : va_P D vcl (fw 230 (adB base) mem37) H := by rw [e_mem37]; exact hP
  have h_mem37 : mem37 (224) = .inr (7, [.int (0), .int (0), .ref ((adB base) 225), .int ((-1)), .int (0), .ref ((adB base) 226), .ref ((adB base) 227), .int (0), .ref ((adB base) 228), .ref ((adB base) 229), .null, .null, .null, .null, .int (0), .null, .int (0), .int (0), .int (0), .null, .null, .null, .null, .null, .int (0), .null, .int (0), .null, .int (0)]) := by rw [e_mem37, va_up_self]
  have hh38 := (va_up_ne mem31 (.inr (7, [.int (0), .int (0), .ref ((adB base) 225), .int ((-1)), .int (0), .ref ((adB base) 226), .ref ((adB base) 227), .int (0), .ref ((adB base) 228), .ref ((adB base) 229), .null, .null, .null, .null, .int (0), .null, .int (0), .int (0), .int (0), .null, .null, .null, .null, .null, .int (0), .null, .int (0), .null, .int (0)])) (show (225 : Nat) ≠ 224 by first | decide | assumption | omega)).trans hh33
  rw [← e_mem37] at hh38
  have hh39 := (va_up_ne mem31 (.inr (7, [.int (0), .int (0), .ref ((adB base) 225), .int ((-1)), .int (0), .ref ((adB base) 226), .ref ((adB base) 227), .int (0), .ref ((adB base) 228), .ref ((adB base) 229), .null, .null, .null, .null, .int (0), .null, .int (0), .int (0), .int (0), .null, .null, .null, .null, .null, .int (0), .null, .int (0), .null, .int (0)])) (show (226 : Nat) ≠ 224 by first | decide | assumption | omega)).trans hh34
  rw [← e_mem37] at hh39
  have hh40 := (va_up_ne mem31 (.inr (7, [.int (0), .int (0), .ref ((adB base) 225), .int ((-1)), .int (0), .ref ((adB base) 226), .ref ((adB base) 227), .int (0), .ref ((adB base) 228), .ref ((adB base) 229), .null, .null, .null, .null, .int (0), .null, .int (0), .int (0), .int (0), .null, .null, .null, .null, .null, .int (0), .null, .int (0), .null, .int (0)])) (show (227 : Nat) ≠ 224 by first | decide | assumption | omega)).trans hh35
  rw [← e_mem37] at hh40
  have hh41 := (va_up_ne mem31 (.inr (7, [.int (0), .int (0), .ref ((adB base) 225), .int ((-1)), .int (0), .ref ((adB base) 226), .ref ((adB base) 227), .int (0), .ref ((adB base) 228), .ref ((adB base) 229), .null, .null, .null, .null, .int (0), .null, .int (0), .int (0), .int (0), .null, .null, .null, .null, .null, .int (0), .null, .int (0), .null, .int (0)])) (show (228 : Nat) ≠ 224 by first | decide | assumption | omega)).trans hh36
  rw [← e_mem37] at hh41
  have hh42 := (va_up_ne mem31 (.inr (7, [.int (0), .int (0), .ref ((adB base) 225), .int ((-1)), .int (0), .ref ((adB base) 226), .ref ((adB base) 227), .int (0), .ref ((adB base) 228), .ref ((adB base) 229), .null, .null, .null, .null, .int (0), .null, .int (0), .int (0), .int (0), .null, .null, .null, .null, .null, .int (0), .null, .int (0), .null, .int (0)])) (show (229 : Nat) ≠ 224 by first | decide | assumption | omega)).trans h_mem31
  rw [← e_mem37] at hh42
  refine lv_aload_n Bx.1 Bx.2.1 d_Mo_init_50 rfl (lv_at hl 0 rfl) ?_
  refine lv_bipush (v := 100) Bx.1 Bx.2.1 d_Mo_init_51 (by decide) ?_
  refine c_size (n := 230) hP (by omega) (by omega) (fun hz => ?_)
  refine f_newa (atype := .int) (n := 230) (t0 := 1) (N' := 100) Bx hP hS hz kw_110 (Bx.2.2.2.2.2 1 _ rfl).2 (100, .inl (fun _ => 0)) (fun _ => rfl) (by decide) (by decide) (by decide) (Nat.le_of_ble_eq_true rfl) (Nat.le_of_ble_eq_true rfl) d_Mo_init_53 (fun H hP hS hz => ?_)
  obtain ⟨mem43, e_mem43⟩ : ∃ z, z = va_up mem37 (230) (.inl (cy 1, (100, .inl (fun _ => 0)))) := ⟨_, rfl⟩
  have hP : va_P D vcl (fw 231 (adB base) mem43) H := by rw [e_mem43]; exact hP
  have h_mem43 : mem43 (230) = .inl (cy 1, (100, .inl (fun _ => 0))) := by rw [e_mem43, va_up_self]
  have hh44 := (va_up_ne mem37 (.inl (cy 1, (100, .inl (fun _ => 0)))) (show (224 : Nat) ≠ 230 by first | decide | assumption | omega)).trans h_mem37
  rw [← e_mem43] at hh44
  have hh45 := (va_up_ne mem37 (.inl (cy 1, (100, .inl (fun _ => 0)))) (show (225 : Nat) ≠ 230 by first | decide | assumption | omega)).trans hh38
  rw [← e_mem43] at hh45
  have hh46 := (va_up_ne mem37 (.inl (cy 1, (100, .inl (fun _ => 0)))) (show (226 : Nat) ≠ 230 by first | decide | assumption | omega)).trans hh39
  rw [← e_mem43] at hh46
  have hh47 := (va_up_ne mem37 (.inl (cy 1, (100, .inl (fun _ => 0)))) (show (227 : Nat) ≠ 230 by first | decide | assumption | omega)).trans hh40
  rw [← e_mem43] at hh47
  have hh48 := (va_up_ne mem37 (.inl (cy 1, (100, .inl (fun _ => 0)))) (show (228 : Nat) ≠ 230 by first | decide | assumption | omega)).trans hh41
  rw [← e_mem43] at hh48
  have hh49 := (va_up_ne mem37 (.inl (cy 1, (100, .inl (fun _ => 0)))) (show (229 : Nat) ≠ 230 by first | decide | assumption | omega)).trans hh42
  rw [← e_mem43] at hh49
  refine f_putF Bx hin hP (adB_D hbz) hS (by omega) hh44 rfl inMo tyMo okMo nmMo 10 (by decide) kw_666 rfl rfl rfl rfl (Nat.le_of_ble_eq_true rfl) d_Mo_init_55 (fun H locs hP hS => ?_)
  obtain ⟨mem50, e_mem50⟩ : ∃ z, z = va_up mem43 (224) (.inr (7, [.int (0), .int (0), .ref ((adB base) 225), .int ((-1)), .int (0), .ref ((adB base) 226), .ref ((adB base) 227), .int (0), .ref ((adB base) 228), .ref ((adB base) 229), .ref ((adB base) 230), .null, .null, .null, .int (0), .null, .int (0), .int (0), .int (0), .null, .null, .null, .null, .null, .int (0), .null, .int (0), .null, .int (0)])) := ⟨_, rfl⟩
  have hP : va_P D vcl (fw 231 (adB base) mem50) H := by rw [e_mem50]; exact hP
  have h_mem50 : mem50 (224) = .inr (7, [.int (0), .int (0), .ref ((adB base) 225), .int ((-1)), .int (0), .ref ((adB base) 226), .ref ((adB base) 227), .int (0), .ref ((adB base) 228), .ref ((adB base) 229), .ref ((adB base) 230), .null, .null, .null, .int (0), .null, .int (0), .int (0), .int (0), .null, .null, .null, .null, .null, .int (0), .null, .int (0), .null, .int (0)]) := by rw [e_mem50, va_up_self]
  have hh51 := (va_up_ne mem43 (.inr (7, [.int (0), .int (0), .ref ((adB base) 225), .int ((-1)), .int (0), .ref ((adB base) 226), .ref ((adB base) 227), .int (0), .ref ((adB base) 228), .ref ((adB base) 229), .ref ((adB base) 230), .null, .null, .null, .int (0), .null, .int (0), .int (0), .int (0), .null, .null, .null, .null, .null, .int (0), .null, .int (0), .null, .int (0)])) (show (225 : Nat) ≠ 224 by first | decide | assumption | omega)).trans hh45
  rw [← e_mem50] at hh51
  have hh52 := (va_up_ne mem43 (.inr (7, [.int (0), .int (0), .ref ((adB base) 225), .int ((-1)), .int (0), .ref ((adB base) 226), .ref ((adB base) 227), .int (0), .ref ((adB base) 228), .ref ((adB base) 229), .ref ((adB base) 230), .null, .null, .null, .int (0), .null, .int (0), .int (0), .int (0), .null, .null, .null, .null, .null, .int (0), .null, .int (0), .null, .int (0)])) (show (226 : Nat) ≠ 224 by first | decide | assumption | omega)).trans hh46
  rw [← e_mem50] at hh52
  have hh53 := (va_up_ne mem43 (.inr (7, [.int (0), .int (0), .ref ((adB base) 225), .int ((-1)), .int (0), .ref ((adB base) 226), .ref ((adB base) 227), .int (0), .ref ((adB base) 228), .ref ((adB base) 229), .ref ((adB base) 230), .null, .null, .null, .int (0), .null, .int (0), .int (0), .int (0), .null, .null, .null, .null, .null, .int (0), .null, .int (0), .null, .int (0)])) (show (227 : Nat) ≠ 224 by first | decide | assumption | omega)).trans hh47
  rw [← e_mem50] at hh53
  have hh54 := (va_up_ne mem43 (.inr (7, [.int (0), .int (0), .ref ((adB base) 225), .int ((-1)), .int (0), .ref ((adB base) 226), .ref ((adB base) 227), .int (0), .ref ((adB base) 228), .ref ((adB base) 229), .ref ((adB base) 230), .null, .null, .null, .int (0), .null, .int (0), .int (0), .int (0), .null, .null, .null, .null, .null, .int (0), .null, .int (0), .null, .int (0)])) (show (228 : Nat) ≠ 224 by first | decide | assumption | omega)).trans hh48
  rw [← e_mem50] at hh54
  have hh55 := (va_up_ne mem43 (.inr (7, [.int (0), .int (0), .ref ((adB base) 225), .int ((-1)), .int (0), .ref ((adB base) 226), .ref ((adB base) 227), .int (0), .ref ((adB base) 228), .ref ((adB base) 229), .ref ((adB base) 230), .null, .null, .null, .int (0), .null, .int (0), .int (0), .int (0), .null, .null, .null, .null, .null, .int (0), .null, .int (0), .null, .int (0)])) (show (229 : Nat) ≠ 224 by first | decide | assumption | omega)).trans hh49
  rw [← e_mem50] at hh55
  have hh56 := (va_up_ne mem43 (.inr (7, [.int (0), .int (0), .ref ((adB base) 225), .int ((-1)), .int (0), .ref ((adB base) 226), .ref ((adB base) 227), .int (0), .ref ((adB base) 228), .ref ((adB base) 229), .ref ((adB base) 230), .null, .null, .null, .int (0), .null, .int (0), .int (0), .int (0), .null, .null, .null, .null, .null, .int (0), .null, .int (0), .null, .int (0)])) (show (230 : Nat) ≠ 224 by first | decide | assumption | omega)).trans h_mem43
  rw [← e_mem50] at hh56
  refine lv_aload_n Bx.1 Bx.2.1 d_Mo_init_58 rfl (lv_at hl 0 rfl) ?_
  refine lv_bipush (v := 100) Bx.1 Bx.2.1 d_Mo_init_59 (by decide) ?_
  refine c_size (n := 231) hP (by omega) (by omega) (fun hz => ?_)
  refine f_newa (atype := .boolean) (n := 231) (t0 := 3) (N' := 100) Bx hP hS hz kw_745 (Bx.2.2.2.2.2 3 _ rfl).2 (100, .inl (fun _ => 0)) (fun _ => rfl) (by decide) (by decide) (by decide) (Nat.le_of_ble_eq_true rfl) (Nat.le_of_ble_eq_true rfl) d_Mo_init_61 (fun H hP hS hz => ?_)
  obtain ⟨mem57, e_mem57⟩ : ∃ z, z = va_up mem50 (231) (.inl (cy 3, (100, .inl (fun _ => 0)))) := ⟨_, rfl⟩
  have hP : va_P D vcl (fw 232 (adB base) mem57) H := by rw [e_mem57]; exact hP
  have h_mem57 : mem57 (231) = .inl (cy 3, (100, .inl (fun _ => 0))) := by rw [e_mem57, va_up_self]
  have hh58 := (va_up_ne mem50 (.inl (cy 3, (100, .inl (fun _ => 0)))) (show (224 : Nat) ≠ 231 by first | decide | assumption | omega)).trans h_mem50
  rw [← e_mem57] at hh58
  have hh59 := (va_up_ne mem50 (.inl (cy 3, (100, .inl (fun _ => 0)))) (show (225 : Nat) ≠ 231 by first | decide | assumption | omega)).trans hh51
  rw [← e_mem57] at hh59
  have hh60 := (va_up_ne mem50 (.inl (cy 3, (100, .inl (fun _ => 0)))) (show (226 : Nat) ≠ 231 by first | decide | assumption | omega)).trans hh52
  rw [← e_mem57] at hh60
  have hh61 := (va_up_ne mem50 (.inl (cy 3, (100, .inl (fun _ => 0)))) (show (227 : Nat) ≠ 231 by first | decide | assumption | omega)).trans hh53
  rw [← e_mem57] at hh61
  have hh62 := (va_up_ne mem50 (.inl (cy 3, (100, .inl (fun _ => 0)))) (show (228 : Nat) ≠ 231 by first | decide | assumption | omega)).trans hh54
  rw [← e_mem57] at hh62
  have hh63 := (va_up_ne mem50 (.inl (cy 3, (100, .inl (fun _ => 0)))) (show (229 : Nat) ≠ 231 by first | decide | assumption | omega)).trans hh55
  rw [← e_mem57] at hh63
  have hh64 := (va_up_ne mem50 (.inl (cy 3, (100, .inl (fun _ => 0)))) (show (230 : Nat) ≠ 231 by first | decide | assumption | omega)).trans hh56
  rw [← e_mem57] at hh64
  refine f_putF Bx hin hP (adB_D hbz) hS (by omega) hh58 rfl inMo tyMo okMo nmMo 11 (by decide) kw_667 rfl rfl rfl rfl (Nat.le_of_ble_eq_true rfl) d_Mo_init_63 (fun H locs hP hS => ?_)
  obtain ⟨mem65, e_mem65⟩ : ∃ z, z = va_up mem57 (224) (.inr (7, [.int (0), .int (0), .ref ((adB base) 225), .int ((-1)), .int (0), .ref ((adB base) 226), .ref ((adB base) 227), .int (0), .ref ((adB base) 228), .ref ((adB base) 229), .ref ((adB base) 230), .ref ((adB base) 231), .null, .null, .int (0), .null, .int (0), .int (0), .int (0), .null, .null, .null, .null, .null, .int (0), .null, .int (0), .null, .int (0)])) := ⟨_, rfl⟩
  have hP : va_P D vcl (fw 232 (adB base) mem65) H := by rw [e_mem65]; exact hP
  have h_mem65 : mem65 (224) = .inr (7, [.int (0), .int (0), .ref ((adB base) 225), .int ((-1)), .int (0), .ref ((adB base) 226), .ref ((adB base) 227), .int (0), .ref ((adB base) 228), .ref ((adB base) 229), .ref ((adB base) 230), .ref ((adB base) 231), .null, .null, .int (0), .null, .int (0), .int (0), .int (0), .null, .null, .null, .null, .null, .int (0), .null, .int (0), .null, .int (0)]) := by rw [e_mem65, va_up_self]
  have hh66 := (va_up_ne mem57 (.inr (7, [.int (0), .int (0), .ref ((adB base) 225), .int ((-1)), .int (0), .ref ((adB base) 226), .ref ((adB base) 227), .int (0), .ref ((adB base) 228), .ref ((adB base) 229), .ref ((adB base) 230), .ref ((adB base) 231), .null, .null, .int (0), .null, .int (0), .int (0), .int (0), .null, .null, .null, .null, .null, .int (0), .null, .int (0), .null, .int (0)])) (show (225 : Nat) ≠ 224 by first | decide | assumption | omega)).trans hh59
  rw [← e_mem65] at hh66
  have hh67 := (va_up_ne mem57 (.inr (7, [.int (0), .int (0), .ref ((adB base) 225), .int ((-1)), .int (0), .ref ((adB base) 226), .ref ((adB base) 227), .int (0), .ref ((adB base) 228), .ref ((adB base) 229), .ref ((adB base) 230), .ref ((adB base) 231), .null, .null, .int (0), .null, .int (0), .int (0), .int (0), .null, .null, .null, .null, .null, .int (0), .null, .int (0), .null, .int (0)])) (show (226 : Nat) ≠ 224 by first | decide | assumption | omega)).trans hh60
  rw [← e_mem65] at hh67
  have hh68 := (va_up_ne mem57 (.inr (7, [.int (0), .int (0), .ref ((adB base) 225), .int ((-1)), .int (0), .ref ((adB base) 226), .ref ((adB base) 227), .int (0), .ref ((adB base) 228), .ref ((adB base) 229), .ref ((adB base) 230), .ref ((adB base) 231), .null, .null, .int (0), .null, .int (0), .int (0), .int (0), .null, .null, .null, .null, .null, .int (0), .null, .int (0), .null, .int (0)])) (show (227 : Nat) ≠ 224 by first | decide | assumption | omega)).trans hh61
  rw [← e_mem65] at hh68
  have hh69 := (va_up_ne mem57 (.inr (7, [.int (0), .int (0), .ref ((adB base) 225), .int ((-1)), .int (0), .ref ((adB base) 226), .ref ((adB base) 227), .int (0), .ref ((adB base) 228), .ref ((adB base) 229), .ref ((adB base) 230), .ref ((adB base) 231), .null, .null, .int (0), .null, .int (0), .int (0), .int (0), .null, .null, .null, .null, .null, .int (0), .null, .int (0), .null, .int (0)])) (show (228 : Nat) ≠ 224 by first | decide | assumption | omega)).trans hh62
  rw [← e_mem65] at hh69
  have hh70 := (va_up_ne mem57 (.inr (7, [.int (0), .int (0), .ref ((adB base) 225), .int ((-1)), .int (0), .ref ((adB base) 226), .ref ((adB base) 227), .int (0), .ref ((adB base) 228), .ref ((adB base) 229), .ref ((adB base) 230), .ref ((adB base) 231), .null, .null, .int (0), .null, .int (0), .int (0), .int (0), .null, .null, .null, .null, .null, .int (0), .null, .int (0), .null, .int (0)])) (show (229 : Nat) ≠ 224 by first | decide | assumption | omega)).trans hh63
  rw [← e_mem65] at hh70
  have hh71 := (va_up_ne mem57 (.inr (7, [.int (0), .int (0), .ref ((adB base) 225), .int ((-1)), .int (0), .ref ((adB base) 226), .ref ((adB base) 227), .int (0), .ref ((adB base) 228), .ref ((adB base) 229), .ref ((adB base) 230), .ref ((adB base) 231), .null, .null, .int (0), .null, .int (0), .int (0), .int (0), .null, .null, .null, .null, .null, .int (0), .null, .int (0), .null, .int (0)])) (show (230 : Nat) ≠ 224 by first | decide | assumption | omega)).trans hh64
  rw [← e_mem65] at hh71
  have hh72 := (va_up_ne mem57 (.inr (7, [.int (0), .int (0), .ref ((adB base) 225), .int ((-1)), .int (0), .ref ((adB base) 226), .ref ((adB base) 227), .int (0), .ref ((adB base) 228), .ref ((adB base) 229), .ref ((adB base) 230), .ref ((adB base) 231), .null, .null, .int (0), .null, .int (0), .int (0), .int (0), .null, .null, .null, .null, .null, .int (0), .null, .int (0), .null, .int (0)])) (show (231 : Nat) ≠ 224 by first | decide | assumption | omega)).trans h_mem57
  rw [← e_mem65] at hh72
  refine lv_aload_n Bx.1 Bx.2.1 d_Mo_init_66 rfl (lv_at hl 0 rfl) ?_
  refine lv_bipush (v := 100) Bx.1 Bx.2.1 d_Mo_init_67 (by decide) ?_
  refine c_size (n := 232) hP (by omega) (by omega) (fun hz => ?_)
  refine f_newa (atype := .int) (n := 232) (t0 := 1) (N' := 100) Bx hP hS hz kw_110 (Bx.2.2.2.2.2 1 _ rfl).2 (100, .inl (fun _ => 0)) (fun _ => rfl) (by decide) (by decide) (by decide) (Nat.le_of_ble_eq_true rfl) (Nat.le_of_ble_eq_true rfl) d_Mo_init_69 (fun H hP hS hz => ?_)
  obtain ⟨mem73, e_mem73⟩ : ∃ z, z = va_up mem65 (232) (.inl (cy 1, (100, .inl (fun _ => 0)))) := ⟨_, rfl⟩
  have hP : va_P D vcl (fw 233 (adB base) mem73) H := by rw [e_mem73]; exact hP
  have h_mem73 : mem73 (232) = .inl (cy 1, (100, .inl (fun _ => 0))) := by rw [e_mem73, va_up_self]
  have hh74 := (va_up_ne mem65 (.inl (cy 1, (100, .inl (fun _ => 0)))) (show (224 : Nat) ≠ 232 by first | decide | assumption | omega)).trans h_mem65
  rw [← e_mem73] at hh74
  have hh75 := (va_up_ne mem65 (.inl (cy 1, (100, .inl (fun _ => 0)))) (show (225 : Nat) ≠ 232 by first | decide | assumption | omega)).trans hh66
  rw [← e_mem73] at hh75
  have hh76 := (va_up_ne mem65 (.inl (cy 1, (100, .inl (fun _ => 0)))) (show (226 : Nat) ≠ 232 by first | decide | assumption | omega)).trans hh67
  rw [← e_mem73] at hh76
  have hh77 := (va_up_ne mem65 (.inl (cy 1, (100, .inl (fun _ => 0)))) (show (227 : Nat) ≠ 232 by first | decide | assumption | omega)).trans hh68
  rw [← e_mem73] at hh77
  have hh78 := (va_up_ne mem65 (.inl (cy 1, (100, .inl (fun _ => 0)))) (show (228 : Nat) ≠ 232 by first | decide | assumption | omega)).trans hh69
  rw [← e_mem73] at hh78
  have hh79 := (va_up_ne mem65 (.inl (cy 1, (100, .inl (fun _ => 0)))) (show (229 : Nat) ≠ 232 by first | decide | assumption | omega)).trans hh70
  rw [← e_mem73] at hh79
  have hh80 := (va_up_ne mem65 (.inl (cy 1, (100, .inl (fun _ => 0)))) (show (230 : Nat) ≠ 232 by first | decide | assumption | omega)).trans hh71
  rw [← e_mem73] at hh80
  have hh81 := (va_up_ne mem65 (.inl (cy 1, (100, .inl (fun _ => 0)))) (show (231 : Nat) ≠ 232 by first | decide | assumption | omega)).trans hh72
  rw [← e_mem73] at hh81
  refine f_putF Bx hin hP (adB_D hbz) hS (by omega) hh74 rfl inMo tyMo okMo nmMo 12 (by decide) kw_668 rfl rfl rfl rfl (Nat.le_of_ble_eq_true rfl) d_Mo_init_71 (fun H locs hP hS => ?_)
  obtain ⟨mem82, e_mem82⟩ : ∃ z, z = va_up mem73 (224) (.inr (7, [.int (0), .int (0), .ref ((adB base) 225), .int ((-1)), .int (0), .ref ((adB base) 226), .ref ((adB base) 227), .int (0), .ref ((adB base) 228), .ref ((adB base) 229), .ref ((adB base) 230), .ref ((adB base) 231), .ref ((adB base) 232), .null, .int (0), .null, .int (0), .int (0), .int (0), .null, .null, .null, .null, .null, .int (0), .null, .int (0), .null, .int (0)])) := ⟨_, rfl⟩
  have hP : va_P D vcl (fw 233 (adB base) mem82) H := by rw [e_mem82]; exact hP
  have h_mem82 : mem82 (224) = .inr (7, [.int (0), .int (0), .ref ((adB base) 225), .int ((-1)), .int (0), .ref ((adB base) 226), .ref ((adB base) 227), .int (0), .ref ((adB base) 228), .ref ((adB base) 229), .ref ((adB base) 230), .ref ((adB base) 231), .ref ((adB base) 232), .null, .int (0), .null, .int (0), .int (0), .int (0), .null, .null, .null, .null, .null, .int (0), .null, .int (0), .null, .int (0)]) := by rw [e_mem82, va_up_self]
  have hh83 := (va_up_ne mem73 (.inr (7, [.int (0), .int (0), .ref ((adB base) 225), .int ((-1)), .int (0), .ref ((adB base) 226), .ref ((adB base) 227), .int (0), .ref ((adB base) 228), .ref ((adB base) 229), .ref ((adB base) 230), .ref ((adB base) 231), .ref ((adB base) 232), .null, .int (0), .null, .int (0), .int (0), .int (0), .null, .null, .null, .null, .null, .int (0), .null, .int (0), .null, .int (0)])) (show (225 : Nat) ≠ 224 by first | decide | assumption | omega)).trans hh75
  rw [← e_mem82] at hh83
  have hh84 := (va_up_ne mem73 (.inr (7, [.int (0), .int (0), .ref ((adB base) 225), .int ((-1)), .int (0), .ref ((adB base) 226), .ref ((adB base) 227), .int (0), .ref ((adB base) 228), .ref ((adB base) 229), .ref ((adB base) 230), .ref ((adB base) 231), .ref ((adB base) 232), .null, .int (0), .null, .int (0), .int (0), .int (0), .null, .null, .null, .null, .null, .int (0), .null, .int (0), .null, .int (0)])) (show (226 : Nat) ≠ 224 by first | decide | assumption | omega)).trans hh76
  rw [← e_mem82] at hh84
  have hh85 := (va_up_ne mem73 (.inr (7, [.int (0), .int (0), .ref ((adB base) 225), .int ((-1)), .int (0), .ref ((adB base) 226), .ref ((adB base) 227), .int (0), .ref ((adB base) 228), .ref ((adB base) 229), .ref ((adB base) 230), .ref ((adB base) 231), .ref ((adB base) 232), .null, .int (0), .null, .int (0), .int (0), .int (0), .null, .null, .null, .null, .null, .int (0), .null, .int (0), .null, .int (0)])) (show (227 : Nat) ≠ 224 by first | decide | assumption | omega)).trans hh77
  rw [← e_mem82] at hh85
  have hh86 := (va_up_ne mem73 (.inr (7, [.int (0), .int (0), .ref ((adB base) 225), .int ((-1)), .int (0), .ref ((adB base) 226), .ref ((adB base) 227), .int (0), .ref ((adB base) 228), .ref ((adB base) 229), .ref ((adB base) 230), .ref ((adB base) 231), .ref ((adB base) 232), .null, .int (0), .null, .int (0), .int (0), .int (0), .null, .null, .null, .null, .null, .int (0), .null, .int (0), .null, .int (0)])) (show (228 : Nat) ≠ 224 by first | decide | assumption | omega)).trans hh78
  rw [← e_mem82] at hh86
  have hh87 := (va_up_ne mem73 (.inr (7, [.int (0), .int (0), .ref ((adB base) 225), .int ((-1)), .int (0), .ref ((adB base) 226), .ref ((adB base) 227), .int (0), .ref ((adB base) 228), .ref ((adB base) 229), .ref ((adB base) 230), .ref ((adB base) 231), .ref ((adB base) 232), .null, .int (0), .null, .int (0), .int (0), .int (0), .null, .null, .null, .null, .null, .int (0), .null, .int (0), .null, .int (0)])) (show (229 : Nat) ≠ 224 by first | decide | assumption | omega)).trans hh79
  rw [← e_mem82] at hh87
  have hh88 := (va_up_ne mem73 (.inr (7, [.int (0), .int (0), .ref ((adB base) 225), .int ((-1)), .int (0), .ref ((adB base) 226), .ref ((adB base) 227), .int (0), .ref ((adB base) 228), .ref ((adB base) 229), .ref ((adB base) 230), .ref ((adB base) 231), .ref ((adB base) 232), .null, .int (0), .null, .int (0), .int (0), .int (0), .null, .null, .null, .null, .null, .int (0), .null, .int (0), .null, .int (0)])) (show (230 : Nat) ≠ 224 by first | decide | assumption | omega)).trans hh80
  rw [← e_mem82] at hh88
  have hh89 := (va_up_ne mem73 (.inr (7, [.int (0), .int (0), .ref ((adB base) 225), .int ((-1)), .int (0), .ref ((adB base) 226), .ref ((adB base) 227), .int (0), .ref ((adB base) 228), .ref ((adB base) 229), .ref ((adB base) 230), .ref ((adB base) 231), .ref ((adB base) 232), .null, .int (0), .null, .int (0), .int (0), .int (0), .null, .null, .null, .null, .null, .int (0), .null, .int (0), .null, .int (0)])) (show (231 : Nat) ≠ 224 by first | decide | assumption | omega)).trans hh81
  rw [← e_mem82] at hh89
  have hh90 := (va_up_ne mem73 (.inr (7, [.int (0), .int (0), .ref ((adB base) 225), .int ((-1)), .int (0), .ref ((adB base) 226), .ref ((adB base) 227), .int (0), .ref ((adB base) 228), .ref ((adB base) 229), .ref ((adB base) 230), .ref ((adB base) 231), .ref ((adB base) 232), .null, .int (0), .null, .int (0), .int (0), .int (0), .null, .null, .null, .null, .null, .int (0), .null, .int (0), .null, .int (0)])) (show (232 : Nat) ≠ 224 by first | decide | assumption | omega)).trans h_mem73
  rw [← e_mem82] at hh90
  refine lv_aload_n Bx.1 Bx.2.1 d_Mo_init_74 rfl (lv_at hl 0 rfl) ?_
  refine lv_bipush (v := 100) Bx.1 Bx.2.1 d_Mo_init_75 (by decide) ?_
  refine c_size (n := 233) hP (by omega) (by omega) (fun hz => ?_)
  refine f_newa (atype := .int) (n := 233) (t0 := 1) (N' := 100) Bx hP hS hz kw_110 (Bx.2.2.2.2.2 1 _ rfl).2 (100, .inl (fun _ => 0)) (fun _ => rfl) (by decide) (by decide) (by decide) (Nat.le_of_ble_eq_true rfl) (Nat.le_of_ble_eq_true rfl) d_Mo_init_77 (fun H hP hS hz => ?_)
  obtain ⟨mem91, e_mem91⟩ : ∃ z, z = va_up mem82 (233) (.inl (cy 1, (100, .inl (fun _ => 0)))) := ⟨_, rfl⟩
  have hP : va_P D vcl (fw 234 (adB base) mem91) H := by rw [e_mem91]; exact hP
  have h_mem91 : mem91 (233) = .inl (cy 1, (100, .inl (fun _ => 0))) := by rw [e_mem91, va_up_self]
  have hh92 := (va_up_ne mem82 (.inl (cy 1, (100, .inl (fun _ => 0)))) (show (224 : Nat) ≠ 233 by first | decide | assumption | omega)).trans h_mem82
  rw [← e_mem91] at hh92
  have hh93 := (va_up_ne mem82 (.inl (cy 1, (100, .inl (fun _ => 0)))) (show (225 : Nat) ≠ 233 by first | decide | assumption | omega)).trans hh83
  rw [← e_mem91] at hh93
  have hh94 := (va_up_ne mem82 (.inl (cy 1, (100, .inl (fun _ => 0)))) (show (226 : Nat) ≠ 233 by first | decide | assumption | omega)).trans hh84
  rw [← e_mem91] at hh94
  have hh95 := (va_up_ne mem82 (.inl (cy 1, (100, .inl (fun _ => 0)))) (show (227 : Nat) ≠ 233 by first | decide | assumption | omega)).trans hh85
  rw [← e_mem91] at hh95
  have hh96 := (va_up_ne mem82 (.inl (cy 1, (100, .inl (fun _ => 0)))) (show (228 : Nat) ≠ 233 by first | decide | assumption | omega)).trans hh86
  rw [← e_mem91] at hh96
  have hh97 := (va_up_ne mem82 (.inl (cy 1, (100, .inl (fun _ => 0)))) (show (229 : Nat) ≠ 233 by first | decide | assumption | omega)).trans hh87
  rw [← e_mem91] at hh97
  have hh98 := (va_up_ne mem82 (.inl (cy 1, (100, .inl (fun _ => 0)))) (show (230 : Nat) ≠ 233 by first | decide | assumption | omega)).trans hh88
  rw [← e_mem91] at hh98
  have hh99 := (va_up_ne mem82 (.inl (cy 1, (100, .inl (fun _ => 0)))) (show (231 : Nat) ≠ 233 by first | decide | assumption | omega)).trans hh89
  rw [← e_mem91] at hh99
  have hh100 := (va_up_ne mem82 (.inl (cy 1, (100, .inl (fun _ => 0)))) (show (232 : Nat) ≠ 233 by first | decide | assumption | omega)).trans hh90
  rw [← e_mem91] at hh100
  refine f_putF Bx hin hP (adB_D hbz) hS (by omega) hh92 rfl inMo tyMo okMo nmMo 13 (by decide) kw_669 rfl rfl rfl rfl (Nat.le_of_ble_eq_true rfl) d_Mo_init_79 (fun H locs hP hS => ?_)
  obtain ⟨mem101, e_mem101⟩ : ∃ z, z = va_up mem91 (224) (.inr (7, [.int (0), .int (0), .ref ((adB base) 225), .int ((-1)), .int (0), .ref ((adB base) 226), .ref ((adB base) 227), .int (0), .ref ((adB base) 228), .ref ((adB base) 229), .ref ((adB base) 230), .ref ((adB base) 231), .ref ((adB base) 232), .ref ((adB base) 233), .int (0), .null, .int (0), .int (0), .int (0), .null, .null, .null, .null, .null, .int (0), .null, .int (0), .null, .int (0)])) := ⟨_, rfl⟩
  have hP : va_P D vcl (fw 234 (adB base) mem101) H := by rw [e_mem101]; exact hP
  have h_mem101 : mem101 (224) = .inr (7, [.int (0), .int (0), .ref ((adB base) 225), .int ((-1)), .int (0), .ref ((adB base) 226), .ref ((adB base) 227), .int (0), .ref ((adB base) 228), .ref ((adB base) 229), .ref ((adB base) 230), .ref ((adB base) 231), .ref ((adB base) 232), .ref ((adB base) 233), .int (0), .null, .int (0), .int (0), .int (0), .null, .null, .null, .null, .null, .int (0), .null, .int (0), .null, .int (0)]) := by rw [e_mem101, va_up_self]
  have hh102 := (va_up_ne mem91 (.inr (7, [.int (0), .int (0), .ref ((adB base) 225), .int ((-1)), .int (0), .ref ((adB base) 226), .ref ((adB base) 227), .int (0), .ref ((adB base) 228), .ref ((adB base) 229), .ref ((adB base) 230), .ref ((adB base) 231), .ref ((adB base) 232), .ref ((adB base) 233), .int (0), .null, .int (0), .int (0), .int (0), .null, .null, .null, .null, .null, .int (0), .null, .int (0), .null, .int (0)])) (show (225 : Nat) ≠ 224 by first | decide | assumption | omega)).trans hh93
  rw [← e_mem101] at hh102
  have hh103 := (va_up_ne mem91 (.inr (7, [.int (0), .int (0), .ref ((adB base) 225), .int ((-1)), .int (0), .ref ((adB base) 226), .ref ((adB base) 227), .int (0), .ref ((adB base) 228), .ref ((adB base) 229), .ref ((adB base) 230), .ref ((adB base) 231), .ref ((adB base) 232), .ref ((adB base) 233), .int (0), .null, .int (0), .int (0), .int (0), .null, .null, .null, .null, .null, .int (0), .null, .int (0), .null, .int (0)])) (show (226 : Nat) ≠ 224 by first | decide | assumption | omega)).trans hh94
  rw [← e_mem101] at hh103
  have hh104 := (va_up_ne mem91 (.inr (7, [.int (0), .int (0), .ref ((adB base) 225), .int ((-1)), .int (0), .ref ((adB base) 226), .ref ((adB base) 227), .int (0), .ref ((adB base) 228), .ref ((adB base) 229), .ref ((adB base) 230), .ref ((adB base) 231), .ref ((adB base) 232), .ref ((adB base) 233), .int (0), .null, .int (0), .int (0), .int (0), .null, .null, .null, .null, .null, .int (0), .null, .int (0), .null, .int (0)])) (show (227 : Nat) ≠ 224 by first | decide | assumption | omega)).trans hh95
  rw [← e_mem101] at hh104
  have hh105 := (va_up_ne mem91 (.inr (7, [.int (0), .int (0), .ref ((adB base) 225), .int ((-1)), .int (0), .ref ((adB base) 226), .ref ((adB base) 227), .int (0), .ref ((adB base) 228), .ref ((adB base) 229), .ref ((adB base) 230), .ref ((adB base) 231), .ref ((adB base) 232), .ref ((adB base) 233), .int (0), .null, .int (0), .int (0), .int (0), .null, .null, .null, .null, .null, .int (0), .null, .int (0), .null, .int (0)])) (show (228 : Nat) ≠ 224 by first | decide | assumption | omega)).trans hh96
  rw [← e_mem101] at hh105
  have hh106 := (va_up_ne mem91 (.inr (7, [.int (0), .int (0), .ref ((adB base) 225), .int ((-1)), .int (0), .ref ((adB base) 226), .ref ((adB base) 227), .int (0), .ref ((adB base) 228), .ref ((adB base) 229), .ref ((adB base) 230), .ref ((adB base) 231), .ref ((adB base) 232), .ref ((adB base) 233), .int (0), .null, .int (0), .int (0), .int (0), .null, .null, .null, .null, .null, .int (0), .null, .int (0), .null, .int (0)])) (show (229 : Nat) ≠ 224 by first | decide | assumption | omega)).trans hh97
  rw [← e_mem101] at hh106
  have hh107 := (va_up_ne mem91 (.inr (7, [.int (0), .int (0), .ref ((adB base) 225), .int ((-1)), .int (0), .ref ((adB base) 226), .ref ((adB base) 227), .int (0), .ref ((adB base) 228), .ref ((adB base) 229), .ref ((adB base) 230), .ref ((adB base) 231), .ref ((adB base) 232), .ref ((adB base) 233), .int (0), .null, .int (0), .int (0), .int (0), .null, .null, .null, .null, .null, .int (0), .null, .int (0), .null, .int (0)])) (show (230 : Nat) ≠ 224 by first | decide | assumption | omega)).trans hh98
  rw [← e_mem101] at hh107
  have hh108 := (va_up_ne mem91 (.inr (7, [.int (0), .int (0), .ref ((adB base) 225), .int ((-1)), .int (0), .ref ((adB base) 226), .ref ((adB base) 227), .int (0), .ref ((adB base) 228), .ref ((adB base) 229), .ref ((adB base) 230), .ref ((adB base) 231), .ref ((adB base) 232), .ref ((adB base) 233), .int (0), .null, .int (0), .int (0), .int (0), .null, .null, .null, .null, .null, .int (0), .null, .int (0), .null, .int (0)])) (show (231 : Nat) ≠ 224 by first | decide | assumption | omega)).trans hh99
  rw [← e_mem101] at hh108
  have hh109 := (va_up_ne mem91 (.inr (7, [.int (0), .int (0), .ref ((adB base) 225), .int ((-1)), .int (0), .ref ((adB base) 226), .ref ((adB base) 227), .int (0), .ref ((adB base) 228), .ref ((adB base) 229), .ref ((adB base) 230), .ref ((adB base) 231), .ref ((adB base) 232), .ref ((adB base) 233), .int (0), .null, .int (0), .int (0), .int (0), .null, .null, .null, .null, .null, .int (0), .null, .int (0), .null, .int (0)])) (show (232 : Nat) ≠ 224 by first | decide | assumption | omega)).trans hh100
  rw [← e_mem101] at hh109
  have hh110 := (va_up_ne mem91 (.inr (7, [.int (0), .int (0), .ref ((adB base) 225), .int ((-1)), .int (0), .ref ((adB base) 226), .ref ((adB base) 227), .int (0), .ref ((adB base) 228), .ref ((adB base) 229), .ref ((adB base) 230), .ref ((adB base) 231), .ref ((adB base) 232), .ref ((adB base) 233), .int (0), .null, .int (0), .int (0), .int (0), .null, .null, .null, .null, .null, .int (0), .null, .int (0), .null, .int (0)])) (show (233 : Nat) ≠ 224 by first | decide | assumption | omega)).trans h_mem91
  rw [← e_mem101] at hh110
  refine lv_aload_n Bx.1 Bx.2.1 d_Mo_init_82 rfl (lv_at hl 0 rfl) ?_
  refine lv_sipush (v := 400) Bx.1 Bx.2.1 d_Mo_init_83 (by decide) ?_
  refine c_size (n := 234) hP (by omega) (by omega) (fun hz => ?_)
  refine f_newa (atype := .int) (n := 234) (t0 := 1) (N' := 400) Bx hP hS hz kw_110 (Bx.2.2.2.2.2 1 _ rfl).2 (400, .inl (fun _ => 0)) (fun _ => rfl) (by decide) (by decide) (by decide) (Nat.le_of_ble_eq_true rfl) (Nat.le_of_ble_eq_true rfl) d_Mo_init_86 (fun H hP hS hz => ?_)
  obtain ⟨mem111, e_mem111⟩ : ∃ z, z = va_up mem101 (234) (.inl (cy 1, (400, .inl (fun _ => 0)))) := ⟨_, rfl⟩
  have hP : va_P D vcl (fw 235 (adB base) mem111) H := by rw [e_mem111]; exact hP
  have h_mem111 : mem111 (234) = .inl (cy 1, (400, .inl (fun _ => 0))) := by rw [e_mem111, va_up_self]
  have hh112 := (va_up_ne mem101 (.inl (cy 1, (400, .inl (fun _ => 0)))) (show (224 : Nat) ≠ 234 by first | decide | assumption | omega)).trans h_mem101
  rw [← e_mem111] at hh112
  have hh113 := (va_up_ne mem101 (.inl (cy 1, (400, .inl (fun _ => 0)))) (show (225 : Nat) ≠ 234 by first | decide | assumption | omega)).trans hh102
  rw [← e_mem111] at hh113
  have hh114 := (va_up_ne mem101 (.inl (cy 1, (400, .inl (fun _ => 0)))) (show (226 : Nat) ≠ 234 by first | decide | assumption | omega)).trans hh103
  rw [← e_mem111] at hh114
  have hh115 := (va_up_ne mem101 (.inl (cy 1, (400, .inl (fun _ => 0)))) (show (227 : Nat) ≠ 234 by first | decide | assumption | omega)).trans hh104
  rw [← e_mem111] at hh115
  have hh116 := (va_up_ne mem101 (.inl (cy 1, (400, .inl (fun _ => 0)))) (show (228 : Nat) ≠ 234 by first | decide | assumption | omega)).trans hh105
  rw [← e_mem111] at hh116
  have hh117 := (va_up_ne mem101 (.inl (cy 1, (400, .inl (fun _ => 0)))) (show (229 : Nat) ≠ 234 by first | decide | assumption | omega)).trans hh106
  rw [← e_mem111] at hh117
  have hh118 := (va_up_ne mem101 (.inl (cy 1, (400, .inl (fun _ => 0)))) (show (230 : Nat) ≠ 234 by first | decide | assumption | omega)).trans hh107
  rw [← e_mem111] at hh118
  have hh119 := (va_up_ne mem101 (.inl (cy 1, (400, .inl (fun _ => 0)))) (show (231 : Nat) ≠ 234 by first | decide | assumption | omega)).trans hh108
  rw [← e_mem111] at hh119
  have hh120 := (va_up_ne mem101 (.inl (cy 1, (400, .inl (fun _ => 0)))) (show (232 : Nat) ≠ 234 by first | decide | assumption | omega)).trans hh109
  rw [← e_mem111] at hh120
  have hh121 := (va_up_ne mem101 (.inl (cy 1, (400, .inl (fun _ => 0)))) (show (233 : Nat) ≠ 234 by first | decide | assumption | omega)).trans hh110
  rw [← e_mem111] at hh121
  refine f_putF Bx hin hP (adB_D hbz) hS (by omega) hh112 rfl inMo tyMo okMo nmMo 15 (by decide) kw_671 rfl rfl rfl rfl (Nat.le_of_ble_eq_true rfl) d_Mo_init_88 (fun H locs hP hS => ?_)
  obtain ⟨mem122, e_mem122⟩ : ∃ z, z = va_up mem111 (224) (.inr (7, [.int (0), .int (0), .ref ((adB base) 225), .int ((-1)), .int (0), .ref ((adB base) 226), .ref ((adB base) 227), .int (0), .ref ((adB base) 228), .ref ((adB base) 229), .ref ((adB base) 230), .ref ((adB base) 231), .ref ((adB base) 232), .ref ((adB base) 233), .int (0), .ref ((adB base) 234), .int (0), .int (0), .int (0), .null, .null, .null, .null, .null, .int (0), .null, .int (0), .null, .int (0)])) := ⟨_, rfl⟩
  have hP : va_P D vcl (fw 235 (adB base) mem122) H := by rw [e_mem122]; exact hP
  have h_mem122 : mem122 (224) = .inr (7, [.int (0), .int (0), .ref ((adB base) 225), .int ((-1)), .int (0), .ref ((adB base) 226), .ref ((adB base) 227), .int (0), .ref ((adB base) 228), .ref ((adB base) 229), .ref ((adB base) 230), .ref ((adB base) 231), .ref ((adB base) 232), .ref ((adB base) 233), .int (0), .ref ((adB base) 234), .int (0), .int (0), .int (0), .null, .null, .null, .null, .null, .int (0), .null, .int (0), .null, .int (0)]) := by rw [e_mem122, va_up_self]
  have hh123 := (va_up_ne mem111 (.inr (7, [.int (0), .int (0), .ref ((adB base) 225), .int ((-1)), .int (0), .ref ((adB base) 226), .ref ((adB base) 227), .int (0), .ref ((adB base) 228), .ref ((adB base) 229), .ref ((adB base) 230), .ref ((adB base) 231), .ref ((adB base) 232), .ref ((adB base) 233), .int (0), .ref ((adB base) 234), .int (0), .int (0), .int (0), .null, .null, .null, .null, .null, .int (0), .null, .int (0), .null, .int (0)])) (show (225 : Nat) ≠ 224 by first | decide | assumption | omega)).trans hh113
  rw [← e_mem122] at hh123
  have hh124 := (va_up_ne mem111 (.inr (7, [.int (0), .int (0), .ref ((adB base) 225), .int ((-1)), .int (0), .ref ((adB base) 226), .ref ((adB base) 227), .int (0), .ref ((adB base) 228), .ref ((adB base) 229), .ref ((adB base) 230), .ref ((adB base) 231), .ref ((adB base) 232), .ref ((adB base) 233), .int (0), .ref ((adB base) 234), .int (0), .int (0), .int (0), .null, .null, .null, .null, .null, .int (0), .null, .int (0), .null, .int (0)])) (show (226 : Nat) ≠ 224 by first | decide | assumption | omega)).trans hh114
  rw [← e_mem122] at hh124
  have hh125 := (va_up_ne mem111 (.inr (7, [.int (0), .int (0), .ref ((adB base) 225), .int ((-1)), .int (0), .ref ((adB base) 226), .ref ((adB base) 227), .int (0), .ref ((adB base) 228), .ref ((adB base) 229), .ref ((adB base) 230), .ref ((adB base) 231), .ref ((adB base) 232), .ref ((adB base) 233), .int (0), .ref ((adB base) 234), .int (0), .int (0), .int (0), .null, .null, .null, .null, .null, .int (0), .null, .int (0), .null, .int (0)])) (show (227 : Nat) ≠ 224 by first | decide | assumption | omega)).trans hh115
  rw [← e_mem122] at hh125
  have hh126 := (va_up_ne mem111 (.inr (7, [.int (0), .int (0), .ref ((adB base) 225), .int ((-1)), .int (0), .ref ((adB base) 226), .ref ((adB base) 227), .int (0), .ref ((adB base) 228), .ref ((adB base) 229), .ref ((adB base) 230), .ref ((adB base) 231), .ref ((adB base) 232), .ref ((adB base) 233), .int (0), .ref ((adB base) 234), .int (0), .int (0), .int (0), .null, .null, .null, .null, .null, .int (0), .null, .int (0), .null, .int (0)])) (show (228 : Nat) ≠ 224 by first | decide | assumption | omega)).trans hh116
  rw [← e_mem122] at hh126
  have hh127 := (va_up_ne mem111 (.inr (7, [.int (0), .int (0), .ref ((adB base) 225), .int ((-1)), .int (0), .ref ((adB base) 226), .ref ((adB base) 227), .int (0), .ref ((adB base) 228), .ref ((adB base) 229), .ref ((adB base) 230), .ref ((adB base) 231), .ref ((adB base) 232), .ref ((adB base) 233), .int (0), .ref ((adB base) 234), .int (0), .int (0), .int (0), .null, .null, .null, .null, .null, .int (0), .null, .int (0), .null, .int (0)])) (show (229 : Nat) ≠ 224 by first | decide | assumption | omega)).trans hh117
  rw [← e_mem122] at hh127
  have hh128 := (va_up_ne mem111 (.inr (7, [.int (0), .int (0), .ref ((adB base) 225), .int ((-1)), .int (0), .ref ((adB base) 226), .ref ((adB base) 227), .int (0), .ref ((adB base) 228), .ref ((adB base) 229), .ref ((adB base) 230), .ref ((adB base) 231), .ref ((adB base) 232), .ref ((adB base) 233), .int (0), .ref ((adB base) 234), .int (0), .int (0), .int (0), .null, .null, .null, .null, .null, .int (0), .null, .int (0), .null, .int (0)])) (show (230 : Nat) ≠ 224 by first | decide | assumption | omega)).trans hh118
  rw [← e_mem122] at hh128
  have hh129 := (va_up_ne mem111 (.inr (7, [.int (0), .int (0), .ref ((adB base) 225), .int ((-1)), .int (0), .ref ((adB base) 226), .ref ((adB base) 227), .int (0), .ref ((adB base) 228), .ref ((adB base) 229), .ref ((adB base) 230), .ref ((adB base) 231), .ref ((adB base) 232), .ref ((adB base) 233), .int (0), .ref ((adB base) 234), .int (0), .int (0), .int (0), .null, .null, .null, .null, .null, .int (0), .null, .int (0), .null, .int (0)])) (show (231 : Nat) ≠ 224 by first | decide | assumption | omega)).trans hh119
  rw [← e_mem122] at hh129
  have hh130 := (va_up_ne mem111 (.inr (7, [.int (0), .int (0), .ref ((adB base) 225), .int ((-1)), .int (0), .ref ((adB base) 226), .ref ((adB base) 227), .int (0), .ref ((adB base) 228), .ref ((adB base) 229), .ref ((adB base) 230), .ref ((adB base) 231), .ref ((adB base) 232), .ref ((adB base) 233), .int (0), .ref ((adB base) 234), .int (0), .int (0), .int (0), .null, .null, .null, .null, .null, .int (0), .null, .int (0), .null, .int (0)])) (show (232 : Nat) ≠ 224 by first | decide | assumption | omega)).trans hh120
  rw [← e_mem122] at hh130
  have hh131 := (va_up_ne mem111 (.inr (7, [.int (0), .int (0), .ref ((adB base) 225), .int ((-1)), .int (0), .ref ((adB base) 226), .ref ((adB base) 227), .int (0), .ref ((adB base) 228), .ref ((adB base) 229), .ref ((adB base) 230), .ref ((adB base) 231), .ref ((adB base) 232), .ref ((adB base) 233), .int (0), .ref ((adB base) 234), .int (0), .int (0), .int (0), .null, .null, .null, .null, .null, .int (0), .null, .int (0), .null, .int (0)])) (show (233 : Nat) ≠ 224 by first | decide | assumption | omega)).trans hh121
  rw [← e_mem122] at hh131
  have hh132 := (va_up_ne mem111 (.inr (7, [.int (0), .int (0), .ref ((adB base) 225), .int ((-1)), .int (0), .ref ((adB base) 226), .ref ((adB base) 227), .int (0), .ref ((adB base) 228), .ref ((adB base) 229), .ref ((adB base) 230), .ref ((adB base) 231), .ref ((adB base) 232), .ref ((adB base) 233), .int (0), .ref ((adB base) 234), .int (0), .int (0), .int (0), .null, .null, .null, .null, .null, .int (0), .null, .int (0), .null, .int (0)])) (show (234 : Nat) ≠ 224 by first | decide | assumption | omega)).trans h_mem111
  rw [← e_mem122] at hh132
  refine lv_aload_n Bx.1 Bx.2.1 d_Mo_init_91 rfl (lv_at hl 0 rfl) ?_
  refine lv_bipush (v := 8) Bx.1 Bx.2.1 d_Mo_init_92 (by decide) ?_
  refine c_size (n := 235) hP (by omega) (by omega) (fun hz => ?_)
  refine f_newa (atype := .int) (n := 235) (t0 := 1) (N' := 8) Bx hP hS hz kw_110 (Bx.2.2.2.2.2 1 _ rfl).2 (8, .inl (fun _ => 0)) (fun _ => rfl) (by decide) (by decide) (by decide) (Nat.le_of_ble_eq_true rfl) (Nat.le_of_ble_eq_true rfl) d_Mo_init_94 (fun H hP hS hz => ?_)
  obtain ⟨mem133, e_mem133⟩ : ∃ z, z = va_up mem122 (235) (.inl (cy 1, (8, .inl (fun _ => 0)))) := ⟨_, rfl⟩
  have hP : va_P D vcl (fw 236 (adB base) mem133) H := by rw [e_mem133]; exact hP
  have h_mem133 : mem133 (235) = .inl (cy 1, (8, .inl (fun _ => 0))) := by rw [e_mem133, va_up_self]
  have hh134 := (va_up_ne mem122 (.inl (cy 1, (8, .inl (fun _ => 0)))) (show (224 : Nat) ≠ 235 by first | decide | assumption | omega)).trans h_mem122
  rw [← e_mem133] at hh134
  have hh135 := (va_up_ne mem122 (.inl (cy 1, (8, .inl (fun _ => 0)))) (show (225 : Nat) ≠ 235 by first | decide | assumption | omega)).trans hh123
  rw [← e_mem133] at hh135
  have hh136 := (va_up_ne mem122 (.inl (cy 1, (8, .inl (fun _ => 0)))) (show (226 : Nat) ≠ 235 by first | decide | assumption | omega)).trans hh124
  rw [← e_mem133] at hh136
  have hh137 := (va_up_ne mem122 (.inl (cy 1, (8, .inl (fun _ => 0)))) (show (227 : Nat) ≠ 235 by first | decide | assumption | omega)).trans hh125
  rw [← e_mem133] at hh137
  have hh138 := (va_up_ne mem122 (.inl (cy 1, (8, .inl (fun _ => 0)))) (show (228 : Nat) ≠ 235 by first | decide | assumption | omega)).trans hh126
  rw [← e_mem133] at hh138
  have hh139 := (va_up_ne mem122 (.inl (cy 1, (8, .inl (fun _ => 0)))) (show (229 : Nat) ≠ 235 by first | decide | assumption | omega)).trans hh127
  rw [← e_mem133] at hh139
  have hh140 := (va_up_ne mem122 (.inl (cy 1, (8, .inl (fun _ => 0)))) (show (230 : Nat) ≠ 235 by first | decide | assumption | omega)).trans hh128
  rw [← e_mem133] at hh140
  have hh141 := (va_up_ne mem122 (.inl (cy 1, (8, .inl (fun _ => 0)))) (show (231 : Nat) ≠ 235 by first | decide | assumption | omega)).trans hh129
  rw [← e_mem133] at hh141
  have hh142 := (va_up_ne mem122 (.inl (cy 1, (8, .inl (fun _ => 0)))) (show (232 : Nat) ≠ 235 by first | decide | assumption | omega)).trans hh130
  rw [← e_mem133] at hh142
  have hh143 := (va_up_ne mem122 (.inl (cy 1, (8, .inl (fun _ => 0)))) (show (233 : Nat) ≠ 235 by first | decide | assumption | omega)).trans hh131
  rw [← e_mem133] at hh143
  have hh144 := (va_up_ne mem122 (.inl (cy 1, (8, .inl (fun _ => 0)))) (show (234 : Nat) ≠ 235 by first | decide | assumption | omega)).trans hh132
  rw [← e_mem133] at hh144
  refine f_putF Bx hin hP (adB_D hbz) hS (by omega) hh134 rfl inMo tyMo okMo nmMo 19 (by decide) kw_675 rfl rfl rfl rfl (Nat.le_of_ble_eq_true rfl) d_Mo_init_96 (fun H locs hP hS => ?_)
  obtain ⟨mem145, e_mem145⟩ : ∃ z, z = va_up mem133 (224) (.inr (7, [.int (0), .int (0), .ref ((adB base) 225), .int ((-1)), .int (0), .ref ((adB base) 226), .ref ((adB base) 227), .int (0), .ref ((adB base) 228), .ref ((adB base) 229), .ref ((adB base) 230), .ref ((adB base) 231), .ref ((adB base) 232), .ref ((adB base) 233), .int (0), .ref ((adB base) 234), .int (0), .int (0), .int (0), .ref ((adB base) 235), .null, .null, .null, .null, .int (0), .null, .int (0), .null, .int (0)])) := ⟨_, rfl⟩
  have hP : va_P D vcl (fw 236 (adB base) mem145) H := by rw [e_mem145]; exact hP
  have h_mem145 : mem145 (224) = .inr (7, [.int (0), .int (0), .ref ((adB base) 225), .int ((-1)), .int (0), .ref ((adB base) 226), .ref ((adB base) 227), .int (0), .ref ((adB base) 228), .ref ((adB base) 229), .ref ((adB base) 230), .ref ((adB base) 231), .ref ((adB base) 232), .ref ((adB base) 233), .int (0), .ref ((adB base) 234), .int (0), .int (0), .int (0), .ref ((adB base) 235), .null, .null, .null, .null, .int (0), .null, .int (0), .null, .int (0)]) := by rw [e_mem145, va_up_self]
  have hh146 := (va_up_ne mem133 (.inr (7, [.int (0), .int (0), .ref ((adB base) 225), .int ((-1)), .int (0), .ref ((adB base) 226), .ref ((adB base) 227), .int (0), .ref ((adB base) 228), .ref ((adB base) 229), .ref ((adB base) 230), .ref ((adB base) 231), .ref ((adB base) 232), .ref ((adB base) 233), .int (0), .ref ((adB base) 234), .int (0), .int (0), .int (0), .ref ((adB base) 235), .null, .null, .null, .null, .int (0), .null, .int (0), .null, .int (0)])) (show (225 : Nat) ≠ 224 by first | decide | assumption | omega)).trans hh135
  rw [← e_mem145] at hh146
  have hh147 := (va_up_ne mem133 (.inr (7, [.int (0), .int (0), .ref ((adB base) 225), .int ((-1)), .int (0), .ref ((adB base) 226), .ref ((adB base) 227), .int (0), .ref ((adB base) 228), .ref ((adB base) 229), .ref ((adB base) 230), .ref ((adB base) 231), .ref ((adB base) 232), .ref ((adB base) 233), .int (0), .ref ((adB base) 234), .int (0), .int (0), .int (0), .ref ((adB base) 235), .null, .null, .null, .null, .int (0), .null, .int (0), .null, .int (0)])) (show (226 : Nat) ≠ 224 by first | decide | assumption | omega)).trans hh136
  rw [← e_mem145] at hh147
  have hh148 := (va_up_ne mem133 (.inr (7, [.int (0), .int (0), .ref ((adB base) 225), .int ((-1)), .int (0), .ref ((adB base) 226), .ref ((adB base) 227), .int (0), .ref ((adB base) 228), .ref ((adB base) 229), .ref ((adB base) 230), .ref ((adB base) 231), .ref ((adB base) 232), .ref ((adB base) 233), .int (0), .ref ((adB base) 234), .int (0), .int (0), .int (0), .ref ((adB base) 235), .null, .null, .null, .null, .int (0), .null, .int (0), .null, .int (0)])) (show (227 : Nat) ≠ 224 by first | decide | assumption | omega)).trans hh137
  rw [← e_mem145] at hh148
  have hh149 := (va_up_ne mem133 (.inr (7, [.int (0), .int (0), .ref ((adB base) 225), .int ((-1)), .int (0), .ref ((adB base) 226), .ref ((adB base) 227), .int (0), .ref ((adB base) 228), .ref ((adB base) 229), .ref ((adB base) 230), .ref ((adB base) 231), .ref ((adB base) 232), .ref ((adB base) 233), .int (0), .ref ((adB base) 234), .int (0), .int (0), .int (0), .ref ((adB base) 235), .null, .null, .null, .null, .int (0), .null, .int (0), .null, .int (0)])) (show (228 : Nat) ≠ 224 by first | decide | assumption | omega)).trans hh138
  rw [← e_mem145] at hh149
  have hh150 := (va_up_ne mem133 (.inr (7, [.int (0), .int (0), .ref ((adB base) 225), .int ((-1)), .int (0), .ref ((adB base) 226), .ref ((adB base) 227), .int (0), .ref ((adB base) 228), .ref ((adB base) 229), .ref ((adB base) 230), .ref ((adB base) 231), .ref ((adB base) 232), .ref ((adB base) 233), .int (0), .ref ((adB base) 234), .int (0), .int (0), .int (0), .ref ((adB base) 235), .null, .null, .null, .null, .int (0), .null, .int (0), .null, .int (0)])) (show (229 : Nat) ≠ 224 by first | decide | assumption | omega)).trans hh139
  rw [← e_mem145] at hh150
  have hh151 := (va_up_ne mem133 (.inr (7, [.int (0), .int (0), .ref ((adB base) 225), .int ((-1)), .int (0), .ref ((adB base) 226), .ref ((adB base) 227), .int (0), .ref ((adB base) 228), .ref ((adB base) 229), .ref ((adB base) 230), .ref ((adB base) 231), .ref ((adB base) 232), .ref ((adB base) 233), .int (0), .ref ((adB base) 234), .int (0), .int (0), .int (0), .ref ((adB base) 235), .null, .null, .null, .null, .int (0), .null, .int (0), .null, .int (0)])) (show (230 : Nat) ≠ 224 by first | decide | assumption | omega)).trans hh140
  rw [← e_mem145] at hh151
  have hh152 := (va_up_ne mem133 (.inr (7, [.int (0), .int (0), .ref ((adB base) 225), .int ((-1)), .int (0), .ref ((adB base) 226), .ref ((adB base) 227), .int (0), .ref ((adB base) 228), .ref ((adB base) 229), .ref ((adB base) 230), .ref ((adB base) 231), .ref ((adB base) 232), .ref ((adB base) 233), .int (0), .ref ((adB base) 234), .int (0), .int (0), .int (0), .ref ((adB base) 235), .null, .null, .null, .null, .int (0), .null, .int (0), .null, .int (0)])) (show (231 : Nat) ≠ 224 by first | decide | assumption | omega)).trans hh141
  rw [← e_mem145] at hh152
  have hh153 := (va_up_ne mem133 (.inr (7, [.int (0), .int (0), .ref ((adB base) 225), .int ((-1)), .int (0), .ref ((adB base) 226), .ref ((adB base) 227), .int (0), .ref ((adB base) 228), .ref ((adB base) 229), .ref ((adB base) 230), .ref ((adB base) 231), .ref ((adB base) 232), .ref ((adB base) 233), .int (0), .ref ((adB base) 234), .int (0), .int (0), .int (0), .ref ((adB base) 235), .null, .null, .null, .null, .int (0), .null, .int (0), .null, .int (0)])) (show (232 : Nat) ≠ 224 by first | decide | assumption | omega)).trans hh142
  rw [← e_mem145] at hh153
  have hh154 := (va_up_ne mem133 (.inr (7, [.int (0), .int (0), .ref ((adB base) 225), .int ((-1)), .int (0), .ref ((adB base) 226), .ref ((adB base) 227), .int (0), .ref ((adB base) 228), .ref ((adB base) 229), .ref ((adB base) 230), .ref ((adB base) 231), .ref ((adB base) 232), .ref ((adB base) 233), .int (0), .ref ((adB base) 234), .int (0), .int (0), .int (0), .ref ((adB base) 235), .null, .null, .null, .null, .int (0), .null, .int (0), .null, .int (0)])) (show (233 : Nat) ≠ 224 by first | decide | assumption | omega)).trans hh143
  rw [← e_mem145] at hh154
  have hh155 := (va_up_ne mem133 (.inr (7, [.int (0), .int (0), .ref ((adB base) 225), .int ((-1)), .int (0), .ref ((adB base) 226), .ref ((adB base) 227), .int (0), .ref ((adB base) 228), .ref ((adB base) 229), .ref ((adB base) 230), .ref ((adB base) 231), .ref ((adB base) 232), .ref ((adB base) 233), .int (0), .ref ((adB base) 234), .int (0), .int (0), .int (0), .ref ((adB base) 235), .null, .null, .null, .null, .int (0), .null, .int (0), .null, .int (0)])) (show (234 : Nat) ≠ 224 by first | decide | assumption | omega)).trans hh144
  rw [← e_mem145] at hh155
  have hh156 := (va_up_ne mem133 (.inr (7, [.int (0), .int (0), .ref ((adB base) 225), .int ((-1)), .int (0), .ref ((adB base) 226), .ref ((adB base) 227), .int (0), .ref ((adB base) 228), .ref ((adB base) 229), .ref ((adB base) 230), .ref ((adB base) 231), .ref ((adB base) 232), .ref ((adB base) 233), .int (0), .ref ((adB base) 234), .int (0), .int (0), .int (0), .ref ((adB base) 235), .null, .null, .null, .null, .int (0), .null, .int (0), .null, .int (0)])) (show (235 : Nat) ≠ 224 by first | decide | assumption | omega)).trans h_mem133
  rw [← e_mem145] at hh156
  refine lv_aload_n Bx.1 Bx.2.1 d_Mo_init_99 rfl (lv_at hl 0 rfl) ?_
  refine lv_bipush (v := 8) Bx.1 Bx.2.1 d_Mo_init_100 (by decide) ?_
  refine c_size (n := 236) hP (by omega) (by omega) (fun hz => ?_)
  refine f_newa (atype := .int) (n := 236) (t0 := 1) (N' := 8) Bx hP hS hz kw_110 (Bx.2.2.2.2.2 1 _ rfl).2 (8, .inl (fun _ => 0)) (fun _ => rfl) (by decide) (by decide) (by decide) (Nat.le_of_ble_eq_true rfl) (Nat.le_of_ble_eq_true rfl) d_Mo_init_102 (fun H hP hS hz => ?_)
  obtain ⟨mem157, e_mem157⟩ : ∃ z, z = va_up mem145 (236) (.inl (cy 1, (8, .inl (fun _ => 0)))) := ⟨_, rfl⟩
  have hP : va_P D vcl (fw 237 (adB base) mem157) H := by rw [e_mem157]; exact hP
  have h_mem157 : mem157 (236) = .inl (cy 1, (8, .inl (fun _ => 0))) := by rw [e_mem157, va_up_self]
  have hh158 := (va_up_ne mem145 (.inl (cy 1, (8, .inl (fun _ => 0)))) (show (224 : Nat) ≠ 236 by first | decide | assumption | omega)).trans h_mem145
  rw [← e_mem157] at hh158
  have hh159 := (va_up_ne mem145 (.inl (cy 1, (8, .inl (fun _ => 0)))) (show (225 : Nat) ≠ 236 by first | decide | assumption | omega)).trans hh146
  rw [← e_mem157] at hh159
  have hh160 := (va_up_ne mem145 (.inl (cy 1, (8, .inl (fun _ => 0)))) (show (226 : Nat) ≠ 236 by first | decide | assumption | omega)).trans hh147
  rw [← e_mem157] at hh160
  have hh161 := (va_up_ne mem145 (.inl (cy 1, (8, .inl (fun _ => 0)))) (show (227 : Nat) ≠ 236 by first | decide | assumption | omega)).trans hh148
  rw [← e_mem157] at hh161
  have hh162 := (va_up_ne mem145 (.inl (cy 1, (8, .inl (fun _ => 0)))) (show (228 : Nat) ≠ 236 by first | decide | assumption | omega)).trans hh149
  rw [← e_mem157] at hh162
  have hh163 := (va_up_ne mem145 (.inl (cy 1, (8, .inl (fun _ => 0)))) (show (229 : Nat) ≠ 236 by first | decide | assumption | omega)).trans hh150
  rw [← e_mem157] at hh163
  have hh164 := (va_up_ne mem145 (.inl (cy 1, (8, .inl (fun _ => 0)))) (show (230 : Nat) ≠ 236 by first | decide | assumption | omega)).trans hh151
  rw [← e_mem157] at hh164
  have hh165 := (va_up_ne mem145 (.inl (cy 1, (8, .inl (fun _ => 0)))) (show (231 : Nat) ≠ 236 by first | decide | assumption | omega)).trans hh152
  rw [← e_mem157] at hh165
  have hh166 := (va_up_ne mem145 (.inl (cy 1, (8, .inl (fun _ => 0)))) (show (232 : Nat) ≠ 236 by first | decide | assumption | omega)).trans hh153
  rw [← e_mem157] at hh166
  have hh167 := (va_up_ne mem145 (.inl (cy 1, (8, .inl (fun _ => 0)))) (show (233 : Nat) ≠ 236 by first | decide | assumption | omega)).trans hh154
  rw [← e_mem157] at hh167
  have hh168 := (va_up_ne mem145 (.inl (cy 1, (8, .inl (fun _ => 0)))) (show (234 : Nat) ≠ 236 by first | decide | assumption | omega)).trans hh155
  rw [← e_mem157] at hh168
  have hh169 := (va_up_ne mem145 (.inl (cy 1, (8, .inl (fun _ => 0)))) (show (235 : Nat) ≠ 236 by first | decide | assumption | omega)).trans hh156
  rw [← e_mem157] at hh169
  refine f_putF Bx hin hP (adB_D hbz) hS (by omega) hh158 rfl inMo tyMo okMo nmMo 20 (by decide) kw_676 rfl rfl rfl rfl (Nat.le_of_ble_eq_true rfl) d_Mo_init_104 (fun H locs hP hS => ?_)
  obtain ⟨mem170, e_mem170⟩ : ∃ z, z = va_up mem157 (224) (.inr (7, [.int (0), .int (0), .ref ((adB base) 225), .int ((-1)), .int (0), .ref ((adB base) 226), .ref ((adB base) 227), .int (0), .ref ((adB base) 228), .ref ((adB base) 229), .ref ((adB base) 230), .ref ((adB base) 231), .ref ((adB base) 232), .ref ((adB base) 233), .int (0), .ref ((adB base) 234), .int (0), .int (0), .int (0), .ref ((adB base) 235), .ref ((adB base) 236), .null, .null, .null, .int (0), .null, .int (0), .null, .int (0)])) := ⟨_, rfl⟩
  have hP : va_P D vcl (fw 237 (adB base) mem170) H := by rw [e_mem170]; exact hP
  have h_mem170 : mem170 (224) = .inr (7, [.int (0), .int (0), .ref ((adB base) 225), .int ((-1)), .int (0), .ref ((adB base) 226), .ref ((adB base) 227), .int (0), .ref ((adB base) 228), .ref ((adB base) 229), .ref ((adB base) 230), .ref ((adB base) 231), .ref ((adB base) 232), .ref ((adB base) 233), .int (0), .ref ((adB base) 234), .int (0), .int (0), .int (0), .ref ((adB base) 235), .ref ((adB base) 236), .null, .null, .null, .int (0), .null, .int (0), .null, .int (0)]) := by rw [e_mem170, va_up_self]
  have hh171 := (va_up_ne mem157 (.inr (7, [.int (0), .int (0), .ref ((adB base) 225), .int ((-1)), .int (0), .ref ((adB base) 226), .ref ((adB base) 227), .int (0), .ref ((adB base) 228), .ref ((adB base) 229), .ref ((adB base) 230), .ref ((adB base) 231), .ref ((adB base) 232), .ref ((adB base) 233), .int (0), .ref ((adB base) 234), .int (0), .int (0), .int (0), .ref ((adB base) 235), .ref ((adB base) 236), .null, .null, .null, .int (0), .null, .int (0), .null, .int (0)])) (show (225 : Nat) ≠ 224 by first | decide | assumption | omega)).trans hh159
  rw [← e_mem170] at hh171
  have hh172 := (va_up_ne mem157 (.inr (7, [.int (0), .int (0), .ref ((adB base) 225), .int ((-1)), .int (0), .ref ((adB base) 226), .ref ((adB base) 227), .int (0), .ref ((adB base) 228), .ref ((adB base) 229), .ref ((adB base) 230), .ref ((adB base) 231), .ref ((adB base) 232), .ref ((adB base) 233), .int (0), .ref ((adB base) 234), .int (0), .int (0), .int (0), .ref ((adB base) 235), .ref ((adB base) 236), .null, .null, .null, .int (0), .null, .int (0), .null, .int (0)])) (show (226 : Nat) ≠ 224 by first | decide | assumption | omega)).trans hh160
  rw [← e_mem170] at hh172
  have hh173 := (va_up_ne mem157 (.inr (7, [.int (0), .int (0), .ref ((adB base) 225), .int ((-1)), .int (0), .ref ((adB base) 226), .ref ((adB base) 227), .int (0), .ref ((adB base) 228), .ref ((adB base) 229), .ref ((adB base) 230), .ref ((adB base) 231), .ref ((adB base) 232), .ref ((adB base) 233), .int (0), .ref ((adB base) 234), .int (0), .int (0), .int (0), .ref ((adB base) 235), .ref ((adB base) 236), .null, .null, .null, .int (0), .null, .int (0), .null, .int (0)])) (show (227 : Nat) ≠ 224 by first | decide | assumption | omega)).trans hh161
  rw [← e_mem170] at hh173
  have hh174 := (va_up_ne mem157 (.inr (7, [.int (0), .int (0), .ref ((adB base) 225), .int ((-1)), .int (0), .ref ((adB base) 226), .ref ((adB base) 227), .int (0), .ref ((adB base) 228), .ref ((adB base) 229), .ref ((adB base) 230), .ref ((adB base) 231), .ref ((adB base) 232), .ref ((adB base) 233), .int (0), .ref ((adB base) 234), .int (0), .int (0), .int (0), .ref ((adB base) 235), .ref ((adB base) 236), .null, .null, .null, .int (0), .null, .int (0), .null, .int (0)])) (show (228 : Nat) ≠ 224 by first | decide | assumption | omega)).trans hh162
  rw [← e_mem170] at hh174
  have hh175 := (va_up_ne mem157 (.inr (7, [.int (0), .int (0), .ref ((adB base) 225), .int ((-1)), .int (0), .ref ((adB base) 226), .ref ((adB base) 227), .int (0), .ref ((adB base) 228), .ref ((adB base) 229), .ref ((adB base) 230), .ref ((adB base) 231), .ref ((adB base) 232), .ref ((adB base) 233), .int (0), .ref ((adB base) 234), .int (0), .int (0), .int (0), .ref ((adB base) 235), .ref ((adB base) 236), .null, .null, .null, .int (0), .null, .int (0), .null, .int (0)])) (show (229 : Nat) ≠ 224 by first | decide | assumption | omega)).trans hh163
  rw [← e_mem170] at hh175
  have hh176 := (va_up_ne mem157 (.inr (7, [.int (0), .int (0), .ref ((adB base) 225), .int ((-1)), .int (0), .ref ((adB base) 226), .ref ((adB base) 227), .int (0), .ref ((adB base) 228), .ref ((adB base) 229), .ref ((adB base) 230), .ref ((adB base) 231), .ref ((adB base) 232), .ref ((adB base) 233), .int (0), .ref ((adB base) 234), .int (0), .int (0), .int (0), .ref ((adB base) 235), .ref ((adB base) 236), .null, .null, .null, .int (0), .null, .int (0), .null, .int (0)])) (show (230 : Nat) ≠ 224 by first | decide | assumption | omega)).trans hh164
  rw [← e_mem170] at hh176
  have hh177 := (va_up_ne mem157 (.inr (7, [.int (0), .int (0), .ref ((adB base) 225), .int ((-1)), .int (0), .ref ((adB base) 226), .ref ((adB base) 227), .int (0), .ref ((adB base) 228), .ref ((adB base) 229), .ref ((adB base) 230), .ref ((adB base) 231), .ref ((adB base) 232), .ref ((adB base) 233), .int (0), .ref ((adB base) 234), .int (0), .int (0), .int (0), .ref ((adB base) 235), .ref ((adB base) 236), .null, .null, .null, .int (0), .null, .int (0), .null, .int (0)])) (show (231 : Nat) ≠ 224 by first | decide | assumption | omega)).trans hh165
  rw [← e_mem170] at hh177
  have hh178 := (va_up_ne mem157 (.inr (7, [.int (0), .int (0), .ref ((adB base) 225), .int ((-1)), .int (0), .ref ((adB base) 226), .ref ((adB base) 227), .int (0), .ref ((adB base) 228), .ref ((adB base) 229), .ref ((adB base) 230), .ref ((adB base) 231), .ref ((adB base) 232), .ref ((adB base) 233), .int (0), .ref ((adB base) 234), .int (0), .int (0), .int (0), .ref ((adB base) 235), .ref ((adB base) 236), .null, .null, .null, .int (0), .null, .int (0), .null, .int (0)])) (show (232 : Nat) ≠ 224 by first | decide | assumption | omega)).trans hh166
  rw [← e_mem170] at hh178
  have hh179 := (va_up_ne mem157 (.inr (7, [.int (0), .int (0), .ref ((adB base) 225), .int ((-1)), .int (0), .ref ((adB base) 226), .ref ((adB base) 227), .int (0), .ref ((adB base) 228), .ref ((adB base) 229), .ref ((adB base) 230), .ref ((adB base) 231), .ref ((adB base) 232), .ref ((adB base) 233), .int (0), .ref ((adB base) 234), .int (0), .int (0), .int (0), .ref ((adB base) 235), .ref ((adB base) 236), .null, .null, .null, .int (0), .null, .int (0), .null, .int (0)])) (show (233 : Nat) ≠ 224 by first | decide | assumption | omega)).trans hh167
  rw [← e_mem170] at hh179
  have hh180 := (va_up_ne mem157 (.inr (7, [.int (0), .int (0), .ref ((adB base) 225), .int ((-1)), .int (0), .ref ((adB base) 226), .ref ((adB base) 227), .int (0), .ref ((adB base) 228), .ref ((adB base) 229), .ref ((adB base) 230), .ref ((adB base) 231), .ref ((adB base) 232), .ref ((adB base) 233), .int (0), .ref ((adB base) 234), .int (0), .int (0), .int (0), .ref ((adB base) 235), .ref ((adB base) 236), .null, .null, .null, .int (0), .null, .int (0), .null, .int (0)])) (show (234 : Nat) ≠ 224 by first | decide | assumption | omega)).trans hh168
  rw [← e_mem170] at hh180
  have hh181 := (va_up_ne mem157 (.inr (7, [.int (0), .int (0), .ref ((adB base) 225), .int ((-1)), .int (0), .ref ((adB base) 226), .ref ((adB base) 227), .int (0), .ref ((adB base) 228), .ref ((adB base) 229), .ref ((adB base) 230), .ref ((adB base) 231), .ref ((adB base) 232), .ref ((adB base) 233), .int (0), .ref ((adB base) 234), .int (0), .int (0), .int (0), .ref ((adB base) 235), .ref ((adB base) 236), .null, .null, .null, .int (0), .null, .int (0), .null, .int (0)])) (show (235 : Nat) ≠ 224 by first | decide | assumption | omega)).trans hh169
  rw [← e_mem170] at hh181
  have hh182 := (va_up_ne mem157 (.inr (7, [.int (0), .int (0), .ref ((adB base) 225), .int ((-1)), .int (0), .ref ((adB base) 226), .ref ((adB base) 227), .int (0), .ref ((adB base) 228), .ref ((adB base) 229), .ref ((adB base) 230), .ref ((adB base) 231), .ref ((adB base) 232), .ref ((adB base) 233), .int (0), .ref ((adB base) 234), .int (0), .int (0), .int (0), .ref ((adB base) 235), .ref ((adB base) 236), .null, .null, .null, .int (0), .null, .int (0), .null, .int (0)])) (show (236 : Nat) ≠ 224 by first | decide | assumption | omega)).trans h_mem157
  rw [← e_mem170] at hh182
  refine lv_aload_n Bx.1 Bx.2.1 d_Mo_init_107 rfl (lv_at hl 0 rfl) ?_
  refine lv_bipush (v := 8) Bx.1 Bx.2.1 d_Mo_init_108 (by decide) ?_
  refine c_size (n := 237) hP (by omega) (by omega) (fun hz => ?_)
  refine f_newa (atype := .int) (n := 237) (t0 := 1) (N' := 8) Bx hP hS hz kw_110 (Bx.2.2.2.2.2 1 _ rfl).2 (8, .inl (fun _ => 0)) (fun _ => rfl) (by decide) (by decide) (by decide) (Nat.le_of_ble_eq_true rfl) (Nat.le_of_ble_eq_true rfl) d_Mo_init_110 (fun H hP hS hz => ?_)
  obtain ⟨mem183, e_mem183⟩ : ∃ z, z = va_up mem170 (237) (.inl (cy 1, (8, .inl (fun _ => 0)))) := ⟨_, rfl⟩
  have hP : va_P D vcl (fw 238 (adB base) mem183) H := by rw [e_mem183]; exact hP
  have h_mem183 : mem183 (237) = .inl (cy 1, (8, .inl (fun _ => 0))) := by rw [e_mem183, va_up_self]
  have hh184 := (va_up_ne mem170 (.inl (cy 1, (8, .inl (fun _ => 0)))) (show (224 : Nat) ≠ 237 by first | decide | assumption | omega)).trans h_mem170
  rw [← e_mem183] at hh184
  have hh185 := (va_up_ne mem170 (.inl (cy 1, (8, .inl (fun _ => 0)))) (show (225 : Nat) ≠ 237 by first | decide | assumption | omega)).trans hh171
  rw [← e_mem183] at hh185
  have hh186 := (va_up_ne mem170 (.inl (cy 1, (8, .inl (fun _ => 0)))) (show (226 : Nat) ≠ 237 by first | decide | assumption | omega)).trans hh172
  rw [← e_mem183] at hh186
  have hh187 := (va_up_ne mem170 (.inl (cy 1, (8, .inl (fun _ => 0)))) (show (227 : Nat) ≠ 237 by first | decide | assumption | omega)).trans hh173
  rw [← e_mem183] at hh187
  have hh188 := (va_up_ne mem170 (.inl (cy 1, (8, .inl (fun _ => 0)))) (show (228 : Nat) ≠ 237 by first | decide | assumption | omega)).trans hh174
  rw [← e_mem183] at hh188
  have hh189 := (va_up_ne mem170 (.inl (cy 1, (8, .inl (fun _ => 0)))) (show (229 : Nat) ≠ 237 by first | decide | assumption | omega)).trans hh175
  rw [← e_mem183] at hh189
  have hh190 := (va_up_ne mem170 (.inl (cy 1, (8, .inl (fun _ => 0)))) (show (230 : Nat) ≠ 237 by first | decide | assumption | omega)).trans hh176
  rw [← e_mem183] at hh190
  have hh191 := (va_up_ne mem170 (.inl (cy 1, (8, .inl (fun _ => 0)))) (show (231 : Nat) ≠ 237 by first | decide | assumption | omega)).trans hh177
  rw [← e_mem183] at hh191
  have hh192 := (va_up_ne mem170 (.inl (cy 1, (8, .inl (fun _ => 0)))) (show (232 : Nat) ≠ 237 by first | decide | assumption | omega)).trans hh178
  rw [← e_mem183] at hh192
  have hh193 := (va_up_ne mem170 (.inl (cy 1, (8, .inl (fun _ => 0)))) (show (233 : Nat) ≠ 237 by first | decide | assumption | omega)).trans hh179
  rw [← e_mem183] at hh193
  have hh194 := (va_up_ne mem170 (.inl (cy 1, (8, .inl (fun _ => 0)))) (show (234 : Nat) ≠ 237 by first | decide | assumption | omega)).trans hh180
  rw [← e_mem183] at hh194
  have hh195 := (va_up_ne mem170 (.inl (cy 1, (8, .inl (fun _ => 0)))) (show (235 : Nat) ≠ 237 by first | decide | assumption | omega)).trans hh181
  rw [← e_mem183] at hh195
  have hh196 := (va_up_ne mem170 (.inl (cy 1, (8, .inl (fun _ => 0)))) (show (236 : Nat) ≠ 237 by first | decide | assumption | omega)).trans hh182
  rw [← e_mem183] at hh196
  refine f_putF Bx hin hP (adB_D hbz) hS (by omega) hh184 rfl inMo tyMo okMo nmMo 21 (by decide) kw_677 rfl rfl rfl rfl (Nat.le_of_ble_eq_true rfl) d_Mo_init_112 (fun H locs hP hS => ?_)
  obtain ⟨mem197, e_mem197⟩ : ∃ z, z = va_up mem183 (224) (.inr (7, [.int (0), .int (0), .ref ((adB base) 225), .int ((-1)), .int (0), .ref ((adB base) 226), .ref ((adB base) 227), .int (0), .ref ((adB base) 228), .ref ((adB base) 229), .ref ((adB base) 230), .ref ((adB base) 231), .ref ((adB base) 232), .ref ((adB base) 233), .int (0), .ref ((adB base) 234), .int (0), .int (0), .int (0), .ref ((adB base) 235), .ref ((adB base) 236), .ref ((adB base) 237), .null, .null, .int (0), .null, .int (0), .null, .int (0)])) := ⟨_, rfl⟩
  have hP : va_P D vcl (fw 238 (adB base) mem197) H := by rw [e_mem197]; exact hP
  have h_mem197 : mem197 (224) = .inr (7, [.int (0), .int (0), .ref ((adB base) 225), .int ((-1)), .int (0), .ref ((adB base) 226), .ref ((adB base) 227), .int (0), .ref ((adB base) 228), .ref ((adB base) 229), .ref ((adB base) 230), .ref ((adB base) 231), .ref ((adB base) 232), .ref ((adB base) 233), .int (0), .ref ((adB base) 234), .int (0), .int (0), .int (0), .ref ((adB base) 235), .ref ((adB base) 236), .ref ((adB base) 237), .null, .null, .int (0), .null, .int (0), .null, .int (0)]) := by rw [e_mem197, va_up_self]
  have hh198 := (va_up_ne mem183 (.inr (7, [.int (0), .int (0), .ref ((adB base) 225), .int ((-1)), .int (0), .ref ((adB base) 226), .ref ((adB base) 227), .int (0), .ref ((adB base) 228), .ref ((adB base) 229), .ref ((adB base) 230), .ref ((adB base) 231), .ref ((adB base) 232), .ref ((adB base) 233), .int (0), .ref ((adB base) 234), .int (0), .int (0), .int (0), .ref ((adB base) 235), .ref ((adB base) 236), .ref ((adB base) 237), .null, .null, .int (0), .null, .int (0), .null, .int (0)])) (show (225 : Nat) ≠ 224 by first | decide | assumption | omega)).trans hh185
  rw [← e_mem197] at hh198
  have hh199 := (va_up_ne mem183 (.inr (7, [.int (0), .int (0), .ref ((adB base) 225), .int ((-1)), .int (0), .ref ((adB base) 226), .ref ((adB base) 227), .int (0), .ref ((adB base) 228), .ref ((adB base) 229), .ref ((adB base) 230), .ref ((adB base) 231), .ref ((adB base) 232), .ref ((adB base) 233), .int (0), .ref ((adB base) 234), .int (0), .int (0), .int (0), .ref ((adB base) 235), .ref ((adB base) 236), .ref ((adB base) 237), .null, .null, .int (0), .null, .int (0), .null, .int (0)])) (show (226 : Nat) ≠ 224 by first | decide | assumption | omega)).trans hh186
  rw [← e_mem197] at hh199
  have hh200 := (va_up_ne mem183 (.inr (7, [.int (0), .int (0), .ref ((adB base) 225), .int ((-1)), .int (0), .ref ((adB base) 226), .ref ((adB base) 227), .int (0), .ref ((adB base) 228), .ref ((adB base) 229), .ref ((adB base) 230), .ref ((adB base) 231), .ref ((adB base) 232), .ref ((adB base) 233), .int (0), .ref ((adB base) 234), .int (0), .int (0), .int (0), .ref ((adB base) 235), .ref ((adB base) 236), .ref ((adB base) 237), .null, .null, .int (0), .null, .int (0), .null, .int (0)])) (show (227 : Nat) ≠ 224 by first | decide | assumption | omega)).trans hh187
  rw [← e_mem197] at hh200
  have hh201 := (va_up_ne mem183 (.inr (7, [.int (0), .int (0), .ref ((adB base) 225), .int ((-1)), .int (0), .ref ((adB base) 226), .ref ((adB base) 227), .int (0), .ref ((adB base) 228), .ref ((adB base) 229), .ref ((adB base) 230), .ref ((adB base) 231), .ref ((adB base) 232), .ref ((adB base) 233), .int (0), .ref ((adB base) 234), .int (0), .int (0), .int (0), .ref ((adB base) 235), .ref ((adB base) 236), .ref ((adB base) 237), .null, .null, .int (0), .null, .int (0), .null, .int (0)])) (show (228 : Nat) ≠ 224 by first | decide | assumption | omega)).trans hh188
  rw [← e_mem197] at hh201
  have hh202 := (va_up_ne mem183 (.inr (7, [.int (0), .int (0), .ref ((adB base) 225), .int ((-1)), .int (0), .ref ((adB base) 226), .ref ((adB base) 227), .int (0), .ref ((adB base) 228), .ref ((adB base) 229), .ref ((adB base) 230), .ref ((adB base) 231), .ref ((adB base) 232), .ref ((adB base) 233), .int (0), .ref ((adB base) 234), .int (0), .int (0), .int (0), .ref ((adB base) 235), .ref ((adB base) 236), .ref ((adB base) 237), .null, .null, .int (0), .null, .int (0), .null, .int (0)])) (show (229 : Nat) ≠ 224 by first | decide | assumption | omega)).trans hh189
  rw [← e_mem197] at hh202
  have hh203 := (va_up_ne mem183 (.inr (7, [.int (0), .int (0), .ref ((adB base) 225), .int ((-1)), .int (0), .ref ((adB base) 226), .ref ((adB base) 227), .int (0), .ref ((adB base) 228), .ref ((adB base) 229), .ref ((adB base) 230), .ref ((adB base) 231), .ref ((adB base) 232), .ref ((adB base) 233), .int (0), .ref ((adB base) 234), .int (0), .int (0), .int (0), .ref ((adB base) 235), .ref ((adB base) 236), .ref ((adB base) 237), .null, .null, .int (0), .null, .int (0), .null, .int (0)])) (show (230 : Nat) ≠ 224 by first | decide | assumption | omega)).trans hh190
  rw [← e_mem197] at hh203
  have hh204 := (va_up_ne mem183 (.inr (7, [.int (0), .int (0), .ref ((adB base) 225), .int ((-1)), .int (0), .ref ((adB base) 226), .ref ((adB base) 227), .int (0), .ref ((adB base) 228), .ref ((adB base) 229), .ref ((adB base) 230), .ref ((adB base) 231), .ref ((adB base) 232), .ref ((adB base) 233), .int (0), .ref ((adB base) 234), .int (0), .int (0), .int (0), .ref ((adB base) 235), .ref ((adB base) 236), .ref ((adB base) 237), .null, .null, .int (0), .null, .int (0), .null, .int (0)])) (show (231 : Nat) ≠ 224 by first | decide | assumption | omega)).trans hh191
  rw [← e_mem197] at hh204
  have hh205 := (va_up_ne mem183 (.inr (7, [.int (0), .int (0), .ref ((adB base) 225), .int ((-1)), .int (0), .ref ((adB base) 226), .ref ((adB base) 227), .int (0), .ref ((adB base) 228), .ref ((adB base) 229), .ref ((adB base) 230), .ref ((adB base) 231), .ref ((adB base) 232), .ref ((adB base) 233), .int (0), .ref ((adB base) 234), .int (0), .int (0), .int (0), .ref ((adB base) 235), .ref ((adB base) 236), .ref ((adB base) 237), .null, .null, .int (0), .null, .int (0), .null, .int (0)])) (show (232 : Nat) ≠ 224 by first | decide | assumption | omega)).trans hh192
  rw [← e_mem197] at hh205
  have hh206 := (va_up_ne mem183 (.inr (7, [.int (0), .int (0), .ref ((adB base) 225), .int ((-1)), .int (0), .ref ((adB base) 226), .ref ((adB base) 227), .int (0), .ref ((adB base) 228), .ref ((adB base) 229), .ref ((adB base) 230), .ref ((adB base) 231), .ref ((adB base) 232), .ref ((adB base) 233), .int (0), .ref ((adB base) 234), .int (0), .int (0), .int (0), .ref ((adB base) 235), .ref ((adB base) 236), .ref ((adB base) 237), .null, .null, .int (0), .null, .int (0), .null, .int (0)])) (show (233 : Nat) ≠ 224 by first | decide | assumption | omega)).trans hh193
  rw [← e_mem197] at hh206
  have hh207 := (va_up_ne mem183 (.inr (7, [.int (0), .int (0), .ref ((adB base) 225), .int ((-1)), .int (0), .ref ((adB base) 226), .ref ((adB base) 227), .int (0), .ref ((adB base) 228), .ref ((adB base) 229), .ref ((adB base) 230), .ref ((adB base) 231), .ref ((adB base) 232), .ref ((adB base) 233), .int (0), .ref ((adB base) 234), .int (0), .int (0), .int (0), .ref ((adB base) 235), .ref ((adB base) 236), .ref ((adB base) 237), .null, .null, .int (0), .null, .int (0), .null, .int (0)])) (show (234 : Nat) ≠ 224 by first | decide | assumption | omega)).trans hh194
  rw [← e_mem197] at hh207
  have hh208 := (va_up_ne mem183 (.inr (7, [.int (0), .int (0), .ref ((adB base) 225), .int ((-1)), .int (0), .ref ((adB base) 226), .ref ((adB base) 227), .int (0), .ref ((adB base) 228), .ref ((adB base) 229), .ref ((adB base) 230), .ref ((adB base) 231), .ref ((adB base) 232), .ref ((adB base) 233), .int (0), .ref ((adB base) 234), .int (0), .int (0), .int (0), .ref ((adB base) 235), .ref ((adB base) 236), .ref ((adB base) 237), .null, .null, .int (0), .null, .int (0), .null, .int (0)])) (show (235 : Nat) ≠ 224 by first | decide | assumption | omega)).trans hh195
  rw [← e_mem197] at hh208
  have hh209 := (va_up_ne mem183 (.inr (7, [.int (0), .int (0), .ref ((adB base) 225), .int ((-1)), .int (0), .ref ((adB base) 226), .ref ((adB base) 227), .int (0), .ref ((adB base) 228), .ref ((adB base) 229), .ref ((adB base) 230), .ref ((adB base) 231), .ref ((adB base) 232), .ref ((adB base) 233), .int (0), .ref ((adB base) 234), .int (0), .int (0), .int (0), .ref ((adB base) 235), .ref ((adB base) 236), .ref ((adB base) 237), .null, .null, .int (0), .null, .int (0), .null, .int (0)])) (show (236 : Nat) ≠ 224 by first | decide | assumption | omega)).trans hh196
  rw [← e_mem197] at hh209
  have hh210 := (va_up_ne mem183 (.inr (7, [.int (0), .int (0), .ref ((adB base) 225), .int ((-1)), .int (0), .ref ((adB base) 226), .ref ((adB base) 227), .int (0), .ref ((adB base) 228), .ref ((adB base) 229), .ref ((adB base) 230), .ref ((adB base) 231), .ref ((adB base) 232), .ref ((adB base) 233), .int (0), .ref ((adB base) 234), .int (0), .int (0), .int (0), .ref ((adB base) 235), .ref ((adB base) 236), .ref ((adB base) 237), .null, .null, .int (0), .null, .int (0), .null, .int (0)])) (show (237 : Nat) ≠ 224 by first | decide | assumption | omega)).trans h_mem183
  rw [← e_mem197] at hh210
  refine lv_aload_n Bx.1 Bx.2.1 d_Mo_init_115 rfl (lv_at hl 0 rfl) ?_
  refine lv_bipush (v := 8) Bx.1 Bx.2.1 d_Mo_init_116 (by decide) ?_
  refine c_size (n := 238) hP (by omega) (by omega) (fun hz => ?_)
  refine f_newa (atype := .int) (n := 238) (t0 := 1) (N' := 8) Bx hP hS hz kw_110 (Bx.2.2.2.2.2 1 _ rfl).2 (8, .inl (fun _ => 0)) (fun _ => rfl) (by decide) (by decide) (by decide) (Nat.le_of_ble_eq_true rfl) (Nat.le_of_ble_eq_true rfl) d_Mo_init_118 (fun H hP hS hz => ?_)
  obtain ⟨mem211, e_mem211⟩ : ∃ z, z = va_up mem197 (238) (.inl (cy 1, (8, .inl (fun _ => 0)))) := ⟨_, rfl⟩
  have hP : va_P D vcl (fw 239 (adB base) mem211) H := by rw [e_mem211]; exact hP
  have h_mem211 : mem211 (238) = .inl (cy 1, (8, .inl (fun _ => 0))) := by rw [e_mem211, va_up_self]
  have hh212 := (va_up_ne mem197 (.inl (cy 1, (8, .inl (fun _ => 0)))) (show (224 : Nat) ≠ 238 by first | decide | assumption | omega)).trans h_mem197
  rw [← e_mem211] at hh212
  have hh213 := (va_up_ne mem197 (.inl (cy 1, (8, .inl (fun _ => 0)))) (show (225 : Nat) ≠ 238 by first | decide | assumption | omega)).trans hh198
  rw [← e_mem211] at hh213
  have hh214 := (va_up_ne mem197 (.inl (cy 1, (8, .inl (fun _ => 0)))) (show (226 : Nat) ≠ 238 by first | decide | assumption | omega)).trans hh199
  rw [← e_mem211] at hh214
  have hh215 := (va_up_ne mem197 (.inl (cy 1, (8, .inl (fun _ => 0)))) (show (227 : Nat) ≠ 238 by first | decide | assumption | omega)).trans hh200
  rw [← e_mem211] at hh215
  have hh216 := (va_up_ne mem197 (.inl (cy 1, (8, .inl (fun _ => 0)))) (show (228 : Nat) ≠ 238 by first | decide | assumption | omega)).trans hh201
  rw [← e_mem211] at hh216
  have hh217 := (va_up_ne mem197 (.inl (cy 1, (8, .inl (fun _ => 0)))) (show (229 : Nat) ≠ 238 by first | decide | assumption | omega)).trans hh202
  rw [← e_mem211] at hh217
  have hh218 := (va_up_ne mem197 (.inl (cy 1, (8, .inl (fun _ => 0)))) (show (230 : Nat) ≠ 238 by first | decide | assumption | omega)).trans hh203
  rw [← e_mem211] at hh218
  have hh219 := (va_up_ne mem197 (.inl (cy 1, (8, .inl (fun _ => 0)))) (show (231 : Nat) ≠ 238 by first | decide | assumption | omega)).trans hh204
  rw [← e_mem211] at hh219
  have hh220 := (va_up_ne mem197 (.inl (cy 1, (8, .inl (fun _ => 0)))) (show (232 : Nat) ≠ 238 by first | decide | assumption | omega)).trans hh205
  rw [← e_mem211] at hh220
  have hh221 := (va_up_ne mem197 (.inl (cy 1, (8, .inl (fun _ => 0)))) (show (233 : Nat) ≠ 238 by first | decide | assumption | omega)).trans hh206
  rw [← e_mem211] at hh221
  have hh222 := (va_up_ne mem197 (.inl (cy 1, (8, .inl (fun _ => 0)))) (show (234 : Nat) ≠ 238 by first | decide | assumption | omega)).trans hh207
  rw [← e_mem211] at hh222
  have hh223 := (va_up_ne mem197 (.inl (cy 1, (8, .inl (fun _ => 0)))) (show (235 : Nat) ≠ 238 by first | decide | assumption | omega)).trans hh208
  rw [← e_mem211] at hh223
  have hh224 := (va_up_ne mem197 (.inl (cy 1, (8, .inl (fun _ => 0)))) (show (236 : Nat) ≠ 238 by first | decide | assumption | omega)).trans hh209
  rw [← e_mem211] at hh224
  have hh225 := (va_up_ne mem197 (.inl (cy 1, (8, .inl (fun _ => 0)))) (show (237 : Nat) ≠ 238 by first | decide | assumption | omega)).trans hh210
  rw [← e_mem211] at hh225
  refine f_putF Bx hin hP (adB_D hbz) hS (by omega) hh212 rfl inMo tyMo okMo nmMo 22 (by decide) kw_678 rfl rfl rfl rfl (Nat.le_of_ble_eq_true rfl) d_Mo_init_120 (fun H locs hP hS => ?_)
  obtain ⟨mem226, e_mem226⟩ : ∃ z, z = va_up mem211 (224) (.inr (7, [.int (0), .int (0), .ref ((adB base) 225), .int ((-1)), .int (0), .ref ((adB base) 226), .ref ((adB base) 227), .int (0), .ref ((adB base) 228), .ref ((adB base) 229), .ref ((adB base) 230), .ref ((adB base) 231), .ref ((adB base) 232), .ref ((adB base) 233), .int (0), .ref ((adB base) 234), .int (0), .int (0), .int (0), .ref ((adB base) 235), .ref ((adB base) 236), .ref ((adB base) 237), .ref ((adB base) 238), .null, .int (0), .null, .int (0), .null, .int (0)])) := ⟨_, rfl⟩
  have hP : va_P D vcl (fw 239 (adB base) mem226) H := by rw [e_mem226]; exact hP
  have h_mem226 : mem226 (224) = .inr (7, [.int (0), .int (0), .ref ((adB base) 225), .int ((-1)), .int (0), .ref ((adB base) 226), .ref ((adB base) 227), .int (0), .ref ((adB base) 228), .ref ((adB base) 229), .ref ((adB base) 230), .ref ((adB base) 231), .ref ((adB base) 232), .ref ((adB base) 233), .int (0), .ref ((adB base) 234), .int (0), .int (0), .int (0), .ref ((adB base) 235), .ref ((adB base) 236), .ref ((adB base) 237), .ref ((adB base) 238), .null, .int (0), .null, .int (0), .null, .int (0)]) := by rw [e_mem226, va_up_self]
  have hh227 := (va_up_ne mem211 (.inr (7, [.int (0), .int (0), .ref ((adB base) 225), .int ((-1)), .int (0), .ref ((adB base) 226), .ref ((adB base) 227), .int (0), .ref ((adB base) 228), .ref ((adB base) 229), .ref ((adB base) 230), .ref ((adB base) 231), .ref ((adB base) 232), .ref ((adB base) 233), .int (0), .ref ((adB base) 234), .int (0), .int (0), .int (0), .ref ((adB base) 235), .ref ((adB base) 236), .ref ((adB base) 237), .ref ((adB base) 238), .null, .int (0), .null, .int (0), .null, .int (0)])) (show (225 : Nat) ≠ 224 by first | decide | assumption | omega)).trans hh213
  rw [← e_mem226] at hh227
  have hh228 := (va_up_ne mem211 (.inr (7, [.int (0), .int (0), .ref ((adB base) 225), .int ((-1)), .int (0), .ref ((adB base) 226), .ref ((adB base) 227), .int (0), .ref ((adB base) 228), .ref ((adB base) 229), .ref ((adB base) 230), .ref ((adB base) 231), .ref ((adB base) 232), .ref ((adB base) 233), .int (0), .ref ((adB base) 234), .int (0), .int (0), .int (0), .ref ((adB base) 235), .ref ((adB base) 236), .ref ((adB base) 237), .ref ((adB base) 238), .null, .int (0), .null, .int (0), .null, .int (0)])) (show (226 : Nat) ≠ 224 by first | decide | assumption | omega)).trans hh214
  rw [← e_mem226] at hh228
  have hh229 := (va_up_ne mem211 (.inr (7, [.int (0), .int (0), .ref ((adB base) 225), .int ((-1)), .int (0), .ref ((adB base) 226), .ref ((adB base) 227), .int (0), .ref ((adB base) 228), .ref ((adB base) 229), .ref ((adB base) 230), .ref ((adB base) 231), .ref ((adB base) 232), .ref ((adB base) 233), .int (0), .ref ((adB base) 234), .int (0), .int (0), .int (0), .ref ((adB base) 235), .ref ((adB base) 236), .ref ((adB base) 237), .ref ((adB base) 238), .null, .int (0), .null, .int (0), .null, .int (0)])) (show (227 : Nat) ≠ 224 by first | decide | assumption | omega)).trans hh215
  rw [← e_mem226] at hh229
  have hh230 := (va_up_ne mem211 (.inr (7, [.int (0), .int (0), .ref ((adB base) 225), .int ((-1)), .int (0), .ref ((adB base) 226), .ref ((adB base) 227), .int (0), .ref ((adB base) 228), .ref ((adB base) 229), .ref ((adB base) 230), .ref ((adB base) 231), .ref ((adB base) 232), .ref ((adB base) 233), .int (0), .ref ((adB base) 234), .int (0), .int (0), .int (0), .ref ((adB base) 235), .ref ((adB base) 236), .ref ((adB base) 237), .ref ((adB base) 238), .null, .int (0), .null, .int (0), .null, .int (0)])) (show (228 : Nat) ≠ 224 by first | decide | assumption | omega)).trans hh216
  rw [← e_mem226] at hh230
  have hh231 := (va_up_ne mem211 (.inr (7, [.int (0), .int (0), .ref ((adB base) 225), .int ((-1)), .int (0), .ref ((adB base) 226), .ref ((adB base) 227), .int (0), .ref ((adB base) 228), .ref ((adB base) 229), .ref ((adB base) 230), .ref ((adB base) 231), .ref ((adB base) 232), .ref ((adB base) 233), .int (0), .ref ((adB base) 234), .int (0), .int (0), .int (0), .ref ((adB base) 235), .ref ((adB base) 236), .ref ((adB base) 237), .ref ((adB base) 238), .null, .int (0), .null, .int (0), .null, .int (0)])) (show (229 : Nat) ≠ 224 by first | decide | assumption | omega)).trans hh217
  rw [← e_mem226] at hh231
  have hh232 := (va_up_ne mem211 (.inr (7, [.int (0), .int (0), .ref ((adB base) 225), .int ((-1)), .int (0), .ref ((adB base) 226), .ref ((adB base) 227), .int (0), .ref ((adB base) 228), .ref ((adB base) 229), .ref ((adB base) 230), .ref ((adB base) 231), .ref ((adB base) 232), .ref ((adB base) 233), .int (0), .ref ((adB base) 234), .int (0), .int (0), .int (0), .ref ((adB base) 235), .ref ((adB base) 236), .ref ((adB base) 237), .ref ((adB base) 238), .null, .int (0), .null, .int (0), .null, .int (0)])) (show (230 : Nat) ≠ 224 by first | decide | assumption | omega)).trans hh218
  rw [← e_mem226] at hh232
  have hh233 := (va_up_ne mem211 (.inr (7, [.int (0), .int (0), .ref ((adB base) 225), .int ((-1)), .int (0), .ref ((adB base) 226), .ref ((adB base) 227), .int (0), .ref ((adB base) 228), .ref ((adB base) 229), .ref ((adB base) 230), .ref ((adB base) 231), .ref ((adB base) 232), .ref ((adB base) 233), .int (0), .ref ((adB base) 234), .int (0), .int (0), .int (0), .ref ((adB base) 235), .ref ((adB base) 236), .ref ((adB base) 237), .ref ((adB base) 238), .null, .int (0), .null, .int (0), .null, .int (0)])) (show (231 : Nat) ≠ 224 by first | decide | assumption | omega)).trans hh219
  rw [← e_mem226] at hh233
  have hh234 := (va_up_ne mem211 (.inr (7, [.int (0), .int (0), .ref ((adB base) 225), .int ((-1)), .int (0), .ref ((adB base) 226), .ref ((adB base) 227), .int (0), .ref ((adB base) 228), .ref ((adB base) 229), .ref ((adB base) 230), .ref ((adB base) 231), .ref ((adB base) 232), .ref ((adB base) 233), .int (0), .ref ((adB base) 234), .int (0), .int (0), .int (0), .ref ((adB base) 235), .ref ((adB base) 236), .ref ((adB base) 237), .ref ((adB base) 238), .null, .int (0), .null, .int (0), .null, .int (0)])) (show (232 : Nat) ≠ 224 by first | decide | assumption | omega)).trans hh220
  rw [← e_mem226] at hh234
  have hh235 := (va_up_ne mem211 (.inr (7, [.int (0), .int (0), .ref ((adB base) 225), .int ((-1)), .int (0), .ref ((adB base) 226), .ref ((adB base) 227), .int (0), .ref ((adB base) 228), .ref ((adB base) 229), .ref ((adB base) 230), .ref ((adB base) 231), .ref ((adB base) 232), .ref ((adB base) 233), .int (0), .ref ((adB base) 234), .int (0), .int (0), .int (0), .ref ((adB base) 235), .ref ((adB base) 236), .ref ((adB base) 237), .ref ((adB base) 238), .null, .int (0), .null, .int (0), .null, .int (0)])) (show (233 : Nat) ≠ 224 by first | decide | assumption | omega)).trans hh221
  rw [← e_mem226] at hh235
  have hh236 := (va_up_ne mem211 (.inr (7, [.int (0), .int (0), .ref ((adB base) 225), .int ((-1)), .int (0), .ref ((adB base) 226), .ref ((adB base) 227), .int (0), .ref ((adB base) 228), .ref ((adB base) 229), .ref ((adB base) 230), .ref ((adB base) 231), .ref ((adB base) 232), .ref ((adB base) 233), .int (0), .ref ((adB base) 234), .int (0), .int (0), .int (0), .ref ((adB base) 235), .ref ((adB base) 236), .ref ((adB base) 237), .ref ((adB base) 238), .null, .int (0), .null, .int (0), .null, .int (0)])) (show (234 : Nat) ≠ 224 by first | decide | assumption | omega)).trans hh222
  rw [← e_mem226] at hh236
  have hh237 := (va_up_ne mem211 (.inr (7, [.int (0), .int (0), .ref ((adB base) 225), .int ((-1)), .int (0), .ref ((adB base) 226), .ref ((adB base) 227), .int (0), .ref ((adB base) 228), .ref ((adB base) 229), .ref ((adB base) 230), .ref ((adB base) 231), .ref ((adB base) 232), .ref ((adB base) 233), .int (0), .ref ((adB base) 234), .int (0), .int (0), .int (0), .ref ((adB base) 235), .ref ((adB base) 236), .ref ((adB base) 237), .ref ((adB base) 238), .null, .int (0), .null, .int (0), .null, .int (0)])) (show (235 : Nat) ≠ 224 by first | decide | assumption | omega)).trans hh223
  rw [← e_mem226] at hh237
  have hh238 := (va_up_ne mem211 (.inr (7, [.int (0), .int (0), .ref ((adB base) 225), .int ((-1)), .int (0), .ref ((adB base) 226), .ref ((adB base) 227), .int (0), .ref ((adB base) 228), .ref ((adB base) 229), .ref ((adB base) 230), .ref ((adB base) 231), .ref ((adB base) 232), .ref ((adB base) 233), .int (0), .ref ((adB base) 234), .int (0), .int (0), .int (0), .ref ((adB base) 235), .ref ((adB base) 236), .ref ((adB base) 237), .ref ((adB base) 238), .null, .int (0), .null, .int (0), .null, .int (0)])) (show (236 : Nat) ≠ 224 by first | decide | assumption | omega)).trans hh224
  rw [← e_mem226] at hh238
  have hh239 := (va_up_ne mem211 (.inr (7, [.int (0), .int (0), .ref ((adB base) 225), .int ((-1)), .int (0), .ref ((adB base) 226), .ref ((adB base) 227), .int (0), .ref ((adB base) 228), .ref ((adB base) 229), .ref ((adB base) 230), .ref ((adB base) 231), .ref ((adB base) 232), .ref ((adB base) 233), .int (0), .ref ((adB base) 234), .int (0), .int (0), .int (0), .ref ((adB base) 235), .ref ((adB base) 236), .ref ((adB base) 237), .ref ((adB base) 238), .null, .int (0), .null, .int (0), .null, .int (0)])) (show (237 : Nat) ≠ 224 by first | decide | assumption | omega)).trans hh225
  rw [← e_mem226] at hh239
  have hh240 := (va_up_ne mem211 (.inr (7, [.int (0), .int (0), .ref ((adB base) 225), .int ((-1)), .int (0), .ref ((adB base) 226), .ref ((adB base) 227), .int (0), .ref ((adB base) 228), .ref ((adB base) 229), .ref ((adB base) 230), .ref ((adB base) 231), .ref ((adB base) 232), .ref ((adB base) 233), .int (0), .ref ((adB base) 234), .int (0), .int (0), .int (0), .ref ((adB base) 235), .ref ((adB base) 236), .ref ((adB base) 237), .ref ((adB base) 238), .null, .int (0), .null, .int (0), .null, .int (0)])) (show (238 : Nat) ≠ 224 by first | decide | assumption | omega)).trans h_mem211
  rw [← e_mem226] at hh240
  refine lv_aload_n Bx.1 Bx.2.1 d_Mo_init_123 rfl (lv_at hl 0 rfl) ?_
  refine lv_bipush (v := 8) Bx.1 Bx.2.1 d_Mo_init_124 (by decide) ?_
  refine c_size (n := 239) hP (by omega) (by omega) (fun hz => ?_)
  refine f_newa (atype := .int) (n := 239) (t0 := 1) (N' := 8) Bx hP hS hz kw_110 (Bx.2.2.2.2.2 1 _ rfl).2 (8, .inl (fun _ => 0)) (fun _ => rfl) (by decide) (by decide) (by decide) (Nat.le_of_ble_eq_true rfl) (Nat.le_of_ble_eq_true rfl) d_Mo_init_126 (fun H hP hS hz => ?_)
  obtain ⟨mem241, e_mem241⟩ : ∃ z, z = va_up mem226 (239) (.inl (cy 1, (8, .inl (fun _ => 0)))) := ⟨_, rfl⟩
  have hP : va_P D vcl (fw 240 (adB base) mem241) H := by rw [e_mem241]; exact hP
  have h_mem241 : mem241 (239) = .inl (cy 1, (8, .inl (fun _ => 0))) := by rw [e_mem241, va_up_self]
  have hh242 := (va_up_ne mem226 (.inl (cy 1, (8, .inl (fun _ => 0)))) (show (224 : Nat) ≠ 239 by first | decide | assumption | omega)).trans h_mem226
  rw [← e_mem241] at hh242
  have hh243 := (va_up_ne mem226 (.inl (cy 1, (8, .inl (fun _ => 0)))) (show (225 : Nat) ≠ 239 by first | decide | assumption | omega)).trans hh227
  rw [← e_mem241] at hh243
  have hh244 := (va_up_ne mem226 (.inl (cy 1, (8, .inl (fun _ => 0)))) (show (226 : Nat) ≠ 239 by first | decide | assumption | omega)).trans hh228
  rw [← e_mem241] at hh244
  have hh245 := (va_up_ne mem226 (.inl (cy 1, (8, .inl (fun _ => 0)))) (show (227 : Nat) ≠ 239 by first | decide | assumption | omega)).trans hh229
  rw [← e_mem241] at hh245
  have hh246 := (va_up_ne mem226 (.inl (cy 1, (8, .inl (fun _ => 0)))) (show (228 : Nat) ≠ 239 by first | decide | assumption | omega)).trans hh230
  rw [← e_mem241] at hh246
  have hh247 := (va_up_ne mem226 (.inl (cy 1, (8, .inl (fun _ => 0)))) (show (229 : Nat) ≠ 239 by first | decide | assumption | omega)).trans hh231
  rw [← e_mem241] at hh247
  have hh248 := (va_up_ne mem226 (.inl (cy 1, (8, .inl (fun _ => 0)))) (show (230 : Nat) ≠ 239 by first | decide | assumption | omega)).trans hh232
  rw [← e_mem241] at hh248
  have hh249 := (va_up_ne mem226 (.inl (cy 1, (8, .inl (fun _ => 0)))) (show (231 : Nat) ≠ 239 by first | decide | assumption | omega)).trans hh233
  rw [← e_mem241] at hh249
  have hh250 := (va_up_ne mem226 (.inl (cy 1, (8, .inl (fun _ => 0)))) (show (232 : Nat) ≠ 239 by first | decide | assumption | omega)).trans hh234
  rw [← e_mem241] at hh250
  have hh251 := (va_up_ne mem226 (.inl (cy 1, (8, .inl (fun _ => 0)))) (show (233 : Nat) ≠ 239 by first | decide | assumption | omega)).trans hh235
  rw [← e_mem241] at hh251
  have hh252 := (va_up_ne mem226 (.inl (cy 1, (8, .inl (fun _ => 0)))) (show (234 : Nat) ≠ 239 by first | decide | assumption | omega)).trans hh236
  rw [← e_mem241] at hh252
  have hh253 := (va_up_ne mem226 (.inl (cy 1, (8, .inl (fun _ => 0)))) (show (235 : Nat) ≠ 239 by first | decide | assumption | omega)).trans hh237
  rw [← e_mem241] at hh253
  have hh254 := (va_up_ne mem226 (.inl (cy 1, (8, .inl (fun _ => 0)))) (show (236 : Nat) ≠ 239 by first | decide | assumption | omega)).trans hh238
  rw [← e_mem241] at hh254
  have hh255 := (va_up_ne mem226 (.inl (cy 1, (8, .inl (fun _ => 0)))) (show (237 : Nat) ≠ 239 by first | decide | assumption | omega)).trans hh239
  rw [← e_mem241] at hh255
  have hh256 := (va_up_ne mem226 (.inl (cy 1, (8, .inl (fun _ => 0)))) (show (238 : Nat) ≠ 239 by first | decide | assumption | omega)).trans hh240
  rw [← e_mem241] at hh256
  refine f_putF Bx hin hP (adB_D hbz) hS (by omega) hh242 rfl inMo tyMo okMo nmMo 23 (by decide) kw_679 rfl rfl rfl rfl (Nat.le_of_ble_eq_true rfl) d_Mo_init_128 (fun H locs hP hS => ?_)
  obtain ⟨mem257, e_mem257⟩ : ∃ z, z = va_up mem241 (224) (.inr (7, [.int (0), .int (0), .ref ((adB base) 225), .int ((-1)), .int (0), .ref ((adB base) 226), .ref ((adB base) 227), .int (0), .ref ((adB base) 228), .ref ((adB base) 229), .ref ((adB base) 230), .ref ((adB base) 231), .ref ((adB base) 232), .ref ((adB base) 233), .int (0), .ref ((adB base) 234), .int (0), .int (0), .int (0), .ref ((adB base) 235), .ref ((adB base) 236), .ref ((adB base) 237), .ref ((adB base) 238), .ref ((adB base) 239), .int (0), .null, .int (0), .null, .int (0)])) := ⟨_, rfl⟩
  have hP : va_P D vcl (fw 240 (adB base) mem257) H := by rw [e_mem257]; exact hP
  have h_mem257 : mem257 (224) = .inr (7, [.int (0), .int (0), .ref ((adB base) 225), .int ((-1)), .int (0), .ref ((adB base) 226), .ref ((adB base) 227), .int (0), .ref ((adB base) 228), .ref ((adB base) 229), .ref ((adB base) 230), .ref ((adB base) 231), .ref ((adB base) 232), .ref ((adB base) 233), .int (0), .ref ((adB base) 234), .int (0), .int (0), .int (0), .ref ((adB base) 235), .ref ((adB base) 236), .ref ((adB base) 237), .ref ((adB base) 238), .ref ((adB base) 239), .int (0), .null, .int (0), .null, .int (0)]) := by rw [e_mem257, va_up_self]
  have hh258 := (va_up_ne mem241 (.inr (7, [.int (0), .int (0), .ref ((adB base) 225), .int ((-1)), .int (0), .ref ((adB base) 226), .ref ((adB base) 227), .int (0), .ref ((adB base) 228), .ref ((adB base) 229), .ref ((adB base) 230), .ref ((adB base) 231), .ref ((adB base) 232), .ref ((adB base) 233), .int (0), .ref ((adB base) 234), .int (0), .int (0), .int (0), .ref ((adB base) 235), .ref ((adB base) 236), .ref ((adB base) 237), .ref ((adB base) 238), .ref ((adB base) 239), .int (0), .null, .int (0), .null, .int (0)])) (show (225 : Nat) ≠ 224 by first | decide | assumption | omega)).trans hh243
  rw [← e_mem257] at hh258
  have hh259 := (va_up_ne mem241 (.inr (7, [.int (0), .int (0), .ref ((adB base) 225), .int ((-1)), .int (0), .ref ((adB base) 226), .ref ((adB base) 227), .int (0), .ref ((adB base) 228), .ref ((adB base) 229), .ref ((adB base) 230), .ref ((adB base) 231), .ref ((adB base) 232), .ref ((adB base) 233), .int (0), .ref ((adB base) 234), .int (0), .int (0), .int (0), .ref ((adB base) 235), .ref ((adB base) 236), .ref ((adB base) 237), .ref ((adB base) 238), .ref ((adB base) 239), .int (0), .null, .int (0), .null, .int (0)])) (show (226 : Nat) ≠ 224 by first | decide | assumption | omega)).trans hh244
  rw [← e_mem257] at hh259
  have hh260 := (va_up_ne mem241 (.inr (7, [.int (0), .int (0), .ref ((adB base) 225), .int ((-1)), .int (0), .ref ((adB base) 226), .ref ((adB base) 227), .int (0), .ref ((adB base) 228), .ref ((adB base) 229), .ref ((adB base) 230), .ref ((adB base) 231), .ref ((adB base) 232), .ref ((adB base) 233), .int (0), .ref ((adB base) 234), .int (0), .int (0), .int (0), .ref ((adB base) 235), .ref ((adB base) 236), .ref ((adB base) 237), .ref ((adB base) 238), .ref ((adB base) 239), .int (0), .null, .int (0), .null, .int (0)])) (show (227 : Nat) ≠ 224 by first | decide | assumption | omega)).trans hh245
  rw [← e_mem257] at hh260
  have hh261 := (va_up_ne mem241 (.inr (7, [.int (0), .int (0), .ref ((adB base) 225), .int ((-1)), .int (0), .ref ((adB base) 226), .ref ((adB base) 227), .int (0), .ref ((adB base) 228), .ref ((adB base) 229), .ref ((adB base) 230), .ref ((adB base) 231), .ref ((adB base) 232), .ref ((adB base) 233), .int (0), .ref ((adB base) 234), .int (0), .int (0), .int (0), .ref ((adB base) 235), .ref ((adB base) 236), .ref ((adB base) 237), .ref ((adB base) 238), .ref ((adB base) 239), .int (0), .null, .int (0), .null, .int (0)])) (show (228 : Nat) ≠ 224 by first | decide | assumption | omega)).trans hh246
  rw [← e_mem257] at hh261
  have hh262 := (va_up_ne mem241 (.inr (7, [.int (0), .int (0), .ref ((adB base) 225), .int ((-1)), .int (0), .ref ((adB base) 226), .ref ((adB base) 227), .int (0), .ref ((adB base) 228), .ref ((adB base) 229), .ref ((adB base) 230), .ref ((adB base) 231), .ref ((adB base) 232), .ref ((adB base) 233), .int (0), .ref ((adB base) 234), .int (0), .int (0), .int (0), .ref ((adB base) 235), .ref ((adB base) 236), .ref ((adB base) 237), .ref ((adB base) 238), .ref ((adB base) 239), .int (0), .null, .int (0), .null, .int (0)])) (show (229 : Nat) ≠ 224 by first | decide | assumption | omega)).trans hh247
  rw [← e_mem257] at hh262
  have hh263 := (va_up_ne mem241 (.inr (7, [.int (0), .int (0), .ref ((adB base) 225), .int ((-1)), .int (0), .ref ((adB base) 226), .ref ((adB base) 227), .int (0), .ref ((adB base) 228), .ref ((adB base) 229), .ref ((adB base) 230), .ref ((adB base) 231), .ref ((adB base) 232), .ref ((adB base) 233), .int (0), .ref ((adB base) 234), .int (0), .int (0), .int (0), .ref ((adB base) 235), .ref ((adB base) 236), .ref ((adB base) 237), .ref ((adB base) 238), .ref ((adB base) 239), .int (0), .null, .int (0), .null, .int (0)])) (show (230 : Nat) ≠ 224 by first | decide | assumption | omega)).trans hh248
  rw [← e_mem257] at hh263
  have hh264 := (va_up_ne mem241 (.inr (7, [.int (0), .int (0), .ref ((adB base) 225), .int ((-1)), .int (0), .ref ((adB base) 226), .ref ((adB base) 227), .int (0), .ref ((adB base) 228), .ref ((adB base) 229), .ref ((adB base) 230), .ref ((adB base) 231), .ref ((adB base) 232), .ref ((adB base) 233), .int (0), .ref ((adB base) 234), .int (0), .int (0), .int (0), .ref ((adB base) 235), .ref ((adB base) 236), .ref ((adB base) 237), .ref ((adB base) 238), .ref ((adB base) 239), .int (0), .null, .int (0), .null, .int (0)])) (show (231 : Nat) ≠ 224 by first | decide | assumption | omega)).trans hh249
  rw [← e_mem257] at hh264
  have hh265 := (va_up_ne mem241 (.inr (7, [.int (0), .int (0), .ref ((adB base) 225), .int ((-1)), .int (0), .ref ((adB base) 226), .ref ((adB base) 227), .int (0), .ref ((adB base) 228), .ref ((adB base) 229), .ref ((adB base) 230), .ref ((adB base) 231), .ref ((adB base) 232), .ref ((adB base) 233), .int (0), .ref ((adB base) 234), .int (0), .int (0), .int (0), .ref ((adB base) 235), .ref ((adB base) 236), .ref ((adB base) 237), .ref ((adB base) 238), .ref ((adB base) 239), .int (0), .null, .int (0), .null, .int (0)])) (show (232 : Nat) ≠ 224 by first | decide | assumption | omega)).trans hh250
  rw [← e_mem257] at hh265
  have hh266 := (va_up_ne mem241 (.inr (7, [.int (0), .int (0), .ref ((adB base) 225), .int ((-1)), .int (0), .ref ((adB base) 226), .ref ((adB base) 227), .int (0), .ref ((adB base) 228), .ref ((adB base) 229), .ref ((adB base) 230), .ref ((adB base) 231), .ref ((adB base) 232), .ref ((adB base) 233), .int (0), .ref ((adB base) 234), .int (0), .int (0), .int (0), .ref ((adB base) 235), .ref ((adB base) 236), .ref ((adB base) 237), .ref ((adB base) 238), .ref ((adB base) 239), .int (0), .null, .int (0), .null, .int (0)])) (show (233 : Nat) ≠ 224 by first | decide | assumption | omega)).trans hh251
  rw [← e_mem257] at hh266
  have hh267 := (va_up_ne mem241 (.inr (7, [.int (0), .int (0), .ref ((adB base) 225), .int ((-1)), .int (0), .ref ((adB base) 226), .ref ((adB base) 227), .int (0), .ref ((adB base) 228), .ref ((adB base) 229), .ref ((adB base) 230), .ref ((adB base) 231), .ref ((adB base) 232), .ref ((adB base) 233), .int (0), .ref ((adB base) 234), .int (0), .int (0), .int (0), .ref ((adB base) 235), .ref ((adB base) 236), .ref ((adB base) 237), .ref ((adB base) 238), .ref ((adB base) 239), .int (0), .null, .int (0), .null, .int (0)])) (show (234 : Nat) ≠ 224 by first | decide | assumption | omega)).trans hh252
  rw [← e_mem257] at hh267
  have hh268 := (va_up_ne mem241 (.inr (7, [.int (0), .int (0), .ref ((adB base) 225), .int ((-1)), .int (0), .ref ((adB base) 226), .ref ((adB base) 227), .int (0), .ref ((adB base) 228), .ref ((adB base) 229), .ref ((adB base) 230), .ref ((adB base) 231), .ref ((adB base) 232), .ref ((adB base) 233), .int (0), .ref ((adB base) 234), .int (0), .int (0), .int (0), .ref ((adB base) 235), .ref ((adB base) 236), .ref ((adB base) 237), .ref ((adB base) 238), .ref ((adB base) 239), .int (0), .null, .int (0), .null, .int (0)])) (show (235 : Nat) ≠ 224 by first | decide | assumption | omega)).trans hh253
  rw [← e_mem257] at hh268
  have hh269 := (va_up_ne mem241 (.inr (7, [.int (0), .int (0), .ref ((adB base) 225), .int ((-1)), .int (0), .ref ((adB base) 226), .ref ((adB base) 227), .int (0), .ref ((adB base) 228), .ref ((adB base) 229), .ref ((adB base) 230), .ref ((adB base) 231), .ref ((adB base) 232), .ref ((adB base) 233), .int (0), .ref ((adB base) 234), .int (0), .int (0), .int (0), .ref ((adB base) 235), .ref ((adB base) 236), .ref ((adB base) 237), .ref ((adB base) 238), .ref ((adB base) 239), .int (0), .null, .int (0), .null, .int (0)])) (show (236 : Nat) ≠ 224 by first | decide | assumption | omega)).trans hh254
  rw [← e_mem257] at hh269
  have hh270 := (va_up_ne mem241 (.inr (7, [.int (0), .int (0), .ref ((adB base) 225), .int ((-1)), .int (0), .ref ((adB base) 226), .ref ((adB base) 227), .int (0), .ref ((adB base) 228), .ref ((adB base) 229), .ref ((adB base) 230), .ref ((adB base) 231), .ref ((adB base) 232), .ref ((adB base) 233), .int (0), .ref ((adB base) 234), .int (0), .int (0), .int (0), .ref ((adB base) 235), .ref ((adB base) 236), .ref ((adB base) 237), .ref ((adB base) 238), .ref ((adB base) 239), .int (0), .null, .int (0), .null, .int (0)])) (show (237 : Nat) ≠ 224 by first | decide | assumption | omega)).trans hh255
  rw [← e_mem257] at hh270
  have hh271 := (va_up_ne mem241 (.inr (7, [.int (0), .int (0), .ref ((adB base) 225), .int ((-1)), .int (0), .ref ((adB base) 226), .ref ((adB base) 227), .int (0), .ref ((adB base) 228), .ref ((adB base) 229), .ref ((adB base) 230), .ref ((adB base) 231), .ref ((adB base) 232), .ref ((adB base) 233), .int (0), .ref ((adB base) 234), .int (0), .int (0), .int (0), .ref ((adB base) 235), .ref ((adB base) 236), .ref ((adB base) 237), .ref ((adB base) 238), .ref ((adB base) 239), .int (0), .null, .int (0), .null, .int (0)])) (show (238 : Nat) ≠ 224 by first | decide | assumption | omega)).trans hh256
  rw [← e_mem257] at hh271
  have hh272 := (va_up_ne mem241 (.inr (7, [.int (0), .int (0), .ref ((adB base) 225), .int ((-1)), .int (0), .ref ((adB base) 226), .ref ((adB base) 227), .int (0), .ref ((adB base) 228), .ref ((adB base) 229), .ref ((adB base) 230), .ref ((adB base) 231), .ref ((adB base) 232), .ref ((adB base) 233), .int (0), .ref ((adB base) 234), .int (0), .int (0), .int (0), .ref ((adB base) 235), .ref ((adB base) 236), .ref ((adB base) 237), .ref ((adB base) 238), .ref ((adB base) 239), .int (0), .null, .int (0), .null, .int (0)])) (show (239 : Nat) ≠ 224 by first | decide | assumption | omega)).trans h_mem241
  rw [← e_mem257] at hh272
  refine lv_aload_n Bx.1 Bx.2.1 d_Mo_init_131 rfl (lv_at hl 0 rfl) ?_
  refine lv_bipush (v := 24) Bx.1 Bx.2.1 d_Mo_init_132 (by decide) ?_
  refine c_size (n := 240) hP (by omega) (by omega) (fun hz => ?_)
  refine f_newa (atype := .int) (n := 240) (t0 := 1) (N' := 24) Bx hP hS hz kw_110 (Bx.2.2.2.2.2 1 _ rfl).2 (24, .inl (fun _ => 0)) (fun _ => rfl) (by decide) (by decide) (by decide) (Nat.le_of_ble_eq_true rfl) (Nat.le_of_ble_eq_true rfl) d_Mo_init_134 (fun H hP hS hz => ?_)
  obtain ⟨mem273, e_mem273⟩ : ∃ z, z = va_up mem257 (240) (.inl (cy 1, (24, .inl (fun _ => 0)))) := ⟨_, rfl⟩
  have hP : va_P D vcl (fw 241 (adB base) mem273) H := by rw [e_mem273]; exact hP
  have h_mem273 : mem273 (240) = .inl (cy 1, (24, .inl (fun _ => 0))) := by rw [e_mem273, va_up_self]
  have hh274 := (va_up_ne mem257 (.inl (cy 1, (24, .inl (fun _ => 0)))) (show (224 : Nat) ≠ 240 by first | decide | assumption | omega)).trans h_mem257
  rw [← e_mem273] at hh274
  have hh275 := (va_up_ne mem257 (.inl (cy 1, (24, .inl (fun _ => 0)))) (show (225 : Nat) ≠ 240 by first | decide | assumption | omega)).trans hh258
  rw [← e_mem273] at hh275
  have hh276 := (va_up_ne mem257 (.inl (cy 1, (24, .inl (fun _ => 0)))) (show (226 : Nat) ≠ 240 by first | decide | assumption | omega)).trans hh259
  rw [← e_mem273] at hh276
  have hh277 := (va_up_ne mem257 (.inl (cy 1, (24, .inl (fun _ => 0)))) (show (227 : Nat) ≠ 240 by first | decide | assumption | omega)).trans hh260
  rw [← e_mem273] at hh277
  have hh278 := (va_up_ne mem257 (.inl (cy 1, (24, .inl (fun _ => 0)))) (show (228 : Nat) ≠ 240 by first | decide | assumption | omega)).trans hh261
  rw [← e_mem273] at hh278
  have hh279 := (va_up_ne mem257 (.inl (cy 1, (24, .inl (fun _ => 0)))) (show (229 : Nat) ≠ 240 by first | decide | assumption | omega)).trans hh262
  rw [← e_mem273] at hh279
  have hh280 := (va_up_ne mem257 (.inl (cy 1, (24, .inl (fun _ => 0)))) (show (230 : Nat) ≠ 240 by first | decide | assumption | omega)).trans hh263
  rw [← e_mem273] at hh280
  have hh281 := (va_up_ne mem257 (.inl (cy 1, (24, .inl (fun _ => 0)))) (show (231 : Nat) ≠ 240 by first | decide | assumption | omega)).trans hh264
  rw [← e_mem273] at hh281
  have hh282 := (va_up_ne mem257 (.inl (cy 1, (24, .inl (fun _ => 0)))) (show (232 : Nat) ≠ 240 by first | decide | assumption | omega)).trans hh265
  rw [← e_mem273] at hh282
  have hh283 := (va_up_ne mem257 (.inl (cy 1, (24, .inl (fun _ => 0)))) (show (233 : Nat) ≠ 240 by first | decide | assumption | omega)).trans hh266
  rw [← e_mem273] at hh283
  have hh284 := (va_up_ne mem257 (.inl (cy 1, (24, .inl (fun _ => 0)))) (show (234 : Nat) ≠ 240 by first | decide | assumption | omega)).trans hh267
  rw [← e_mem273] at hh284
  have hh285 := (va_up_ne mem257 (.inl (cy 1, (24, .inl (fun _ => 0)))) (show (235 : Nat) ≠ 240 by first | decide | assumption | omega)).trans hh268
  rw [← e_mem273] at hh285
  have hh286 := (va_up_ne mem257 (.inl (cy 1, (24, .inl (fun _ => 0)))) (show (236 : Nat) ≠ 240 by first | decide | assumption | omega)).trans hh269
  rw [← e_mem273] at hh286
  have hh287 := (va_up_ne mem257 (.inl (cy 1, (24, .inl (fun _ => 0)))) (show (237 : Nat) ≠ 240 by first | decide | assumption | omega)).trans hh270
  rw [← e_mem273] at hh287
  have hh288 := (va_up_ne mem257 (.inl (cy 1, (24, .inl (fun _ => 0)))) (show (238 : Nat) ≠ 240 by first | decide | assumption | omega)).trans hh271
  rw [← e_mem273] at hh288
  have hh289 := (va_up_ne mem257 (.inl (cy 1, (24, .inl (fun _ => 0)))) (show (239 : Nat) ≠ 240 by first | decide | assumption | omega)).trans hh272
  rw [← e_mem273] at hh289
  refine f_putF Bx hin hP (adB_D hbz) hS (by omega) hh274 rfl inMo tyMo okMo nmMo 25 (by decide) kw_681 rfl rfl rfl rfl (Nat.le_of_ble_eq_true rfl) d_Mo_init_136 (fun H locs hP hS => ?_)
  obtain ⟨mem290, e_mem290⟩ : ∃ z, z = va_up mem273 (224) (.inr (7, [.int (0), .int (0), .ref ((adB base) 225), .int ((-1)), .int (0), .ref ((adB base) 226), .ref ((adB base) 227), .int (0), .ref ((adB base) 228), .ref ((adB base) 229), .ref ((adB base) 230), .ref ((adB base) 231), .ref ((adB base) 232), .ref ((adB base) 233), .int (0), .ref ((adB base) 234), .int (0), .int (0), .int (0), .ref ((adB base) 235), .ref ((adB base) 236), .ref ((adB base) 237), .ref ((adB base) 238), .ref ((adB base) 239), .int (0), .ref ((adB base) 240), .int (0), .null, .int (0)])) := ⟨_, rfl⟩
  have hP : va_P D vcl (fw 241 (adB base) mem290) H := by rw [e_mem290]; exact hP
  have h_mem290 : mem290 (224) = .inr (7, [.int (0), .int (0), .ref ((adB base) 225), .int ((-1)), .int (0), .ref ((adB base) 226), .ref ((adB base) 227), .int (0), .ref ((adB base) 228), .ref ((adB base) 229), .ref ((adB base) 230), .ref ((adB base) 231), .ref ((adB base) 232), .ref ((adB base) 233), .int (0), .ref ((adB base) 234), .int (0), .int (0), .int (0), .ref ((adB base) 235), .ref ((adB base) 236), .ref ((adB base) 237), .ref ((adB base) 238), .ref ((adB base) 239), .int (0), .ref ((adB base) 240), .int (0), .null, .int (0)]) := by rw [e_mem290, va_up_self]
  have hh291 := (va_up_ne mem273 (.inr (7, [.int (0), .int (0), .ref ((adB base) 225), .int ((-1)), .int (0), .ref ((adB base) 226), .ref ((adB base) 227), .int (0), .ref ((adB base) 228), .ref ((adB base) 229), .ref ((adB base) 230), .ref ((adB base) 231), .ref ((adB base) 232), .ref ((adB base) 233), .int (0), .ref ((adB base) 234), .int (0), .int (0), .int (0), .ref ((adB base) 235), .ref ((adB base) 236), .ref ((adB base) 237), .ref ((adB base) 238), .ref ((adB base) 239), .int (0), .ref ((adB base) 240), .int (0), .null, .int (0)])) (show (225 : Nat) ≠ 224 by first | decide | assumption | omega)).trans hh275
  rw [← e_mem290] at hh291
  have hh292 := (va_up_ne mem273 (.inr (7, [.int (0), .int (0), .ref ((adB base) 225), .int ((-1)), .int (0), .ref ((adB base) 226), .ref ((adB base) 227), .int (0), .ref ((adB base) 228), .ref ((adB base) 229), .ref ((adB base) 230), .ref ((adB base) 231), .ref ((adB base) 232), .ref ((adB base) 233), .int (0), .ref ((adB base) 234), .int (0), .int (0), .int (0), .ref ((adB base) 235), .ref ((adB base) 236), .ref ((adB base) 237), .ref ((adB base) 238), .ref ((adB base) 239), .int (0), .ref ((adB base) 240), .int (0), .null, .int (0)])) (show (226 : Nat) ≠ 224 by first | decide | assumption | omega)).trans hh276
  rw [← e_mem290] at hh292
  have hh293 := (va_up_ne mem273 (.inr (7, [.int (0), .int (0), .ref ((adB base) 225), .int ((-1)), .int (0), .ref ((adB base) 226), .ref ((adB base) 227), .int (0), .ref ((adB base) 228), .ref ((adB base) 229), .ref ((adB base) 230), .ref ((adB base) 231), .ref ((adB base) 232), .ref ((adB base) 233), .int (0), .ref ((adB base) 234), .int (0), .int (0), .int (0), .ref ((adB base) 235), .ref ((adB base) 236), .ref ((adB base) 237), .ref ((adB base) 238), .ref ((adB base) 239), .int (0), .ref ((adB base) 240), .int (0), .null, .int (0)])) (show (227 : Nat) ≠ 224 by first | decide | assumption | omega)).trans hh277
  rw [← e_mem290] at hh293
  have hh294 := (va_up_ne mem273 (.inr (7, [.int (0), .int (0), .ref ((adB base) 225), .int ((-1)), .int (0), .ref ((adB base) 226), .ref ((adB base) 227), .int (0), .ref ((adB base) 228), .ref ((adB base) 229), .ref ((adB base) 230), .ref ((adB base) 231), .ref ((adB base) 232), .ref ((adB base) 233), .int (0), .ref ((adB base) 234), .int (0), .int (0), .int (0), .ref ((adB base) 235), .ref ((adB base) 236), .ref ((adB base) 237), .ref ((adB base) 238), .ref ((adB base) 239), .int (0), .ref ((adB base) 240), .int (0), .null, .int (0)])) (show (228 : Nat) ≠ 224 by first | decide | assumption | omega)).trans hh278
  rw [← e_mem290] at hh294
  have hh295 := (va_up_ne mem273 (.inr (7, [.int (0), .int (0), .ref ((adB base) 225), .int ((-1)), .int (0), .ref ((adB base) 226), .ref ((adB base) 227), .int (0), .ref ((adB base) 228), .ref ((adB base) 229), .ref ((adB base) 230), .ref ((adB base) 231), .ref ((adB base) 232), .ref ((adB base) 233), .int (0), .ref ((adB base) 234), .int (0), .int (0), .int (0), .ref ((adB base) 235), .ref ((adB base) 236), .ref ((adB base) 237), .ref ((adB base) 238), .ref ((adB base) 239), .int (0), .ref ((adB base) 240), .int (0), .null, .int (0)])) (show (229 : Nat) ≠ 224 by first | decide | assumption | omega)).trans hh279
  rw [← e_mem290] at hh295
  have hh296 := (va_up_ne mem273 (.inr (7, [.int (0), .int (0), .ref ((adB base) 225), .int ((-1)), .int (0), .ref ((adB base) 226), .ref ((adB base) 227), .int (0), .ref ((adB base) 228), .ref ((adB base) 229), .ref ((adB base) 230), .ref ((adB base) 231), .ref ((adB base) 232), .ref ((adB base) 233), .int (0), .ref ((adB base) 234), .int (0), .int (0), .int (0), .ref ((adB base) 235), .ref ((adB base) 236), .ref ((adB base) 237), .ref ((adB base) 238), .ref ((adB base) 239), .int (0), .ref ((adB base) 240), .int (0), .null, .int (0)])) (show (230 : Nat) ≠ 224 by first | decide | assumption | omega)).trans hh280
  rw [← e_mem290] at hh296
  have hh297 := (va_up_ne mem273 (.inr (7, [.int (0), .int (0), .ref ((adB base) 225), .int ((-1)), .int (0), .ref ((adB base) 226), .ref ((adB base) 227), .int (0), .ref ((adB base) 228), .ref ((adB base) 229), .ref ((adB base) 230), .ref ((adB base) 231), .ref ((adB base) 232), .ref ((adB base) 233), .int (0), .ref ((adB base) 234), .int (0), .int (0), .int (0), .ref ((adB base) 235), .ref ((adB base) 236), .ref ((adB base) 237), .ref ((adB base) 238), .ref ((adB base) 239), .int (0), .ref ((adB base) 240), .int (0), .null, .int (0)])) (show (231 : Nat) ≠ 224 by first | decide | assumption | omega)).trans hh281
  rw [← e_mem290] at hh297
  have hh298 := (va_up_ne mem273 (.inr (7, [.int (0), .int (0), .ref ((adB base) 225), .int ((-1)), .int (0), .ref ((adB base) 226), .ref ((adB base) 227), .int (0), .ref ((adB base) 228), .ref ((adB base) 229), .ref ((adB base) 230), .ref ((adB base) 231), .ref ((adB base) 232), .ref ((adB base) 233), .int (0), .ref ((adB base) 234), .int (0), .int (0), .int (0), .ref ((adB base) 235), .ref ((adB base) 236), .ref ((adB base) 237), .ref ((adB base) 238), .ref ((adB base) 239), .int (0), .ref ((adB base) 240), .int (0), .null, .int (0)])) (show (232 : Nat) ≠ 224 by first | decide | assumption | omega)).trans hh282
  rw [← e_mem290] at hh298
  have hh299 := (va_up_ne mem273 (.inr (7, [.int (0), .int (0), .ref ((adB base) 225), .int ((-1)), .int (0), .ref ((adB base) 226), .ref ((adB base) 227), .int (0), .ref ((adB base) 228), .ref ((adB base) 229), .ref ((adB base) 230), .ref ((adB base) 231), .ref ((adB base) 232), .ref ((adB base) 233), .int (0), .ref ((adB base) 234), .int (0), .int (0), .int (0), .ref ((adB base) 235), .ref ((adB base) 236), .ref ((adB base) 237), .ref ((adB base) 238), .ref ((adB base) 239), .int (0), .ref ((adB base) 240), .int (0), .null, .int (0)])) (show (233 : Nat) ≠ 224 by first | decide | assumption | omega)).trans hh283
  rw [← e_mem290] at hh299
  have hh300 := (va_up_ne mem273 (.inr (7, [.int (0), .int (0), .ref ((adB base) 225), .int ((-1)), .int (0), .ref ((adB base) 226), .ref ((adB base) 227), .int (0), .ref ((adB base) 228), .ref ((adB base) 229), .ref ((adB base) 230), .ref ((adB base) 231), .ref ((adB base) 232), .ref ((adB base) 233), .int (0), .ref ((adB base) 234), .int (0), .int (0), .int (0), .ref ((adB base) 235), .ref ((adB base) 236), .ref ((adB base) 237), .ref ((adB base) 238), .ref ((adB base) 239), .int (0), .ref ((adB base) 240), .int (0), .null, .int (0)])) (show (234 : Nat) ≠ 224 by first | decide | assumption | omega)).trans hh284
  rw [← e_mem290] at hh300
  have hh301 := (va_up_ne mem273 (.inr (7, [.int (0), .int (0), .ref ((adB base) 225), .int ((-1)), .int (0), .ref ((adB base) 226), .ref ((adB base) 227), .int (0), .ref ((adB base) 228), .ref ((adB base) 229), .ref ((adB base) 230), .ref ((adB base) 231), .ref ((adB base) 232), .ref ((adB base) 233), .int (0), .ref ((adB base) 234), .int (0), .int (0), .int (0), .ref ((adB base) 235), .ref ((adB base) 236), .ref ((adB base) 237), .ref ((adB base) 238), .ref ((adB base) 239), .int (0), .ref ((adB base) 240), .int (0), .null, .int (0)])) (show (235 : Nat) ≠ 224 by first | decide | assumption | omega)).trans hh285
  rw [← e_mem290] at hh301
  have hh302 := (va_up_ne mem273 (.inr (7, [.int (0), .int (0), .ref ((adB base) 225), .int ((-1)), .int (0), .ref ((adB base) 226), .ref ((adB base) 227), .int (0), .ref ((adB base) 228), .ref ((adB base) 229), .ref ((adB base) 230), .ref ((adB base) 231), .ref ((adB base) 232), .ref ((adB base) 233), .int (0), .ref ((adB base) 234), .int (0), .int (0), .int (0), .ref ((adB base) 235), .ref ((adB base) 236), .ref ((adB base) 237), .ref ((adB base) 238), .ref ((adB base) 239), .int (0), .ref ((adB base) 240), .int (0), .null, .int (0)])) (show (236 : Nat) ≠ 224 by first | decide | assumption | omega)).trans hh286
  rw [← e_mem290] at hh302
  have hh303 := (va_up_ne mem273 (.inr (7, [.int (0), .int (0), .ref ((adB base) 225), .int ((-1)), .int (0), .ref ((adB base) 226), .ref ((adB base) 227), .int (0), .ref ((adB base) 228), .ref ((adB base) 229), .ref ((adB base) 230), .ref ((adB base) 231), .ref ((adB base) 232), .ref ((adB base) 233), .int (0), .ref ((adB base) 234), .int (0), .int (0), .int (0), .ref ((adB base) 235), .ref ((adB base) 236), .ref ((adB base) 237), .ref ((adB base) 238), .ref ((adB base) 239), .int (0), .ref ((adB base) 240), .int (0), .null, .int (0)])) (show (237 : Nat) ≠ 224 by first | decide | assumption | omega)).trans hh287
  rw [← e_mem290] at hh303
  have hh304 := (va_up_ne mem273 (.inr (7, [.int (0), .int (0), .ref ((adB base) 225), .int ((-1)), .int (0), .ref ((adB base) 226), .ref ((adB base) 227), .int (0), .ref ((adB base) 228), .ref ((adB base) 229), .ref ((adB base) 230), .ref ((adB base) 231), .ref ((adB base) 232), .ref ((adB base) 233), .int (0), .ref ((adB base) 234), .int (0), .int (0), .int (0), .ref ((adB base) 235), .ref ((adB base) 236), .ref ((adB base) 237), .ref ((adB base) 238), .ref ((adB base) 239), .int (0), .ref ((adB base) 240), .int (0), .null, .int (0)])) (show (238 : Nat) ≠ 224 by first | decide | assumption | omega)).trans hh288
  rw [← e_mem290] at hh304
  have hh305 := (va_up_ne mem273 (.inr (7, [.int (0), .int (0), .ref ((adB base) 225), .int ((-1)), .int (0), .ref ((adB base) 226), .ref ((adB base) 227), .int (0), .ref ((adB base) 228), .ref ((adB base) 229), .ref ((adB base) 230), .ref ((adB base) 231), .ref ((adB base) 232), .ref ((adB base) 233), .int (0), .ref ((adB base) 234), .int (0), .int (0), .int (0), .ref ((adB base) 235), .ref ((adB base) 236), .ref ((adB base) 237), .ref ((adB base) 238), .ref ((adB base) 239), .int (0), .ref ((adB base) 240), .int (0), .null, .int (0)])) (show (239 : Nat) ≠ 224 by first | decide | assumption | omega)).trans hh289
  rw [← e_mem290] at hh305
  have hh306 := (va_up_ne mem273 (.inr (7, [.int (0), .int (0), .ref ((adB base) 225), .int ((-1)), .int (0), .ref ((adB base) 226), .ref ((adB base) 227), .int (0), .ref ((adB base) 228), .ref ((adB base) 229), .ref ((adB base) 230), .ref ((adB base) 231), .ref ((adB base) 232), .ref ((adB base) 233), .int (0), .ref ((adB base) 234), .int (0), .int (0), .int (0), .ref ((adB base) 235), .ref ((adB base) 236), .ref ((adB base) 237), .ref ((adB base) 238), .ref ((adB base) 239), .int (0), .ref ((adB base) 240), .int (0), .null, .int (0)])) (show (240 : Nat) ≠ 224 by first | decide | assumption | omega)).trans h_mem273
  rw [← e_mem290] at hh306
  refine lv_aload_n Bx.1 Bx.2.1 d_Mo_init_139 rfl (lv_at hl 0 rfl) ?_
  refine lv_iconst (v := 1) Bx.1 Bx.2.1 d_Mo_init_140 (by decide) ?_
  refine f_put Bx hP (adB_D hbz) hS (by omega) h_mem290 rfl inMo tyMo okMo nmMo 26 (by decide) kw_682 rfl rfl rfl rfl (Nat.le_of_ble_eq_true rfl) d_Mo_init_141 (fun H locs hP hS => ?_)
  obtain ⟨mem307, e_mem307⟩ : ∃ z, z = va_up mem290 (224) (.inr (7, [.int (0), .int (0), .ref ((adB base) 225), .int ((-1)), .int (0), .ref ((adB base) 226), .ref ((adB base) 227), .int (0), .ref ((adB base) 228), .ref ((adB base) 229), .ref ((adB base) 230), .ref ((adB base) 231), .ref ((adB base) 232), .ref ((adB base) 233), .int (0), .ref ((adB base) 234), .int (0), .int (0), .int (0), .ref ((adB base) 235), .ref ((adB base) 236), .ref ((adB base) 237), .ref ((adB base) 238), .ref ((adB base) 239), .int (0), .ref ((adB base) 240), .int (1), .null, .int (0)])) := ⟨_, rfl⟩
  have hP : va_P D vcl (fw 241 (adB base) mem307) H := by rw [e_mem307]; exact hP
  have h_mem307 : mem307 (224) = .inr (7, [.int (0), .int (0), .ref ((adB base) 225), .int ((-1)), .int (0), .ref ((adB base) 226), .ref ((adB base) 227), .int (0), .ref ((adB base) 228), .ref ((adB base) 229), .ref ((adB base) 230), .ref ((adB base) 231), .ref ((adB base) 232), .ref ((adB base) 233), .int (0), .ref ((adB base) 234), .int (0), .int (0), .int (0), .ref ((adB base) 235), .ref ((adB base) 236), .ref ((adB base) 237), .ref ((adB base) 238), .ref ((adB base) 239), .int (0), .ref ((adB base) 240), .int (1), .null, .int (0)]) := by rw [e_mem307, va_up_self]
  have hh308 := (va_up_ne mem290 (.inr (7, [.int (0), .int (0), .ref ((adB base) 225), .int ((-1)), .int (0), .ref ((adB base) 226), .ref ((adB base) 227), .int (0), .ref ((adB base) 228), .ref ((adB base) 229), .ref ((adB base) 230), .ref ((adB base) 231), .ref ((adB base) 232), .ref ((adB base) 233), .int (0), .ref ((adB base) 234), .int (0), .int (0), .int (0), .ref ((adB base) 235), .ref ((adB base) 236), .ref ((adB base) 237), .ref ((adB base) 238), .ref ((adB base) 239), .int (0), .ref ((adB base) 240), .int (1), .null, .int (0)])) (show (225 : Nat) ≠ 224 by first | decide | assumption | omega)).trans hh291
  rw [← e_mem307] at hh308
  have hh309 := (va_up_ne mem290 (.inr (7, [.int (0), .int (0), .ref ((adB base) 225), .int ((-1)), .int (0), .ref ((adB base) 226), .ref ((adB base) 227), .int (0), .ref ((adB base) 228), .ref ((adB base) 229), .ref ((adB base) 230), .ref ((adB base) 231), .ref ((adB base) 232), .ref ((adB base) 233), .int (0), .ref ((adB base) 234), .int (0), .int (0), .int (0), .ref ((adB base) 235), .ref ((adB base) 236), .ref ((adB base) 237), .ref ((adB base) 238), .ref ((adB base) 239), .int (0), .ref ((adB base) 240), .int (1), .null, .int (0)])) (show (226 : Nat) ≠ 224 by first | decide | assumption | omega)).trans hh292
  rw [← e_mem307] at hh309
  have hh310 := (va_up_ne mem290 (.inr (7, [.int (0), .int (0), .ref ((adB base) 225), .int ((-1)), .int (0), .ref ((adB base) 226), .ref ((adB base) 227), .int (0), .ref ((adB base) 228), .ref ((adB base) 229), .ref ((adB base) 230), .ref ((adB base) 231), .ref ((adB base) 232), .ref ((adB base) 233), .int (0), .ref ((adB base) 234), .int (0), .int (0), .int (0), .ref ((adB base) 235), .ref ((adB base) 236), .ref ((adB base) 237), .ref ((adB base) 238), .ref ((adB base) 239), .int (0), .ref ((adB base) 240), .int (1), .null, .int (0)])) (show (227 : Nat) ≠ 224 by first | decide | assumption | omega)).trans hh293
  rw [← e_mem307] at hh310
  have hh311 := (va_up_ne mem290 (.inr (7, [.int (0), .int (0), .ref ((adB base) 225), .int ((-1)), .int (0), .ref ((adB base) 226), .ref ((adB base) 227), .int (0), .ref ((adB base) 228), .ref ((adB base) 229), .ref ((adB base) 230), .ref ((adB base) 231), .ref ((adB base) 232), .ref ((adB base) 233), .int (0), .ref ((adB base) 234), .int (0), .int (0), .int (0), .ref ((adB base) 235), .ref ((adB base) 236), .ref ((adB base) 237), .ref ((adB base) 238), .ref ((adB base) 239), .int (0), .ref ((adB base) 240), .int (1), .null, .int (0)])) (show (228 : Nat) ≠ 224 by first | decide | assumption | omega)).trans hh294
  rw [← e_mem307] at hh311
  have hh312 := (va_up_ne mem290 (.inr (7, [.int (0), .int (0), .ref ((adB base) 225), .int ((-1)), .int (0), .ref ((adB base) 226), .ref ((adB base) 227), .int (0), .ref ((adB base) 228), .ref ((adB base) 229), .ref ((adB base) 230), .ref ((adB base) 231), .ref ((adB base) 232), .ref ((adB base) 233), .int (0), .ref ((adB base) 234), .int (0), .int (0), .int (0), .ref ((adB base) 235), .ref ((adB base) 236), .ref ((adB base) 237), .ref ((adB base) 238), .ref ((adB base) 239), .int (0), .ref ((adB base) 240), .int (1), .null, .int (0)])) (show (229 : Nat) ≠ 224 by first | decide | assumption | omega)).trans hh295
  rw [← e_mem307] at hh312
  have hh313 := (va_up_ne mem290 (.inr (7, [.int (0), .int (0), .ref ((adB base) 225), .int ((-1)), .int (0), .ref ((adB base) 226), .ref ((adB base) 227), .int (0), .ref ((adB base) 228), .ref ((adB base) 229), .ref ((adB base) 230), .ref ((adB base) 231), .ref ((adB base) 232), .ref ((adB base) 233), .int (0), .ref ((adB base) 234), .int (0), .int (0), .int (0), .ref ((adB base) 235), .ref ((adB base) 236), .ref ((adB base) 237), .ref ((adB base) 238), .ref ((adB base) 239), .int (0), .ref ((adB base) 240), .int (1), .null, .int (0)])) (show (230 : Nat) ≠ 224 by first | decide | assumption | omega)).trans hh296
  rw [← e_mem307] at hh313
  have hh314 := (va_up_ne mem290 (.inr (7, [.int (0), .int (0), .ref ((adB base) 225), .int ((-1)), .int (0), .ref ((adB base) 226), .ref ((adB base) 227), .int (0), .ref ((adB base) 228), .ref ((adB base) 229), .ref ((adB base) 230), .ref ((adB base) 231), .ref ((adB base) 232), .ref ((adB base) 233), .int (0), .ref ((adB base) 234), .int (0), .int (0), .int (0), .ref ((adB base) 235), .ref ((adB base) 236), .ref ((adB base) 237), .ref ((adB base) 238), .ref ((adB base) 239), .int (0), .ref ((adB base) 240), .int (1), .null, .int (0)])) (show (231 : Nat) ≠ 224 by first | decide | assumption | omega)).trans hh297
  rw [← e_mem307] at hh314
  have hh315 := (va_up_ne mem290 (.inr (7, [.int (0), .int (0), .ref ((adB base) 225), .int ((-1)), .int (0), .ref ((adB base) 226), .ref ((adB base) 227), .int (0), .ref ((adB base) 228), .ref ((adB base) 229), .ref ((adB base) 230), .ref ((adB base) 231), .ref ((adB base) 232), .ref ((adB base) 233), .int (0), .ref ((adB base) 234), .int (0), .int (0), .int (0), .ref ((adB base) 235), .ref ((adB base) 236), .ref ((adB base) 237), .ref ((adB base) 238), .ref ((adB base) 239), .int (0), .ref ((adB base) 240), .int (1), .null, .int (0)])) (show (232 : Nat) ≠ 224 by first | decide | assumption | omega)).trans hh298
  rw [← e_mem307] at hh315
  have hh316 := (va_up_ne mem290 (.inr (7, [.int (0), .int (0), .ref ((adB base) 225), .int ((-1)), .int (0), .ref ((adB base) 226), .ref ((adB base) 227), .int (0), .ref ((adB base) 228), .ref ((adB base) 229), .ref ((adB base) 230), .ref ((adB base) 231), .ref ((adB base) 232), .ref ((adB base) 233), .int (0), .ref ((adB base) 234), .int (0), .int (0), .int (0), .ref ((adB base) 235), .ref ((adB base) 236), .ref ((adB base) 237), .ref ((adB base) 238), .ref ((adB base) 239), .int (0), .ref ((adB base) 240), .int (1), .null, .int (0)])) (show (233 : Nat) ≠ 224 by first | decide | assumption | omega)).trans hh299
  rw [← e_mem307] at hh316
  have hh317 := (va_up_ne mem290 (.inr (7, [.int (0), .int (0), .ref ((adB base) 225), .int ((-1)), .int (0), .ref ((adB base) 226), .ref ((adB base) 227), .int (0), .ref ((adB base) 228), .ref ((adB base) 229), .ref ((adB base) 230), .ref ((adB base) 231), .ref ((adB base) 232), .ref ((adB base) 233), .int (0), .ref ((adB base) 234), .int (0), .int (0), .int (0), .ref ((adB base) 235), .ref ((adB base) 236), .ref ((adB base) 237), .ref ((adB base) 238), .ref ((adB base) 239), .int (0), .ref ((adB base) 240), .int (1), .null, .int (0)])) (show (234 : Nat) ≠ 224 by first | decide | assumption | omega)).trans hh300
  rw [← e_mem307] at hh317
  have hh318 := (va_up_ne mem290 (.inr (7, [.int (0), .int (0), .ref ((adB base) 225), .int ((-1)), .int (0), .ref ((adB base) 226), .ref ((adB base) 227), .int (0), .ref ((adB base) 228), .ref ((adB base) 229), .ref ((adB base) 230), .ref ((adB base) 231), .ref ((adB base) 232), .ref ((adB base) 233), .int (0), .ref ((adB base) 234), .int (0), .int (0), .int (0), .ref ((adB base) 235), .ref ((adB base) 236), .ref ((adB base) 237), .ref ((adB base) 238), .ref ((adB base) 239), .int (0), .ref ((adB base) 240), .int (1), .null, .int (0)])) (show (235 : Nat) ≠ 224 by first | decide | assumption | omega)).trans hh301
  rw [← e_mem307] at hh318
  have hh319 := (va_up_ne mem290 (.inr (7, [.int (0), .int (0), .ref ((adB base) 225), .int ((-1)), .int (0), .ref ((adB base) 226), .ref ((adB base) 227), .int (0), .ref ((adB base) 228), .ref ((adB base) 229), .ref ((adB base) 230), .ref ((adB base) 231), .ref ((adB base) 232), .ref ((adB base) 233), .int (0), .ref ((adB base) 234), .int (0), .int (0), .int (0), .ref ((adB base) 235), .ref ((adB base) 236), .ref ((adB base) 237), .ref ((adB base) 238), .ref ((adB base) 239), .int (0), .ref ((adB base) 240), .int (1), .null, .int (0)])) (show (236 : Nat) ≠ 224 by first | decide | assumption | omega)).trans hh302
  rw [← e_mem307] at hh319
  have hh320 := (va_up_ne mem290 (.inr (7, [.int (0), .int (0), .ref ((adB base) 225), .int ((-1)), .int (0), .ref ((adB base) 226), .ref ((adB base) 227), .int (0), .ref ((adB base) 228), .ref ((adB base) 229), .ref ((adB base) 230), .ref ((adB base) 231), .ref ((adB base) 232), .ref ((adB base) 233), .int (0), .ref ((adB base) 234), .int (0), .int (0), .int (0), .ref ((adB base) 235), .ref ((adB base) 236), .ref ((adB base) 237), .ref ((adB base) 238), .ref ((adB base) 239), .int (0), .ref ((adB base) 240), .int (1), .null, .int (0)])) (show (237 : Nat) ≠ 224 by first | decide | assumption | omega)).trans hh303
  rw [← e_mem307] at hh320
  have hh321 := (va_up_ne mem290 (.inr (7, [.int (0), .int (0), .ref ((adB base) 225), .int ((-1)), .int (0), .ref ((adB base) 226), .ref ((adB base) 227), .int (0), .ref ((adB base) 228), .ref ((adB base) 229), .ref ((adB base) 230), .ref ((adB base) 231), .ref ((adB base) 232), .ref ((adB base) 233), .int (0), .ref ((adB base) 234), .int (0), .int (0), .int (0), .ref ((adB base) 235), .ref ((adB base) 236), .ref ((adB base) 237), .ref ((adB base) 238), .ref ((adB base) 239), .int (0), .ref ((adB base) 240), .int (1), .null, .int (0)])) (show (238 : Nat) ≠ 224 by first | decide | assumption | omega)).trans hh304
  rw [← e_mem307] at hh321
  have hh322 := (va_up_ne mem290 (.inr (7, [.int (0), .int (0), .ref ((adB base) 225), .int ((-1)), .int (0), .ref ((adB base) 226), .ref ((adB base) 227), .int (0), .ref ((adB base) 228), .ref ((adB base) 229), .ref ((adB base) 230), .ref ((adB base) 231), .ref ((adB base) 232), .ref ((adB base) 233), .int (0), .ref ((adB base) 234), .int (0), .int (0), .int (0), .ref ((adB base) 235), .ref ((adB base) 236), .ref ((adB base) 237), .ref ((adB base) 238), .ref ((adB base) 239), .int (0), .ref ((adB base) 240), .int (1), .null, .int (0)])) (show (239 : Nat) ≠ 224 by first | decide | assumption | omega)).trans hh305
  rw [← e_mem307] at hh322
  have hh323 := (va_up_ne mem290 (.inr (7, [.int (0), .int (0), .ref ((adB base) 225), .int ((-1)), .int (0), .ref ((adB base) 226), .ref ((adB base) 227), .int (0), .ref ((adB base) 228), .ref ((adB base) 229), .ref ((adB base) 230), .ref ((adB base) 231), .ref ((adB base) 232), .ref ((adB base) 233), .int (0), .ref ((adB base) 234), .int (0), .int (0), .int (0), .ref ((adB base) 235), .ref ((adB base) 236), .ref ((adB base) 237), .ref ((adB base) 238), .ref ((adB base) 239), .int (0), .ref ((adB base) 240), .int (1), .null, .int (0)])) (show (240 : Nat) ≠ 224 by first | decide | assumption | omega)).trans hh306
  rw [← e_mem307] at hh323
  refine lv_aload_n Bx.1 Bx.2.1 d_Mo_init_144 rfl (lv_at hl 0 rfl) ?_
  refine lv_sipush (v := 2500) Bx.1 Bx.2.1 d_Mo_init_145 (by decide) ?_
  refine c_size (n := 241) hP (by omega) (by omega) (fun hz => ?_)
  refine f_newa (atype := .int) (n := 241) (t0 := 1) (N' := 2500) Bx hP hS hz kw_110 (Bx.2.2.2.2.2 1 _ rfl).2 (2500, .inl (fun _ => 0)) (fun _ => rfl) (by decide) (by decide) (by decide) (Nat.le_of_ble_eq_true rfl) (Nat.le_of_ble_eq_true rfl) d_Mo_init_148 (fun H hP hS hz => ?_)
  obtain ⟨mem324, e_mem324⟩ : ∃ z, z = va_up mem307 (241) (.inl (cy 1, (2500, .inl (fun _ => 0)))) := ⟨_, rfl⟩
  have hP : va_P D vcl (fw 242 (adB base) mem324) H := by rw [e_mem324]; exact hP
  have h_mem324 : mem324 (241) = .inl (cy 1, (2500, .inl (fun _ => 0))) := by rw [e_mem324, va_up_self]
  have hh325 := (va_up_ne mem307 (.inl (cy 1, (2500, .inl (fun _ => 0)))) (show (224 : Nat) ≠ 241 by first | decide | assumption | omega)).trans h_mem307
  rw [← e_mem324] at hh325
  have hh326 := (va_up_ne mem307 (.inl (cy 1, (2500, .inl (fun _ => 0)))) (show (225 : Nat) ≠ 241 by first | decide | assumption | omega)).trans hh308
  rw [← e_mem324] at hh326
  have hh327 := (va_up_ne mem307 (.inl (cy 1, (2500, .inl (fun _ => 0)))) (show (226 : Nat) ≠ 241 by first | decide | assumption | omega)).trans hh309
  rw [← e_mem324] at hh327
  have hh328 := (va_up_ne mem307 (.inl (cy 1, (2500, .inl (fun _ => 0)))) (show (227 : Nat) ≠ 241 by first | decide | assumption | omega)).trans hh310
  rw [← e_mem324] at hh328
  have hh329 := (va_up_ne mem307 (.inl (cy 1, (2500, .inl (fun _ => 0)))) (show (228 : Nat) ≠ 241 by first | decide | assumption | omega)).trans hh311
  rw [← e_mem324] at hh329
  have hh330 := (va_up_ne mem307 (.inl (cy 1, (2500, .inl (fun _ => 0)))) (show (229 : Nat) ≠ 241 by first | decide | assumption | omega)).trans hh312
  rw [← e_mem324] at hh330
  have hh331 := (va_up_ne mem307 (.inl (cy 1, (2500, .inl (fun _ => 0)))) (show (230 : Nat) ≠ 241 by first | decide | assumption | omega)).trans hh313
  rw [← e_mem324] at hh331
  have hh332 := (va_up_ne mem307 (.inl (cy 1, (2500, .inl (fun _ => 0)))) (show (231 : Nat) ≠ 241 by first | decide | assumption | omega)).trans hh314
  rw [← e_mem324] at hh332
  have hh333 := (va_up_ne mem307 (.inl (cy 1, (2500, .inl (fun _ => 0)))) (show (232 : Nat) ≠ 241 by first | decide | assumption | omega)).trans hh315
  rw [← e_mem324] at hh333
  have hh334 := (va_up_ne mem307 (.inl (cy 1, (2500, .inl (fun _ => 0)))) (show (233 : Nat) ≠ 241 by first | decide | assumption | omega)).trans hh316
  rw [← e_mem324] at hh334
  have hh335 := (va_up_ne mem307 (.inl (cy 1, (2500, .inl (fun _ => 0)))) (show (234 : Nat) ≠ 241 by first | decide | assumption | omega)).trans hh317
  rw [← e_mem324] at hh335
  have hh336 := (va_up_ne mem307 (.inl (cy 1, (2500, .inl (fun _ => 0)))) (show (235 : Nat) ≠ 241 by first | decide | assumption | omega)).trans hh318
  rw [← e_mem324] at hh336
  have hh337 := (va_up_ne mem307 (.inl (cy 1, (2500, .inl (fun _ => 0)))) (show (236 : Nat) ≠ 241 by first | decide | assumption | omega)).trans hh319
  rw [← e_mem324] at hh337
  have hh338 := (va_up_ne mem307 (.inl (cy 1, (2500, .inl (fun _ => 0)))) (show (237 : Nat) ≠ 241 by first | decide | assumption | omega)).trans hh320
  rw [← e_mem324] at hh338
  have hh339 := (va_up_ne mem307 (.inl (cy 1, (2500, .inl (fun _ => 0)))) (show (238 : Nat) ≠ 241 by first | decide | assumption | omega)).trans hh321
  rw [← e_mem324] at hh339
  have hh340 := (va_up_ne mem307 (.inl (cy 1, (2500, .inl (fun _ => 0)))) (show (239 : Nat) ≠ 241 by first | decide | assumption | omega)).trans hh322
  rw [← e_mem324] at hh340
  have hh341 := (va_up_ne mem307 (.inl (cy 1, (2500, .inl (fun _ => 0)))) (show (240 : Nat) ≠ 241 by first | decide | assumption | omega)).trans hh323
  rw [← e_mem324] at hh341
  refine f_putF Bx hin hP (adB_D hbz) hS (by omega) hh325 rfl inMo tyMo okMo nmMo 27 (by decide) kw_683 rfl rfl rfl rfl (Nat.le_of_ble_eq_true rfl) d_Mo_init_150 (fun H locs hP hS => ?_)
  obtain ⟨mem342, e_mem342⟩ : ∃ z, z = va_up mem324 (224) (.inr (7, [.int (0), .int (0), .ref ((adB base) 225), .int ((-1)), .int (0), .ref ((adB base) 226), .ref ((adB base) 227), .int (0), .ref ((adB base) 228), .ref ((adB base) 229), .ref ((adB base) 230), .ref ((adB base) 231), .ref ((adB base) 232), .ref ((adB base) 233), .int (0), .ref ((adB base) 234), .int (0), .int (0), .int (0), .ref ((adB base) 235), .ref ((adB base) 236), .ref ((adB base) 237), .ref ((adB base) 238), .ref ((adB base) 239), .int (0), .ref ((adB base) 240), .int (1), .ref ((adB base) 241), .int (0)])) := ⟨_, rfl⟩
  have hP : va_P D vcl (fw 242 (adB base) mem342) H := by rw [e_mem342]; exact hP
  have h_mem342 : mem342 (224) = .inr (7, [.int (0), .int (0), .ref ((adB base) 225), .int ((-1)), .int (0), .ref ((adB base) 226), .ref ((adB base) 227), .int (0), .ref ((adB base) 228), .ref ((adB base) 229), .ref ((adB base) 230), .ref ((adB base) 231), .ref ((adB base) 232), .ref ((adB base) 233), .int (0), .ref ((adB base) 234), .int (0), .int (0), .int (0), .ref ((adB base) 235), .ref ((adB base) 236), .ref ((adB base) 237), .ref ((adB base) 238), .ref ((adB base) 239), .int (0), .ref ((adB base) 240), .int (1), .ref ((adB base) 241), .int (0)]) := by rw [e_mem342, va_up_self]
  have hh343 := (va_up_ne mem324 (.inr (7, [.int (0), .int (0), .ref ((adB base) 225), .int ((-1)), .int (0), .ref ((adB base) 226), .ref ((adB base) 227), .int (0), .ref ((adB base) 228), .ref ((adB base) 229), .ref ((adB base) 230), .ref ((adB base) 231), .ref ((adB base) 232), .ref ((adB base) 233), .int (0), .ref ((adB base) 234), .int (0), .int (0), .int (0), .ref ((adB base) 235), .ref ((adB base) 236), .ref ((adB base) 237), .ref ((adB base) 238), .ref ((adB base) 239), .int (0), .ref ((adB base) 240), .int (1), .ref ((adB base) 241), .int (0)])) (show (225 : Nat) ≠ 224 by first | decide | assumption | omega)).trans hh326
  rw [← e_mem342] at hh343
  have hh344 := (va_up_ne mem324 (.inr (7, [.int (0), .int (0), .ref ((adB base) 225), .int ((-1)), .int (0), .ref ((adB base) 226), .ref ((adB base) 227), .int (0), .ref ((adB base) 228), .ref ((adB base) 229), .ref ((adB base) 230), .ref ((adB base) 231), .ref ((adB base) 232), .ref ((adB base) 233), .int (0), .ref ((adB base) 234), .int (0), .int (0), .int (0), .ref ((adB base) 235), .ref ((adB base) 236), .ref ((adB base) 237), .ref ((adB base) 238), .ref ((adB base) 239), .int (0), .ref ((adB base) 240), .int (1), .ref ((adB base) 241), .int (0)])) (show (226 : Nat) ≠ 224 by first | decide | assumption | omega)).trans hh327
  rw [← e_mem342] at hh344
  have hh345 := (va_up_ne mem324 (.inr (7, [.int (0), .int (0), .ref ((adB base) 225), .int ((-1)), .int (0), .ref ((adB base) 226), .ref ((adB base) 227), .int (0), .ref ((adB base) 228), .ref ((adB base) 229), .ref ((adB base) 230), .ref ((adB base) 231), .ref ((adB base) 232), .ref ((adB base) 233), .int (0), .ref ((adB base) 234), .int (0), .int (0), .int (0), .ref ((adB base) 235), .ref ((adB base) 236), .ref ((adB base) 237), .ref ((adB base) 238), .ref ((adB base) 239), .int (0), .ref ((adB base) 240), .int (1), .ref ((adB base) 241), .int (0)])) (show (227 : Nat) ≠ 224 by first | decide | assumption | omega)).trans hh328
  rw [← e_mem342] at hh345
  have hh346 := (va_up_ne mem324 (.inr (7, [.int (0), .int (0), .ref ((adB base) 225), .int ((-1)), .int (0), .ref ((adB base) 226), .ref ((adB base) 227), .int (0), .ref ((adB base) 228), .ref ((adB base) 229), .ref ((adB base) 230), .ref ((adB base) 231), .ref ((adB base) 232), .ref ((adB base) 233), .int (0), .ref ((adB base) 234), .int (0), .int (0), .int (0), .ref ((adB base) 235), .ref ((adB base) 236), .ref ((adB base) 237), .ref ((adB base) 238), .ref ((adB base) 239), .int (0), .ref ((adB base) 240), .int (1), .ref ((adB base) 241), .int (0)])) (show (228 : Nat) ≠ 224 by first | decide | assumption | omega)).trans hh329
  rw [← e_mem342] at hh346
  have hh347 := (va_up_ne mem324 (.inr (7, [.int (0), .int (0), .ref ((adB base) 225), .int ((-1)), .int (0), .ref ((adB base) 226), .ref ((adB base) 227), .int (0), .ref ((adB base) 228), .ref ((adB base) 229), .ref ((adB base) 230), .ref ((adB base) 231), .ref ((adB base) 232), .ref ((adB base) 233), .int (0), .ref ((adB base) 234), .int (0), .int (0), .int (0), .ref ((adB base) 235), .ref ((adB base) 236), .ref ((adB base) 237), .ref ((adB base) 238), .ref ((adB base) 239), .int (0), .ref ((adB base) 240), .int (1), .ref ((adB base) 241), .int (0)])) (show (229 : Nat) ≠ 224 by first | decide | assumption | omega)).trans hh330
  rw [← e_mem342] at hh347
  have hh348 := (va_up_ne mem324 (.inr (7, [.int (0), .int (0), .ref ((adB base) 225), .int ((-1)), .int (0), .ref ((adB base) 226), .ref ((adB base) 227), .int (0), .ref ((adB base) 228), .ref ((adB base) 229), .ref ((adB base) 230), .ref ((adB base) 231), .ref ((adB base) 232), .ref ((adB base) 233), .int (0), .ref ((adB base) 234), .int (0), .int (0), .int (0), .ref ((adB base) 235), .ref ((adB base) 236), .ref ((adB base) 237), .ref ((adB base) 238), .ref ((adB base) 239), .int (0), .ref ((adB base) 240), .int (1), .ref ((adB base) 241), .int (0)])) (show (230 : Nat) ≠ 224 by first | decide | assumption | omega)).trans hh331
  rw [← e_mem342] at hh348
  have hh349 := (va_up_ne mem324 (.inr (7, [.int (0), .int (0), .ref ((adB base) 225), .int ((-1)), .int (0), .ref ((adB base) 226), .ref ((adB base) 227), .int (0), .ref ((adB base) 228), .ref ((adB base) 229), .ref ((adB base) 230), .ref ((adB base) 231), .ref ((adB base) 232), .ref ((adB base) 233), .int (0), .ref ((adB base) 234), .int (0), .int (0), .int (0), .ref ((adB base) 235), .ref ((adB base) 236), .ref ((adB base) 237), .ref ((adB base) 238), .ref ((adB base) 239), .int (0), .ref ((adB base) 240), .int (1), .ref ((adB base) 241), .int (0)])) (show (231 : Nat) ≠ 224 by first | decide | assumption | omega)).trans hh332
  rw [← e_mem342] at hh349
  have hh350 := (va_up_ne mem324 (.inr (7, [.int (0), .int (0), .ref ((adB base) 225), .int ((-1)), .int (0), .ref ((adB base) 226), .ref ((adB base) 227), .int (0), .ref ((adB base) 228), .ref ((adB base) 229), .ref ((adB base) 230), .ref ((adB base) 231), .ref ((adB base) 232), .ref ((adB base) 233), .int (0), .ref ((adB base) 234), .int (0), .int (0), .int (0), .ref ((adB base) 235), .ref ((adB base) 236), .ref ((adB base) 237), .ref ((adB base) 238), .ref ((adB base) 239), .int (0), .ref ((adB base) 240), .int (1), .ref ((adB base) 241), .int (0)])) (show (232 : Nat) ≠ 224 by first | decide | assumption | omega)).trans hh333
  rw [← e_mem342] at hh350
  have hh351 := (va_up_ne mem324 (.inr (7, [.int (0), .int (0), .ref ((adB base) 225), .int ((-1)), .int (0), .ref ((adB base) 226), .ref ((adB base) 227), .int (0), .ref ((adB base) 228), .ref ((adB base) 229), .ref ((adB base) 230), .ref ((adB base) 231), .ref ((adB base) 232), .ref ((adB base) 233), .int (0), .ref ((adB base) 234), .int (0), .int (0), .int (0), .ref ((adB base) 235), .ref ((adB base) 236), .ref ((adB base) 237), .ref ((adB base) 238), .ref ((adB base) 239), .int (0), .ref ((adB base) 240), .int (1), .ref ((adB base) 241), .int (0)])) (show (233 : Nat) ≠ 224 by first | decide | assumption | omega)).trans hh334
  rw [← e_mem342] at hh351
  have hh352 := (va_up_ne mem324 (.inr (7, [.int (0), .int (0), .ref ((adB base) 225), .int ((-1)), .int (0), .ref ((adB base) 226), .ref ((adB base) 227), .int (0), .ref ((adB base) 228), .ref ((adB base) 229), .ref ((adB base) 230), .ref ((adB base) 231), .ref ((adB base) 232), .ref ((adB base) 233), .int (0), .ref ((adB base) 234), .int (0), .int (0), .int (0), .ref ((adB base) 235), .ref ((adB base) 236), .ref ((adB base) 237), .ref ((adB base) 238), .ref ((adB base) 239), .int (0), .ref ((adB base) 240), .int (1), .ref ((adB base) 241), .int (0)])) (show (234 : Nat) ≠ 224 by first | decide | assumption | omega)).trans hh335
  rw [← e_mem342] at hh352
  have hh353 := (va_up_ne mem324 (.inr (7, [.int (0), .int (0), .ref ((adB base) 225), .int ((-1)), .int (0), .ref ((adB base) 226), .ref ((adB base) 227), .int (0), .ref ((adB base) 228), .ref ((adB base) 229), .ref ((adB base) 230), .ref ((adB base) 231), .ref ((adB base) 232), .ref ((adB base) 233), .int (0), .ref ((adB base) 234), .int (0), .int (0), .int (0), .ref ((adB base) 235), .ref ((adB base) 236), .ref ((adB base) 237), .ref ((adB base) 238), .ref ((adB base) 239), .int (0), .ref ((adB base) 240), .int (1), .ref ((adB base) 241), .int (0)])) (show (235 : Nat) ≠ 224 by first | decide | assumption | omega)).trans hh336
  rw [← e_mem342] at hh353
  have hh354 := (va_up_ne mem324 (.inr (7, [.int (0), .int (0), .ref ((adB base) 225), .int ((-1)), .int (0), .ref ((adB base) 226), .ref ((adB base) 227), .int (0), .ref ((adB base) 228), .ref ((adB base) 229), .ref ((adB base) 230), .ref ((adB base) 231), .ref ((adB base) 232), .ref ((adB base) 233), .int (0), .ref ((adB base) 234), .int (0), .int (0), .int (0), .ref ((adB base) 235), .ref ((adB base) 236), .ref ((adB base) 237), .ref ((adB base) 238), .ref ((adB base) 239), .int (0), .ref ((adB base) 240), .int (1), .ref ((adB base) 241), .int (0)])) (show (236 : Nat) ≠ 224 by first | decide | assumption | omega)).trans hh337
  rw [← e_mem342] at hh354
  have hh355 := (va_up_ne mem324 (.inr (7, [.int (0), .int (0), .ref ((adB base) 225), .int ((-1)), .int (0), .ref ((adB base) 226), .ref ((adB base) 227), .int (0), .ref ((adB base) 228), .ref ((adB base) 229), .ref ((adB base) 230), .ref ((adB base) 231), .ref ((adB base) 232), .ref ((adB base) 233), .int (0), .ref ((adB base) 234), .int (0), .int (0), .int (0), .ref ((adB base) 235), .ref ((adB base) 236), .ref ((adB base) 237), .ref ((adB base) 238), .ref ((adB base) 239), .int (0), .ref ((adB base) 240), .int (1), .ref ((adB base) 241), .int (0)])) (show (237 : Nat) ≠ 224 by first | decide | assumption | omega)).trans hh338
  rw [← e_mem342] at hh355
  have hh356 := (va_up_ne mem324 (.inr (7, [.int (0), .int (0), .ref ((adB base) 225), .int ((-1)), .int (0), .ref ((adB base) 226), .ref ((adB base) 227), .int (0), .ref ((adB base) 228), .ref ((adB base) 229), .ref ((adB base) 230), .ref ((adB base) 231), .ref ((adB base) 232), .ref ((adB base) 233), .int (0), .ref ((adB base) 234), .int (0), .int (0), .int (0), .ref ((adB base) 235), .ref ((adB base) 236), .ref ((adB base) 237), .ref ((adB base) 238), .ref ((adB base) 239), .int (0), .ref ((adB base) 240), .int (1), .ref ((adB base) 241), .int (0)])) (show (238 : Nat) ≠ 224 by first | decide | assumption | omega)).trans hh339
  rw [← e_mem342] at hh356
  have hh357 := (va_up_ne mem324 (.inr (7, [.int (0), .int (0), .ref ((adB base) 225), .int ((-1)), .int (0), .ref ((adB base) 226), .ref ((adB base) 227), .int (0), .ref ((adB base) 228), .ref ((adB base) 229), .ref ((adB base) 230), .ref ((adB base) 231), .ref ((adB base) 232), .ref ((adB base) 233), .int (0), .ref ((adB base) 234), .int (0), .int (0), .int (0), .ref ((adB base) 235), .ref ((adB base) 236), .ref ((adB base) 237), .ref ((adB base) 238), .ref ((adB base) 239), .int (0), .ref ((adB base) 240), .int (1), .ref ((adB base) 241), .int (0)])) (show (239 : Nat) ≠ 224 by first | decide | assumption | omega)).trans hh340
  rw [← e_mem342] at hh357
  have hh358 := (va_up_ne mem324 (.inr (7, [.int (0), .int (0), .ref ((adB base) 225), .int ((-1)), .int (0), .ref ((adB base) 226), .ref ((adB base) 227), .int (0), .ref ((adB base) 228), .ref ((adB base) 229), .ref ((adB base) 230), .ref ((adB base) 231), .ref ((adB base) 232), .ref ((adB base) 233), .int (0), .ref ((adB base) 234), .int (0), .int (0), .int (0), .ref ((adB base) 235), .ref ((adB base) 236), .ref ((adB base) 237), .ref ((adB base) 238), .ref ((adB base) 239), .int (0), .ref ((adB base) 240), .int (1), .ref ((adB base) 241), .int (0)])) (show (240 : Nat) ≠ 224 by first | decide | assumption | omega)).trans hh341
  rw [← e_mem342] at hh358
  have hh359 := (va_up_ne mem324 (.inr (7, [.int (0), .int (0), .ref ((adB base) 225), .int ((-1)), .int (0), .ref ((adB base) 226), .ref ((adB base) 227), .int (0), .ref ((adB base) 228), .ref ((adB base) 229), .ref ((adB base) 230), .ref ((adB base) 231), .ref ((adB base) 232), .ref ((adB base) 233), .int (0), .ref ((adB base) 234), .int (0), .int (0), .int (0), .ref ((adB base) 235), .ref ((adB base) 236), .ref ((adB base) 237), .ref ((adB base) 238), .ref ((adB base) 239), .int (0), .ref ((adB base) 240), .int (1), .ref ((adB base) 241), .int (0)])) (show (241 : Nat) ≠ 224 by first | decide | assumption | omega)).trans h_mem324
  rw [← e_mem342] at hh359
  have ne : ∀ i, i < 224 → mem342 i = mem i := fun i a => by rw [e_mem342, va_up_ne _ _ (by omega), e_mem324, va_up_ne _ _ (by omega), e_mem307, va_up_ne _ _ (by omega), e_mem290, va_up_ne _ _ (by omega), e_mem273, va_up_ne _ _ (by omega), e_mem257, va_up_ne _ _ (by omega), e_mem241, va_up_ne _ _ (by omega), e_mem226, va_up_ne _ _ (by omega), e_mem211, va_up_ne _ _ (by omega), e_mem197, va_up_ne _ _ (by omega), e_mem183, va_up_ne _ _ (by omega), e_mem170, va_up_ne _ _ (by omega), e_mem157, va_up_ne _ _ (by omega), e_mem145, va_up_ne _ _ (by omega), e_mem133, va_up_ne _ _ (by omega), e_mem122, va_up_ne _ _ (by omega), e_mem111, va_up_ne _ _ (by omega), e_mem101, va_up_ne _ _ (by omega), e_mem91, va_up_ne _ _ (by omega), e_mem82, va_up_ne _ _ (by omega), e_mem73, va_up_ne _ _ (by omega), e_mem65, va_up_ne _ _ (by omega), e_mem57, va_up_ne _ _ (by omega), e_mem50, va_up_ne _ _ (by omega), e_mem43, va_up_ne _ _ (by omega), e_mem37, va_up_ne _ _ (by omega), e_mem31, va_up_ne _ _ (by omega), e_mem26, va_up_ne _ _ (by omega), e_mem21, va_up_ne _ _ (by omega), e_mem17, va_up_ne _ _ (by omega), e_mem13, va_up_ne _ _ (by omega), e_mem10, va_up_ne _ _ (by omega), e_mem7, va_up_ne _ _ (by omega), e_mem5, va_up_ne _ _ (by omega), e_mem3, va_up_ne _ _ (by omega), e_mem1, va_up_ne _ _ (by omega)]
  refine c_size (n := 242) hP (by omega) (by omega) (fun hz => ?_)
  refine W.widen (k := 17) (n := 3828) (Nat.le_of_ble_eq_true rfl) (Nat.le_of_ble_eq_true rfl) ?_
  exact W.vret hx hb hr (fun t ht hW => ⟨⟨mem342, rfl, ⟨⟨h_mem342, hh343, hh344, hh345, hh346, hh347, hh348, hh349, hh350, hh351, hh352, hh353, hh354, hh355, hh356, hh357, hh358, hh359⟩, ne⟩, by rw [ht]; exact hP, by rw [ht]; exact hz⟩, hS.F ht⟩) hS.2.2 d_Mo_init_153
