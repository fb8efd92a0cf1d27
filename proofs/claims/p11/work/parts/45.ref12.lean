theorem d_Mo_chart_0 : decode c_Mo_chart 0 = .ok (.aload_n 0, 1) := by decide +kernel
theorem d_Mo_chart_1 : decode c_Mo_chart 1 = .ok (.getfield 64, 3) := by decide +kernel
theorem d_Mo_chart_4 : decode c_Mo_chart 4 = .ok (.ifCond .ne 4, 3) := by decide +kernel
theorem d_Mo_chart_7 : decode c_Mo_chart 7 = .ok (.return_, 1) := by decide +kernel
theorem d_Mo_chart_8 : decode c_Mo_chart 8 = .ok (.aload_n 0, 1) := by decide +kernel
theorem d_Mo_chart_9 : decode c_Mo_chart 9 = .ok (.iconst 0, 1) := by decide +kernel
theorem d_Mo_chart_10 : decode c_Mo_chart 10 = .ok (.putfield 64, 3) := by decide +kernel
theorem d_Mo_chart_13 : decode c_Mo_chart 13 = .ok (.iconst 0, 1) := by decide +kernel
theorem d_Mo_chart_14 : decode c_Mo_chart 14 = .ok (.istore_n 1, 1) := by decide +kernel
theorem d_Mo_chart_15 : decode c_Mo_chart 15 = .ok (.iload_n 1, 1) := by decide +kernel
theorem d_Mo_chart_16 : decode c_Mo_chart 16 = .ok (.bipush 25, 2) := by decide +kernel
theorem d_Mo_chart_18 : decode c_Mo_chart 18 = .ok (.aload_n 0, 1) := by decide +kernel
theorem d_Mo_chart_19 : decode c_Mo_chart 19 = .ok (.getfield 110, 3) := by decide +kernel
theorem d_Mo_chart_22 : decode c_Mo_chart 22 = .ok (.imul, 1) := by decide +kernel
theorem d_Mo_chart_23 : decode c_Mo_chart 23 = .ok (.if_icmp .ge 16, 3) := by decide +kernel
theorem d_Mo_chart_26 : decode c_Mo_chart 26 = .ok (.aload_n 0, 1) := by decide +kernel
theorem d_Mo_chart_27 : decode c_Mo_chart 27 = .ok (.getfield 68, 3) := by decide +kernel
theorem d_Mo_chart_30 : decode c_Mo_chart 30 = .ok (.iload_n 1, 1) := by decide +kernel
theorem d_Mo_chart_31 : decode c_Mo_chart 31 = .ok (.iconst 0, 1) := by decide +kernel
theorem d_Mo_chart_32 : decode c_Mo_chart 32 = .ok (.iastore, 1) := by decide +kernel
theorem d_Mo_chart_33 : decode c_Mo_chart 33 = .ok (.iinc 1 1, 3) := by decide +kernel
theorem d_Mo_chart_36 : decode c_Mo_chart 36 = .ok (.goto (-21), 3) := by decide +kernel
theorem d_Mo_chart_39 : decode c_Mo_chart 39 = .ok (.iconst 1, 1) := by decide +kernel
theorem d_Mo_chart_40 : decode c_Mo_chart 40 = .ok (.istore_n 1, 1) := by decide +kernel
theorem d_Mo_chart_41 : decode c_Mo_chart 41 = .ok (.iload_n 1, 1) := by decide +kernel
theorem d_Mo_chart_42 : decode c_Mo_chart 42 = .ok (.ifCond .eq 88, 3) := by decide +kernel
theorem d_Mo_chart_45 : decode c_Mo_chart 45 = .ok (.iconst 0, 1) := by decide +kernel
theorem d_Mo_chart_46 : decode c_Mo_chart 46 = .ok (.istore_n 1, 1) := by decide +kernel
theorem d_Mo_chart_47 : decode c_Mo_chart 47 = .ok (.aload_n 0, 1) := by decide +kernel
theorem d_Mo_chart_48 : decode c_Mo_chart 48 = .ok (.getfield 110, 3) := by decide +kernel
theorem d_Mo_chart_51 : decode c_Mo_chart 51 = .ok (.iconst 1, 1) := by decide +kernel
theorem d_Mo_chart_52 : decode c_Mo_chart 52 = .ok (.isub, 1) := by decide +kernel
theorem d_Mo_chart_53 : decode c_Mo_chart 53 = .ok (.istore_n 2, 1) := by decide +kernel
theorem d_Mo_chart_54 : decode c_Mo_chart 54 = .ok (.iload_n 2, 1) := by decide +kernel
theorem d_Mo_chart_55 : decode c_Mo_chart 55 = .ok (.ifCond .lt 72, 3) := by decide +kernel
theorem d_Mo_chart_58 : decode c_Mo_chart 58 = .ok (.iconst 0, 1) := by decide +kernel
theorem d_Mo_chart_59 : decode c_Mo_chart 59 = .ok (.istore_n 3, 1) := by decide +kernel
theorem d_Mo_chart_60 : decode c_Mo_chart 60 = .ok (.iload_n 3, 1) := by decide +kernel
theorem d_Mo_chart_61 : decode c_Mo_chart 61 = .ok (.aload_n 0, 1) := by decide +kernel
theorem d_Mo_chart_62 : decode c_Mo_chart 62 = .ok (.getfield 185, 3) := by decide +kernel
theorem d_Mo_chart_65 : decode c_Mo_chart 65 = .ok (.if_icmp .gt 56, 3) := by decide +kernel
theorem d_Mo_chart_68 : decode c_Mo_chart 68 = .ok (.aload_n 0, 1) := by decide +kernel
theorem d_Mo_chart_69 : decode c_Mo_chart 69 = .ok (.iload_n 2, 1) := by decide +kernel
theorem d_Mo_chart_70 : decode c_Mo_chart 70 = .ok (.iload_n 3, 1) := by decide +kernel
theorem d_Mo_chart_71 : decode c_Mo_chart 71 = .ok (.invokevirtual 198, 3) := by decide +kernel
theorem d_Mo_chart_74 : decode c_Mo_chart 74 = .ok (.istore 4, 2) := by decide +kernel
theorem d_Mo_chart_76 : decode c_Mo_chart 76 = .ok (.iload_n 1, 1) := by decide +kernel
theorem d_Mo_chart_77 : decode c_Mo_chart 77 = .ok (.ifCond .ne 19, 3) := by decide +kernel
theorem d_Mo_chart_80 : decode c_Mo_chart 80 = .ok (.iload 4, 2) := by decide +kernel
theorem d_Mo_chart_82 : decode c_Mo_chart 82 = .ok (.aload_n 0, 1) := by decide +kernel
theorem d_Mo_chart_83 : decode c_Mo_chart 83 = .ok (.getfield 68, 3) := by decide +kernel
theorem d_Mo_chart_86 : decode c_Mo_chart 86 = .ok (.bipush 25, 2) := by decide +kernel
theorem d_Mo_chart_88 : decode c_Mo_chart 88 = .ok (.iload_n 2, 1) := by decide +kernel
theorem d_Mo_chart_89 : decode c_Mo_chart 89 = .ok (.imul, 1) := by decide +kernel
theorem d_Mo_chart_90 : decode c_Mo_chart 90 = .ok (.iload_n 3, 1) := by decide +kernel
theorem d_Mo_chart_91 : decode c_Mo_chart 91 = .ok (.iadd, 1) := by decide +kernel
theorem d_Mo_chart_92 : decode c_Mo_chart 92 = .ok (.iaload, 1) := by decide +kernel
theorem d_Mo_chart_93 : decode c_Mo_chart 93 = .ok (.if_icmp .eq 7, 3) := by decide +kernel
theorem d_Mo_chart_96 : decode c_Mo_chart 96 = .ok (.iconst 1, 1) := by decide +kernel
theorem d_Mo_chart_97 : decode c_Mo_chart 97 = .ok (.goto 4, 3) := by decide +kernel
theorem d_Mo_chart_100 : decode c_Mo_chart 100 = .ok (.iconst 0, 1) := by decide +kernel
theorem d_Mo_chart_101 : decode c_Mo_chart 101 = .ok (.istore_n 1, 1) := by decide +kernel
theorem d_Mo_chart_102 : decode c_Mo_chart 102 = .ok (.aload_n 0, 1) := by decide +kernel
theorem d_Mo_chart_103 : decode c_Mo_chart 103 = .ok (.getfield 68, 3) := by decide +kernel
theorem d_Mo_chart_106 : decode c_Mo_chart 106 = .ok (.bipush 25, 2) := by decide +kernel
theorem d_Mo_chart_108 : decode c_Mo_chart 108 = .ok (.iload_n 2, 1) := by decide +kernel
theorem d_Mo_chart_109 : decode c_Mo_chart 109 = .ok (.imul, 1) := by decide +kernel
theorem d_Mo_chart_110 : decode c_Mo_chart 110 = .ok (.iload_n 3, 1) := by decide +kernel
theorem d_Mo_chart_111 : decode c_Mo_chart 111 = .ok (.iadd, 1) := by decide +kernel
theorem d_Mo_chart_112 : decode c_Mo_chart 112 = .ok (.iload 4, 2) := by decide +kernel
theorem d_Mo_chart_114 : decode c_Mo_chart 114 = .ok (.iastore, 1) := by decide +kernel
theorem d_Mo_chart_115 : decode c_Mo_chart 115 = .ok (.iinc 3 1, 3) := by decide +kernel
theorem d_Mo_chart_118 : decode c_Mo_chart 118 = .ok (.goto (-58), 3) := by decide +kernel
theorem d_Mo_chart_121 : decode c_Mo_chart 121 = .ok (.iinc 2 (-1), 3) := by decide +kernel
theorem d_Mo_chart_124 : decode c_Mo_chart 124 = .ok (.goto (-70), 3) := by decide +kernel
theorem d_Mo_chart_127 : decode c_Mo_chart 127 = .ok (.goto (-86), 3) := by decide +kernel
theorem d_Mo_chart_130 : decode c_Mo_chart 130 = .ok (.return_, 1) := by decide +kernel
theorem d_Mo_endsOf_0 : decode c_Mo_endsOf 0 = .ok (.aload_n 0, 1) := by decide +kernel
theorem d_Mo_endsOf_1 : decode c_Mo_endsOf 1 = .ok (.invokevirtual 201, 3) := by decide +kernel
theorem d_Mo_endsOf_4 : decode c_Mo_endsOf 4 = .ok (.aload_n 0, 1) := by decide +kernel
theorem d_Mo_endsOf_5 : decode c_Mo_endsOf 5 = .ok (.getfield 21, 3) := by decide +kernel
theorem d_Mo_endsOf_8 : decode c_Mo_endsOf 8 = .ok (.iload_n 1, 1) := by decide +kernel
theorem d_Mo_endsOf_9 : decode c_Mo_endsOf 9 = .ok (.iaload, 1) := by decide +kernel
theorem d_Mo_endsOf_10 : decode c_Mo_endsOf 10 = .ok (.ifCond .ge 7, 3) := by decide +kernel
theorem d_Mo_endsOf_13 : decode c_Mo_endsOf 13 = .ok (.iconst 0, 1) := by decide +kernel
theorem d_Mo_endsOf_14 : decode c_Mo_endsOf 14 = .ok (.goto 19, 3) := by decide +kernel
theorem d_Mo_endsOf_17 : decode c_Mo_endsOf 17 = .ok (.aload_n 0, 1) := by decide +kernel
theorem d_Mo_endsOf_18 : decode c_Mo_endsOf 18 = .ok (.getfield 68, 3) := by decide +kernel
theorem d_Mo_endsOf_21 : decode c_Mo_endsOf 21 = .ok (.bipush 25, 2) := by decide +kernel
theorem d_Mo_endsOf_23 : decode c_Mo_endsOf 23 = .ok (.aload_n 0, 1) := by decide +kernel
theorem d_Mo_endsOf_24 : decode c_Mo_endsOf 24 = .ok (.getfield 21, 3) := by decide +kernel
theorem d_Mo_endsOf_27 : decode c_Mo_endsOf 27 = .ok (.iload_n 1, 1) := by decide +kernel
theorem d_Mo_endsOf_28 : decode c_Mo_endsOf 28 = .ok (.iaload, 1) := by decide +kernel
theorem d_Mo_endsOf_29 : decode c_Mo_endsOf 29 = .ok (.imul, 1) := by decide +kernel
theorem d_Mo_endsOf_30 : decode c_Mo_endsOf 30 = .ok (.iload_n 2, 1) := by decide +kernel
theorem d_Mo_endsOf_31 : decode c_Mo_endsOf 31 = .ok (.iadd, 1) := by decide +kernel
theorem d_Mo_endsOf_32 : decode c_Mo_endsOf 32 = .ok (.iaload, 1) := by decide +kernel
theorem d_Mo_endsOf_33 : decode c_Mo_endsOf 33 = .ok (.ireturn, 1) := by decide +kernel
theorem Gd.congr {R E u : Nat} {A A' : Nat → Nat → Int32} (h : Gd R E u A) (e : ∀ j, j ≠ 241 → A' j = A j) : Gd R E u A' := by
  unfold Gd LK TP KD FU
  rw [e 227 (by decide), e 228 (by decide), e 229 (by decide), e 230 (by decide), e 232 (by decide), e 233 (by decide)]
  exact h
theorem mu_le {g : Nat → Int32} {q : Nat} {v : Int32} {n : Nat} (hq : q < n) (h : sub (g q) v) : mu (upd g q v) n ≤ mu g n := by
  by_cases e : v = g q
  · rw [e, upd_id]; exact Nat.le_refl _
  · exact Nat.le_of_lt (mu_lt hq h e)
set_option maxHeartbeats 4000000 in
set_option maxRecDepth 100000 in
theorem m_Mo_chart (l : Launch) {D : va_G} {cy : Nat → ClassId} {sz n : Nat} {ad : Nat → Nat} {mem : Nat → va_E} {J : Nat → Int32} {A : Nat → Nat → Int32} {nm : Nat → Int64} {m0 : Nat → va_E} {G R Ec u : Nat} (hn : 242 ≤ n) (hM : MW cy ad J A nm m0 mem) (h24 : J 24 = nI G) (hGb : G ≤ 24) (h7 : J 7 = nI Ec) (hEb : Ec ≤ 100) (hRb : R ≤ 12) (hub : u ≤ 240) (hGd : Gd R Ec u A) (hng : NoG m0) : MV l D cy sz n ad y_Mo_chart c_Mo_chart 5 ({ frames := 4, cells := 0, slots := 0, locals := 120 } : Room) mem [.ref (ad 224)] (fun mem' => ∃ J' A', MW cy ad J' A' nm m0 mem' ∧ (∀ i, i ≠ 26 → J' i = J i) ∧ ∀ j, j ≠ 241 → A' j = A j) := by
  refine Met.ofW (cc := c_Mo_chart) (maxL := 5) (ret := none) (by decide) rfl ?_
  intro p e s m args below meth c s₁ B hml hv
  obtain ⟨rfl, E, hP, hD⟩ := hv
  have hx := B.exec
  have hb := B.bytes
  have hr := B.returns
  have hlocks := B.notSynchronized
  have Bx : MB p s m [.ref (ad 224)].toArray c c_Mo_chart "AbnfChartModel" D cy := ⟨hx, hb, tb_all (atoms_spec B.pre) E.2.1, findClass_of_methodNamed B.named, E.1⟩
  have hS : va_S (Az sz) s.heap s.heap [] := va_S.rf
  have hl := lv_entry ([.ref (ad 224)]) (n := 5) (Nat.le_of_ble_eq_true rfl)
  rw [lg_entry_eq]
  generalize (lg_sl ([.ref (ad 224)]) ++ List.replicate (5 - (lg_sl ([.ref (ad 224)])).length) Slot.unset).toArray = ls at hl ⊢
  have hl : lv_has ls 5 [(0, .ref (ad 224))] := hl
  refine lv_aload_n Bx.1 Bx.2.1 d_Mo_chart_0 rfl (lv_at hl 0 rfl) ?_
  refine f_get Bx hP (by omega) hM.1 rfl inMo 26 (by decide) kw_682 rfl rfl d_Mo_chart_1 ?_
  refine lv_if_ne Bx.1 Bx.2.1 d_Mo_chart_4 rfl (fun hb1 => ?_) (fun hb1 => ?_)
  · refine lv_aload_n Bx.1 Bx.2.1 d_Mo_chart_8 rfl (lv_at hl 0 rfl) ?_
    refine lv_iconst (v := 0) Bx.1 Bx.2.1 d_Mo_chart_9 (by decide) ?_
    refine f_put Bx hP hD hS (by omega) hM.1 rfl inMo tyMo okMo nmMo 26 (by decide) kw_682 rfl rfl rfl rfl (Nat.le_of_ble_eq_true rfl) d_Mo_chart_10 (fun H locs hP hS => ?_)
    obtain ⟨J2, eJ2⟩ : ∃ z, z = va_up J 26 (0) := ⟨_, rfl⟩
    obtain ⟨mem3, e_mem3⟩ : ∃ z, z = va_up mem 224 (moC ad J2) := ⟨_, rfl⟩
    have hP : va_P D vcl (fw n ad mem3) H := by rw [e_mem3, eJ2]; exact hP
    have hD : va_D (Az sz) (fw n ad mem3) := fw_D hD
    have hW4 : MW cy ad J2 A nm m0 mem3 := by rw [e_mem3]; exact hM.upG hng
    have kk5 : J2 24 = nI G := by rw [eJ2]; exact h24
    have kk6 : J2 7 = nI Ec := by rw [eJ2]; exact h7
    have kk7 : J2 26 = 0 := by rw [eJ2, va_up_self]
    refine lv_iconst (v := 0) Bx.1 Bx.2.1 d_Mo_chart_13 (by decide) ?_
    refine lv_istore_n (lv' := [(1, .int (0)), (0, .ref (ad 224))]) Bx.1 Bx.2.1 d_Mo_chart_14 rfl hl (by decide) rfl (fun ls hl => ?_)
    have loop8 : ∀ (d9 : Nat) (mem8 : Nat → va_E) (A8 : Nat → Nat → Int32) (k : Nat) (ls : Array Slot) (H : Heap) (locs : List Loc), (25 * Ec - k < d9) → (MW cy ad J2 A8 nm m0 mem8) → (∀ j, j ≠ 241 → A8 j = A j) → (∀ q9, q9 < k → A8 241 q9 = 0) → (k ≤ 25 * Ec) → (va_P D vcl (fw n ad mem8) H) → (va_D (Az sz) (fw n ad mem8)) → (va_S (Az sz) s.heap H locs) → (lv_has ls 5 [(1, .int (nI k)), (0, .ref (ad 224))]) → W p l e (headSpec (Cond.code y_Mo_chart c_Mo_chart 5 none :: tg) ({ frames := 4, cells := 0, slots := 0, locals := 120 } : Room)).room s m [.ref (ad 224)].toArray below meth c H locs 0 0 (MQ below (va_Qv (fun mem' => ∃ J' A', MW cy ad J' A' nm m0 mem' ∧ (∀ i, i ≠ 26 → J' i = J i) ∧ ∀ j, j ≠ 241 → A' j = A j) (PP D n ad) (Az sz)) [.ref (ad 224)].toArray s 0 0 (Az sz)) (F0 m 15 ls []) := by
      intro d9
      induction d9 with
      | zero => intro mem8 A8 k ls H locs hmeas15; exact absurd hmeas15 (Nat.not_lt_zero _)
      | succ d9 ih14 =>
        intro mem8 A8 k ls H locs hmeas15 hz10 hz11 hz12 hz13 hP hD hS hl
        refine lv_iload_n Bx.1 Bx.2.1 d_Mo_chart_15 rfl (lv_at hl 0 rfl) ?_
        refine lv_bipush (v := 25) Bx.1 Bx.2.1 d_Mo_chart_16 (by decide) ?_
        refine lv_aload_n Bx.1 Bx.2.1 d_Mo_chart_18 rfl (lv_at hl 1 rfl) ?_
        refine f_get Bx hP (by omega) hz10.1 rfl inMo 7 (by decide) kw_663 rfl rfl d_Mo_chart_19 ?_
        rw [kk6]
        refine lv_imul Bx.1 Bx.2.1 d_Mo_chart_22 ?_
        rw [show 25 * nI Ec = nI (25 * Ec) from nI_mulR (25) (Ec)]
        refine lv_icmp_ge Bx.1 Bx.2.1 d_Mo_chart_23 rfl (fun hb16 => ?_) (fun hb16 => ?_)
        · have hN17 : 25 * Ec ≤ k := (nI_leI (by omega) (by omega)).mp (show nI (25 * Ec) ≤ nI (k) from hb16)
          refine lv_iconst (v := 1) Bx.1 Bx.2.1 d_Mo_chart_39 (by decide) ?_
          refine lv_istore_n (lv' := [(1, .int (1)), (0, .ref (ad 224))]) Bx.1 Bx.2.1 d_Mo_chart_40 rfl hl (by decide) rfl (fun ls hl => ?_)
          have hpf : Pfx A G Ec (A8 241) := fun p hp i hi => by rw [hz12 (25 * p + i) (by omega)]; exact sub.zero _
          have loop18 : ∀ (d19 : Nat) (mem9 : Nat → va_E) (A9 : Nat → Nat → Int32) (b : Nat) (ls : Array Slot) (H : Heap) (locs : List Loc), ((mu (A9 241) 2500 + b) < d19) → (MW cy ad J2 A9 nm m0 mem9) → (∀ j, j ≠ 241 → A9 j = A j) → (Pfx A G Ec (A9 241)) → (b ≤ 1) → (va_P D vcl (fw n ad mem9) H) → (va_D (Az sz) (fw n ad mem9)) → (va_S (Az sz) s.heap H locs) → (lv_has ls 5 [(1, .int (nI b)), (0, .ref (ad 224))]) → W p l e (headSpec (Cond.code y_Mo_chart c_Mo_chart 5 none :: tg) ({ frames := 4, cells := 0, slots := 0, locals := 120 } : Room)).room s m [.ref (ad 224)].toArray below meth c H locs 0 0 (MQ below (va_Qv (fun mem' => ∃ J' A', MW cy ad J' A' nm m0 mem' ∧ (∀ i, i ≠ 26 → J' i = J i) ∧ ∀ j, j ≠ 241 → A' j = A j) (PP D n ad) (Az sz)) [.ref (ad 224)].toArray s 0 0 (Az sz)) (F0 m 41 ls []) := by
            intro d19
            induction d19 with
            | zero => intro mem9 A9 b ls H locs hmeas25; exact absurd hmeas25 (Nat.not_lt_zero _)
            | succ d19 ih24 =>
              intro mem9 A9 b ls H locs hmeas25 hz20 hz21 hz22 hz23 hP hD hS hl
              refine lv_iload_n Bx.1 Bx.2.1 d_Mo_chart_41 rfl (lv_at hl 0 rfl) ?_
              refine lv_if_eq Bx.1 Bx.2.1 d_Mo_chart_42 rfl (fun hb26 => ?_) (fun hb26 => ?_)
              · have hN27 : b = 0 := (nI_eq (by omega) (by omega)).mp (show nI (b) = nI (0) from hb26)
                exact W.vret hx hb hr (fun t ht hW => ⟨⟨mem9, rfl, ⟨J2, A9, hz20, fun i hi => by rw [eJ2, va_up_ne _ _ hi], hz21⟩, by show va_P _ _ _ t.heap; rw [ht]; exact hP⟩, hS.F ht⟩) hS.2.2 d_Mo_chart_130
              · have hN28 : ¬ b = 0 := fun q9 => hb26 (show nI (b) = nI (0) from (nI_eq (by omega) (by omega)).mpr q9)
                refine lv_iconst (v := 0) Bx.1 Bx.2.1 d_Mo_chart_45 (by decide) ?_
                refine lv_istore_n (lv' := [(1, .int (0)), (0, .ref (ad 224))]) Bx.1 Bx.2.1 d_Mo_chart_46 rfl hl (by decide) rfl (fun ls hl => ?_)
                refine lv_aload_n Bx.1 Bx.2.1 d_Mo_chart_47 rfl (lv_at hl 1 rfl) ?_
                refine f_get Bx hP (by omega) hz20.1 rfl inMo 7 (by decide) kw_663 rfl rfl d_Mo_chart_48 ?_
                rw [kk6]
                refine lv_iconst (v := 1) Bx.1 Bx.2.1 d_Mo_chart_51 (by decide) ?_
                refine lv_isub Bx.1 Bx.2.1 d_Mo_chart_52 ?_
                refine lv_istore_n (lv' := [(2, .int (nI Ec - 1)), (1, .int (0)), (0, .ref (ad 224))]) Bx.1 Bx.2.1 d_Mo_chart_53 rfl hl (by decide) rfl (fun ls hl => ?_)
                have loop29 : ∀ (d30 : Nat) (mem10 : Nat → va_E) (A10 : Nat → Nat → Int32) (kk : Nat) (b2 : Nat) (ls : Array Slot) (H : Heap) (locs : List Loc), (kk < d30) → (MW cy ad J2 A10 nm m0 mem10) → (∀ j, j ≠ 241 → A10 j = A j) → (Pfx A G Ec (A10 241)) → (mu (A10 241) 2500 ≤ mu (A9 241) 2500 ∧ (b2 ≠ 0 → mu (A10 241) 2500 < mu (A9 241) 2500)) → (kk ≤ Ec ∧ b2 ≤ 1) → (va_P D vcl (fw n ad mem10) H) → (va_D (Az sz) (fw n ad mem10)) → (va_S (Az sz) s.heap H locs) → (lv_has ls 5 [(2, .int (nI kk + (-1))), (1, .int (nI b2)), (0, .ref (ad 224))]) → W p l e (headSpec (Cond.code y_Mo_chart c_Mo_chart 5 none :: tg) ({ frames := 4, cells := 0, slots := 0, locals := 120 } : Room)).room s m [.ref (ad 224)].toArray below meth c H locs 0 0 (MQ below (va_Qv (fun mem' => ∃ J' A', MW cy ad J' A' nm m0 mem' ∧ (∀ i, i ≠ 26 → J' i = J i) ∧ ∀ j, j ≠ 241 → A' j = A j) (PP D n ad) (Az sz)) [.ref (ad 224)].toArray s 0 0 (Az sz)) (F0 m 54 ls []) := by
                  intro d30
                  induction d30 with
                  | zero => intro mem10 A10 kk b2 ls H locs hmeas37; exact absurd hmeas37 (Nat.not_lt_zero _)
                  | succ d30 ih36 =>
                    intro mem10 A10 kk b2 ls H locs hmeas37 hz31 hz32 hz33 hz34 hz35 hP hD hS hl
                    refine lv_iload_n Bx.1 Bx.2.1 d_Mo_chart_54 rfl (lv_at hl 0 rfl) ?_
                    refine lv_if_lt Bx.1 Bx.2.1 d_Mo_chart_55 rfl (fun hb38 => ?_) (fun hb38 => ?_)
                    · refine lv_goto Bx.1 Bx.2.1 d_Mo_chart_127 rfl ?_
                      exact ih24 mem10 (A10) (b2) _ _ _ (by have := hmeas25; have := hz34; omega) (hz31) (hz32) (hz33) (by omega) hP hD hS (lv_sub hl [1, 2] rfl)
                    · obtain ⟨p1, rfl⟩ : ∃ j, kk = j + 1 := by
                        rcases kk with _ | j
                        · exact absurd (by rw [nI_0m1]; decide) hb38
                        · exact ⟨j, rfl⟩
                      rw [nI_m1] at hl
                      refine lv_iconst (v := 0) Bx.1 Bx.2.1 d_Mo_chart_58 (by decide) ?_
                      refine lv_istore_n (lv' := [(3, .int (0)), (2, .int (nI p1)), (1, .int (nI b2)), (0, .ref (ad 224))]) Bx.1 Bx.2.1 d_Mo_chart_59 rfl hl (by decide) rfl (fun ls hl => ?_)
                      have loop39 : ∀ (d40 : Nat) (mem11 : Nat → va_E) (A11 : Nat → Nat → Int32) (ii : Nat) (b3 : Nat) (ls : Array Slot) (H : Heap) (locs : List Loc), (G + 1 - ii < d40) → (MW cy ad J2 A11 nm m0 mem11) → (∀ j, j ≠ 241 → A11 j = A j) → (Pfx A G Ec (A11 241)) → (mu (A11 241) 2500 ≤ mu (A9 241) 2500 ∧ (b3 ≠ 0 → mu (A11 241) 2500 < mu (A9 241) 2500)) → (ii ≤ G + 1 ∧ b3 ≤ 1) → (va_P D vcl (fw n ad mem11) H) → (va_D (Az sz) (fw n ad mem11)) → (va_S (Az sz) s.heap H locs) → (lv_has ls 5 [(3, .int (nI ii)), (2, .int (nI p1)), (1, .int (nI b3)), (0, .ref (ad 224))]) → W p l e (headSpec (Cond.code y_Mo_chart c_Mo_chart 5 none :: tg) ({ frames := 4, cells := 0, slots := 0, locals := 120 } : Room)).room s m [.ref (ad 224)].toArray below meth c H locs 0 0 (MQ below (va_Qv (fun mem' => ∃ J' A', MW cy ad J' A' nm m0 mem' ∧ (∀ i, i ≠ 26 → J' i = J i) ∧ ∀ j, j ≠ 241 → A' j = A j) (PP D n ad) (Az sz)) [.ref (ad 224)].toArray s 0 0 (Az sz)) (F0 m 60 ls []) := by
                        intro d40
                        induction d40 with
                        | zero => intro mem11 A11 ii b3 ls H locs hmeas47; exact absurd hmeas47 (Nat.not_lt_zero _)
                        | succ d40 ih46 =>
                          intro mem11 A11 ii b3 ls H locs hmeas47 hz41 hz42 hz43 hz44 hz45 hP hD hS hl
                          refine lv_iload_n Bx.1 Bx.2.1 d_Mo_chart_60 rfl (lv_at hl 0 rfl) ?_
                          refine lv_aload_n Bx.1 Bx.2.1 d_Mo_chart_61 rfl (lv_at hl 3 rfl) ?_
                          refine f_get Bx hP (by omega) hz41.1 rfl inMo 24 (by decide) kw_680 rfl rfl d_Mo_chart_62 ?_
                          rw [kk5]
                          refine lv_icmp_gt Bx.1 Bx.2.1 d_Mo_chart_65 rfl (fun hb48 => ?_) (fun hb48 => ?_)
                          · have hN49 : G < ii := (nI_ltI (by omega) (by omega)).mp (show nI (G) < nI (ii) from hb48)
                            refine lv_iinc (lv' := [(2, .int ((nI p1 + (-1)))), (3, .int (nI ii)), (1, .int (nI b3)), (0, .ref (ad 224))]) Bx.1 Bx.2.1 d_Mo_chart_121 hl (k := 1) rfl rfl (by decide) rfl (fun ls hl => ?_)
                            refine lv_goto Bx.1 Bx.2.1 d_Mo_chart_124 rfl ?_
                            exact ih36 mem11 (A11) (p1) (b3) _ _ _ (by have := hmeas37; omega) (hz41) (hz42) (hz43) (hz44) (by omega) hP hD hS (lv_sub hl [0, 2, 3] rfl)
                          · have hN50 : ¬ G < ii := fun q9 => hb48 (show nI (G) < nI (ii) from (nI_ltI (by omega) (by omega)).mpr q9)
                            have hil : ii ≤ G := by omega
                            refine lv_aload_n Bx.1 Bx.2.1 d_Mo_chart_68 rfl (lv_at hl 3 rfl) ?_
                            refine lv_iload_n Bx.1 Bx.2.1 d_Mo_chart_69 rfl (lv_at hl 1 rfl) ?_
                            refine lv_iload_n Bx.1 Bx.2.1 d_Mo_chart_70 rfl (lv_at hl 0 rfl) ?_
                            refine f_callVi (na := 2) (As := [.int (nI p1), .int (nI ii)]) (rest := []) Bx hml E hP hD hS (by omega) hz41.1 rfl (m_Mo_fits l hn hz41 kk5 hGb hEb hRb hub (hGd.congr hz42) (p9 := p1) (i9 := ii) (by omega) hil) kw_886 kw_888 sel_Mo_fits kw_8 kw_889 (by decide +kernel) ⟨rfl, rfl⟩ ⟨Nat.le_of_ble_eq_true rfl, Nat.le_of_ble_eq_true rfl⟩ rfl hl.1 (Nat.le_of_ble_eq_true rfl) d_Mo_chart_71 ⟨Nat.le_of_ble_eq_true rfl, Nat.le_of_ble_eq_true rfl⟩ (fun r51 mem52 H locs hq hP hS => ?_)
                            have hD : va_D (Az sz) (fw n ad mem52) := fw_D hD
                            obtain ⟨hre, hq⟩ := hq
                            rw [hq] at hP hD
                            rw [fitF_congr hz42] at hre
                            subst hre
                            have hsb := hz43 p1 (by omega) ii hil
                            refine lv_istore (lv' := [(4, .int (fitF A G p1 ii (A11 241))), (3, .int (nI ii)), (2, .int (nI p1)), (1, .int (nI b3)), (0, .ref (ad 224))]) Bx.1 Bx.2.1 d_Mo_chart_74 hl (by decide) rfl (fun ls hl => ?_)
                            refine lv_iload_n Bx.1 Bx.2.1 d_Mo_chart_76 rfl (lv_at hl 3 rfl) ?_
                            refine lv_if_ne Bx.1 Bx.2.1 d_Mo_chart_77 rfl (fun hb53 => ?_) (fun hb53 => ?_)
                            · have hN54 : ¬ b3 = 0 := fun q9 => hb53 (show nI (b3) = nI (0) from (nI_eq (by omega) (by omega)).mpr q9)
                              refine lv_iconst (v := 1) Bx.1 Bx.2.1 d_Mo_chart_96 (by decide) ?_
                              refine lv_goto Bx.1 Bx.2.1 d_Mo_chart_97 rfl ?_
                              refine lv_istore_n (lv' := [(1, .int (1)), (4, .int (fitF A G p1 ii (A11 241))), (3, .int (nI ii)), (2, .int (nI p1)), (0, .ref (ad 224))]) Bx.1 Bx.2.1 d_Mo_chart_101 rfl hl (by decide) rfl (fun ls hl => ?_)
                              refine lv_aload_n Bx.1 Bx.2.1 d_Mo_chart_102 rfl (lv_at hl 4 rfl) ?_
                              refine f_get Bx hP (by omega) hz41.1 rfl inMo 27 (by decide) kw_683 rfl rfl d_Mo_chart_103 ?_
                              refine lv_bipush (v := 25) Bx.1 Bx.2.1 d_Mo_chart_106 (by decide) ?_
                              refine lv_iload_n Bx.1 Bx.2.1 d_Mo_chart_108 rfl (lv_at hl 3 rfl) ?_
                              refine lv_imul Bx.1 Bx.2.1 d_Mo_chart_109 ?_
                              rw [show 25 * nI p1 = nI (25 * p1) from nI_mulR (25) (p1)]
                              refine lv_iload_n Bx.1 Bx.2.1 d_Mo_chart_110 rfl (lv_at hl 2 rfl) ?_
                              refine lv_iadd Bx.1 Bx.2.1 d_Mo_chart_111 ?_
                              rw [show nI (25 * p1) + nI ii = nI (25 * p1 + ii) from nI_add (25 * p1) (ii)]
                              refine lv_iload Bx.1 Bx.2.1 d_Mo_chart_112 (lv_at hl 1 rfl) ?_
                              refine f_iast (x := fitF A G p1 ii (A11 241)) (i := nI (25 * p1 + ii)) Bx hP hD hS (by omega) (show mem11 241 = .inl (cy 1, 2500, .inl (A11 241)) from hz41.2.2.1 241 (by decide) (by decide) (by decide)) (vp_in_nI (n := 25 * p1 + ii) (by omega) (by decide)) d_Mo_chart_114 (fun H locs hP hS => ?_)
                              rw [nI_clamp (n := 25 * p1 + ii) (by omega)] at hP
                              obtain ⟨A55, eA55⟩ : ∃ z, z = va_up A11 241 (upd (A11 241) (25 * p1 + ii) (fitF A G p1 ii (A11 241))) := ⟨_, rfl⟩
                              obtain ⟨mem56, e_mem56⟩ : ∃ z, z = va_up mem11 241 (.inl (cy 1, 2500, .inl (upd (A11 241) (25 * p1 + ii) (fitF A G p1 ii (A11 241))))) := ⟨_, rfl⟩
                              have hP : va_P D vcl (fw n ad mem56) H := by rw [e_mem56]; exact hP
                              have hD : va_D (Az sz) (fw n ad mem56) := fw_D hD
                              have hW57 : MW cy ad J2 A55 nm m0 mem56 := by rw [e_mem56, eA55]; exact hz41.upA (j := 241) (by decide) (by decide) (by decide) (Or.inl (by decide))
                              refine lv_iinc (lv' := [(3, .int ((nI ii + (1)))), (1, .int (1)), (4, .int (fitF A G p1 ii (A11 241))), (2, .int (nI p1)), (0, .ref (ad 224))]) Bx.1 Bx.2.1 d_Mo_chart_115 hl (k := 2) rfl rfl (by decide) rfl (fun ls hl => ?_)
                              rw [show (nI ii + (1) : Int32) = nI (ii + 1) from nI_1 (ii)] at hl
                              refine lv_goto Bx.1 Bx.2.1 d_Mo_chart_118 rfl ?_
                              have hA12 : A55 241 = upd (A11 241) (25 * p1 + ii) (fitF A G p1 ii (A11 241)) := by rw [eA55, va_up_self]
                              have hml := mu_le (n := 2500) (by omega) hsb
                              exact ih46 mem56 (A55) (ii + 1) (1) _ _ _ (by have := hmeas47; omega) (hW57) (fun j hj => by rw [eA55, va_up_ne _ _ hj]; exact hz42 j hj) (by rw [hA12]; exact hz43.up hGb (by omega) hil) (by rw [hA12]; have := hz44; exact ⟨by omega, fun _ => by omega⟩) (⟨by omega, by omega⟩) hP hD hS (lv_sub hl [0, 3, 1, 4] rfl)
                            · have hN58 : b3 = 0 := (nI_eq (by omega) (by omega)).mp (show nI (b3) = nI (0) from hb53)
                              refine lv_iload Bx.1 Bx.2.1 d_Mo_chart_80 (lv_at hl 0 rfl) ?_
                              refine lv_aload_n Bx.1 Bx.2.1 d_Mo_chart_82 rfl (lv_at hl 4 rfl) ?_
                              refine f_get Bx hP (by omega) hz41.1 rfl inMo 27 (by decide) kw_683 rfl rfl d_Mo_chart_83 ?_
                              refine lv_bipush (v := 25) Bx.1 Bx.2.1 d_Mo_chart_86 (by decide) ?_
                              refine lv_iload_n Bx.1 Bx.2.1 d_Mo_chart_88 rfl (lv_at hl 2 rfl) ?_
                              refine lv_imul Bx.1 Bx.2.1 d_Mo_chart_89 ?_
                              rw [show 25 * nI p1 = nI (25 * p1) from nI_mulR (25) (p1)]
                              refine lv_iload_n Bx.1 Bx.2.1 d_Mo_chart_90 rfl (lv_at hl 1 rfl) ?_
                              refine lv_iadd Bx.1 Bx.2.1 d_Mo_chart_91 ?_
                              rw [show nI (25 * p1) + nI ii = nI (25 * p1 + ii) from nI_add (25 * p1) (ii)]
                              refine f_iald Bx hP (by omega) (show mem11 241 = .inl (cy 1, 2500, .inl (A11 241)) from hz41.2.2.1 241 (by decide) (by decide) (by decide)) (vp_in_nI (n := 25 * p1 + ii) (by omega) (by decide)) d_Mo_chart_92 ?_
                              rw [nI_clamp (n := 25 * p1 + ii) (by omega)]
                              refine lv_icmp_eq Bx.1 Bx.2.1 d_Mo_chart_93 rfl (fun hb59 => ?_) (fun hb59 => ?_)
                              · refine lv_iconst (v := 0) Bx.1 Bx.2.1 d_Mo_chart_100 (by decide) ?_
                                refine lv_istore_n (lv' := [(1, .int (0)), (4, .int (fitF A G p1 ii (A11 241))), (3, .int (nI ii)), (2, .int (nI p1)), (0, .ref (ad 224))]) Bx.1 Bx.2.1 d_Mo_chart_101 rfl hl (by decide) rfl (fun ls hl => ?_)
                                refine lv_aload_n Bx.1 Bx.2.1 d_Mo_chart_102 rfl (lv_at hl 4 rfl) ?_
                                refine f_get Bx hP (by omega) hz41.1 rfl inMo 27 (by decide) kw_683 rfl rfl d_Mo_chart_103 ?_
                                refine lv_bipush (v := 25) Bx.1 Bx.2.1 d_Mo_chart_106 (by decide) ?_
                                refine lv_iload_n Bx.1 Bx.2.1 d_Mo_chart_108 rfl (lv_at hl 3 rfl) ?_
                                refine lv_imul Bx.1 Bx.2.1 d_Mo_chart_109 ?_
                                rw [show 25 * nI p1 = nI (25 * p1) from nI_mulR (25) (p1)]
                                refine lv_iload_n Bx.1 Bx.2.1 d_Mo_chart_110 rfl (lv_at hl 2 rfl) ?_
                                refine lv_iadd Bx.1 Bx.2.1 d_Mo_chart_111 ?_
                                rw [show nI (25 * p1) + nI ii = nI (25 * p1 + ii) from nI_add (25 * p1) (ii)]
                                refine lv_iload Bx.1 Bx.2.1 d_Mo_chart_112 (lv_at hl 1 rfl) ?_
                                refine f_iast (x := fitF A G p1 ii (A11 241)) (i := nI (25 * p1 + ii)) Bx hP hD hS (by omega) (show mem11 241 = .inl (cy 1, 2500, .inl (A11 241)) from hz41.2.2.1 241 (by decide) (by decide) (by decide)) (vp_in_nI (n := 25 * p1 + ii) (by omega) (by decide)) d_Mo_chart_114 (fun H locs hP hS => ?_)
                                rw [nI_clamp (n := 25 * p1 + ii) (by omega)] at hP
                                obtain ⟨A60, eA60⟩ : ∃ z, z = va_up A11 241 (upd (A11 241) (25 * p1 + ii) (fitF A G p1 ii (A11 241))) := ⟨_, rfl⟩
                                obtain ⟨mem61, e_mem61⟩ : ∃ z, z = va_up mem11 241 (.inl (cy 1, 2500, .inl (upd (A11 241) (25 * p1 + ii) (fitF A G p1 ii (A11 241))))) := ⟨_, rfl⟩
                                have hP : va_P D vcl (fw n ad mem61) H := by rw [e_mem61]; exact hP
                                have hD : va_D (Az sz) (fw n ad mem61) := fw_D hD
                                have hW62 : MW cy ad J2 A60 nm m0 mem61 := by rw [e_mem61, eA60]; exact hz41.upA (j := 241) (by decide) (by decide) (by decide) (Or.inl (by decide))
                                refine lv_iinc (lv' := [(3, .int ((nI ii + (1)))), (1, .int (0)), (4, .int (fitF A G p1 ii (A11 241))), (2, .int (nI p1)), (0, .ref (ad 224))]) Bx.1 Bx.2.1 d_Mo_chart_115 hl (k := 2) rfl rfl (by decide) rfl (fun ls hl => ?_)
                                rw [show (nI ii + (1) : Int32) = nI (ii + 1) from nI_1 (ii)] at hl
                                refine lv_goto Bx.1 Bx.2.1 d_Mo_chart_118 rfl ?_
                                have hA12 : A60 241 = upd (A11 241) (25 * p1 + ii) (fitF A G p1 ii (A11 241)) := by rw [eA60, va_up_self]
                                have hml := mu_le (n := 2500) (by omega) hsb
                                exact ih46 mem61 (A60) (ii + 1) (0) _ _ _ (by have := hmeas47; omega) (hW62) (fun j hj => by rw [eA60, va_up_ne _ _ hj]; exact hz42 j hj) (by rw [hA12]; exact hz43.up hGb (by omega) hil) (by rw [hA12]; have := hz44; exact ⟨by omega, fun z => absurd rfl z⟩) (⟨by omega, by omega⟩) hP hD hS (lv_sub hl [0, 3, 1, 4] rfl)
                              · refine lv_iconst (v := 1) Bx.1 Bx.2.1 d_Mo_chart_96 (by decide) ?_
                                refine lv_goto Bx.1 Bx.2.1 d_Mo_chart_97 rfl ?_
                                refine lv_istore_n (lv' := [(1, .int (1)), (4, .int (fitF A G p1 ii (A11 241))), (3, .int (nI ii)), (2, .int (nI p1)), (0, .ref (ad 224))]) Bx.1 Bx.2.1 d_Mo_chart_101 rfl hl (by decide) rfl (fun ls hl => ?_)
                                refine lv_aload_n Bx.1 Bx.2.1 d_Mo_chart_102 rfl (lv_at hl 4 rfl) ?_
                                refine f_get Bx hP (by omega) hz41.1 rfl inMo 27 (by decide) kw_683 rfl rfl d_Mo_chart_103 ?_
                                refine lv_bipush (v := 25) Bx.1 Bx.2.1 d_Mo_chart_106 (by decide) ?_
                                refine lv_iload_n Bx.1 Bx.2.1 d_Mo_chart_108 rfl (lv_at hl 3 rfl) ?_
                                refine lv_imul Bx.1 Bx.2.1 d_Mo_chart_109 ?_
                                rw [show 25 * nI p1 = nI (25 * p1) from nI_mulR (25) (p1)]
                                refine lv_iload_n Bx.1 Bx.2.1 d_Mo_chart_110 rfl (lv_at hl 2 rfl) ?_
                                refine lv_iadd Bx.1 Bx.2.1 d_Mo_chart_111 ?_
                                rw [show nI (25 * p1) + nI ii = nI (25 * p1 + ii) from nI_add (25 * p1) (ii)]
                                refine lv_iload Bx.1 Bx.2.1 d_Mo_chart_112 (lv_at hl 1 rfl) ?_
                                refine f_iast (x := fitF A G p1 ii (A11 241)) (i := nI (25 * p1 + ii)) Bx hP hD hS (by omega) (show mem11 241 = .inl (cy 1, 2500, .inl (A11 241)) from hz41.2.2.1 241 (by decide) (by decide) (by decide)) (vp_in_nI (n := 25 * p1 + ii) (by omega) (by decide)) d_Mo_chart_114 (fun H locs hP hS => ?_)
                                rw [nI_clamp (n := 25 * p1 + ii) (by omega)] at hP
                                obtain ⟨A63, eA63⟩ : ∃ z, z = va_up A11 241 (upd (A11 241) (25 * p1 + ii) (fitF A G p1 ii (A11 241))) := ⟨_, rfl⟩
                                obtain ⟨mem64, e_mem64⟩ : ∃ z, z = va_up mem11 241 (.inl (cy 1, 2500, .inl (upd (A11 241) (25 * p1 + ii) (fitF A G p1 ii (A11 241))))) := ⟨_, rfl⟩
                                have hP : va_P D vcl (fw n ad mem64) H := by rw [e_mem64]; exact hP
                                have hD : va_D (Az sz) (fw n ad mem64) := fw_D hD
                                have hW65 : MW cy ad J2 A63 nm m0 mem64 := by rw [e_mem64, eA63]; exact hz41.upA (j := 241) (by decide) (by decide) (by decide) (Or.inl (by decide))
                                refine lv_iinc (lv' := [(3, .int ((nI ii + (1)))), (1, .int (1)), (4, .int (fitF A G p1 ii (A11 241))), (2, .int (nI p1)), (0, .ref (ad 224))]) Bx.1 Bx.2.1 d_Mo_chart_115 hl (k := 2) rfl rfl (by decide) rfl (fun ls hl => ?_)
                                rw [show (nI ii + (1) : Int32) = nI (ii + 1) from nI_1 (ii)] at hl
                                refine lv_goto Bx.1 Bx.2.1 d_Mo_chart_118 rfl ?_
                                have hA12 : A63 241 = upd (A11 241) (25 * p1 + ii) (fitF A G p1 ii (A11 241)) := by rw [eA63, va_up_self]
                                have hml := mu_le (n := 2500) (by omega) hsb
                                exact ih46 mem64 (A63) (ii + 1) (1) _ _ _ (by have := hmeas47; omega) (hW65) (fun j hj => by rw [eA63, va_up_ne _ _ hj]; exact hz42 j hj) (by rw [hA12]; exact hz43.up hGb (by omega) hil) (by rw [hA12]; have := hz44; have := mu_lt (n := 2500) (by omega) hsb hb59; exact ⟨by omega, fun _ => by omega⟩) (⟨by omega, by omega⟩) hP hD hS (lv_sub hl [0, 3, 1, 4] rfl)
                      exact loop39 _ mem10 (A10) (0) (b2) _ _ _ (Nat.lt_succ_self _) (hz31) (hz32) (hz33) (hz34) (⟨by omega, by omega⟩) hP hD hS (lv_sub hl [0, 1, 2, 3] rfl)
                exact loop29 _ mem9 (A9) (Ec) (0) _ _ _ (Nat.lt_succ_self _) (hz20) (hz21) (hz22) (⟨Nat.le_refl _, fun z => absurd rfl z⟩) (⟨Nat.le_refl _, by omega⟩) hP hD hS (by rw [← nI_sub1]; exact (lv_sub hl [0, 1, 2] rfl))
          exact loop18 _ mem8 (A8) (1) _ _ _ (Nat.lt_succ_self _) (hz10) (hz11) (hpf) (by omega) hP hD hS (lv_sub hl [0, 1] rfl)
        · have hN66 : ¬ 25 * Ec ≤ k := fun q9 => hb16 (show nI (25 * Ec) ≤ nI (k) from (nI_leI (by omega) (by omega)).mpr q9)
          refine lv_aload_n Bx.1 Bx.2.1 d_Mo_chart_26 rfl (lv_at hl 1 rfl) ?_
          refine f_get Bx hP (by omega) hz10.1 rfl inMo 27 (by decide) kw_683 rfl rfl d_Mo_chart_27 ?_
          refine lv_iload_n Bx.1 Bx.2.1 d_Mo_chart_30 rfl (lv_at hl 0 rfl) ?_
          refine lv_iconst (v := 0) Bx.1 Bx.2.1 d_Mo_chart_31 (by decide) ?_
          refine f_iast (x := 0) (i := nI (k)) Bx hP hD hS (by omega) (show mem8 241 = .inl (cy 1, 2500, .inl (A8 241)) from hz10.2.2.1 241 (by decide) (by decide) (by decide)) (vp_in_nI (n := k) (by omega) (by decide)) d_Mo_chart_32 (fun H locs hP hS => ?_)
          rw [nI_clamp (n := k) (by omega)] at hP
          obtain ⟨A67, eA67⟩ : ∃ z, z = va_up A8 241 (upd (A8 241) (k) (0)) := ⟨_, rfl⟩
          obtain ⟨mem68, e_mem68⟩ : ∃ z, z = va_up mem8 241 (.inl (cy 1, 2500, .inl (upd (A8 241) (k) (0)))) := ⟨_, rfl⟩
          have hP : va_P D vcl (fw n ad mem68) H := by rw [e_mem68]; exact hP
          have hD : va_D (Az sz) (fw n ad mem68) := fw_D hD
          have hW69 : MW cy ad J2 A67 nm m0 mem68 := by rw [e_mem68, eA67]; exact hz10.upA (j := 241) (by decide) (by decide) (by decide) (Or.inl (by decide))
          refine lv_iinc (lv' := [(1, .int ((nI k + (1)))), (0, .ref (ad 224))]) Bx.1 Bx.2.1 d_Mo_chart_33 hl (k := 0) rfl rfl (by decide) rfl (fun ls hl => ?_)
          rw [show (nI k + (1) : Int32) = nI (k + 1) from nI_1 (k)] at hl
          refine lv_goto Bx.1 Bx.2.1 d_Mo_chart_36 rfl ?_
          exact ih14 mem68 (A67) (k + 1) _ _ _ (by have := hmeas15; omega) (hW69) (fun j hj => by rw [eA67, va_up_ne _ _ hj]; exact hz11 j hj) (fun q9 hq9 => by
            rw [eA67, va_up_self]
            by_cases e9 : q9 = k
            · rw [e9, upd_self]
            · rw [upd_ne e9]; exact hz12 q9 (by omega)) (by omega) hP hD hS (lv_sub hl [0, 1] rfl)
    exact loop8 _ mem3 (A) (0) _ _ _ (Nat.lt_succ_self _) (hW4) (fun _ _ => rfl) (fun q9 hq9 => by omega) (by omega) hP hD hS (lv_sub hl [0, 1] rfl)
  · exact W.vret hx hb hr (fun t ht hW => ⟨⟨mem, rfl, ⟨J, A, hM, fun _ _ => rfl, fun _ _ => rfl⟩, by show va_P _ _ _ t.heap; rw [ht]; exact hP⟩, hS.F ht⟩) hS.2.2 d_Mo_chart_7
set_option maxHeartbeats 4000000 in
set_option maxRecDepth 100000 in
theorem m_Mo_endsOf (l : Launch) {D : va_G} {cy : Nat → ClassId} {sz n : Nat} {ad : Nat → Nat} {mem : Nat → va_E} {J : Nat → Int32} {A : Nat → Nat → Int32} {nm : Nat → Int64} {m0 : Nat → va_E} {G R Ec u r0 i9 : Nat} (hn : 242 ≤ n) (hM : MW cy ad J A nm m0 mem) (h24 : J 24 = nI G) (hGb : G ≤ 24) (h7 : J 7 = nI Ec) (hEb : Ec ≤ 100) (hRb : R ≤ 12) (hub : u ≤ 240) (hGd : Gd R Ec u A) (hng : NoG m0) (hr0 : r0 < R) (hi9 : i9 ≤ G) : MI l D cy sz n ad y_Mo_endsOf c_Mo_endsOf 3 (some .int) ({ frames := 5, cells := 0, slots := 0, locals := 150 } : Room) mem [.ref (ad 224), .int (nI r0), .int (nI i9)] (fun r mem' => ∃ J' A', MW cy ad J' A' nm m0 mem' ∧ (∀ i, i ≠ 26 → J' i = J i) ∧ ∀ j, j ≠ 241 → A' j = A j) := by
  refine Met.ofW (cc := c_Mo_endsOf) (maxL := 3) (ret := (some .int)) (by decide) rfl ?_
  intro p e s m args below meth c s₁ B hml hv
  obtain ⟨rfl, E, hP, hD⟩ := hv
  have hx := B.exec
  have hb := B.bytes
  have hr := B.returns
  have hlocks := B.notSynchronized
  have Bx : MB p s m [.ref (ad 224), .int (nI r0), .int (nI i9)].toArray c c_Mo_endsOf "AbnfChartModel" D cy := ⟨hx, hb, tb_all (atoms_spec B.pre) E.2.1, findClass_of_methodNamed B.named, E.1⟩
  have hS : va_S (Az sz) s.heap s.heap [] := va_S.rf
  have hl := lv_entry ([.ref (ad 224), .int (nI r0), .int (nI i9)]) (n := 3) (Nat.le_of_ble_eq_true rfl)
  rw [lg_entry_eq]
  generalize (lg_sl ([.ref (ad 224), .int (nI r0), .int (nI i9)]) ++ List.replicate (3 - (lg_sl ([.ref (ad 224), .int (nI r0), .int (nI i9)])).length) Slot.unset).toArray = ls at hl ⊢
  have hl : lv_has ls 3 [(0, .ref (ad 224)), (1, .int (nI r0)), (2, .int (nI i9))] := hl
  refine lv_aload_n Bx.1 Bx.2.1 d_Mo_endsOf_0 rfl (lv_at hl 0 rfl) ?_
  refine f_callVv (na := 0) (As := []) (rest := []) Bx hml E hP hD hS (by omega) hM.1 rfl (m_Mo_chart l hn hM h24 hGb h7 hEb hRb hub hGd hng) kw_882 kw_884 sel_Mo_chart kw_8 kw_885 (by decide +kernel) ⟨rfl, rfl⟩ ⟨Nat.le_of_ble_eq_true rfl, Nat.le_of_ble_eq_true rfl⟩ rfl hl.1 (Nat.le_of_ble_eq_true rfl) d_Mo_endsOf_1 ⟨Nat.le_of_ble_eq_true rfl, Nat.le_of_ble_eq_true rfl⟩ (fun mem2 H locs hq hP hS => ?_)
  have hD : va_D (Az sz) (fw n ad mem2) := fw_D hD
  obtain ⟨J2, A2, h2, hj2, ha2⟩ := hq
  have htp : cl Ec (A2 227 r0) := by rw [ha2 227 (by decide)]; exact hGd.2.1 r0 hr0
  refine lv_aload_n Bx.1 Bx.2.1 d_Mo_endsOf_4 rfl (lv_at hl 0 rfl) ?_
  refine f_get Bx hP (by omega) h2.1 rfl inMo 6 (by decide) kw_662 rfl rfl d_Mo_endsOf_5 ?_
  refine lv_iload_n Bx.1 Bx.2.1 d_Mo_endsOf_8 rfl (lv_at hl 1 rfl) ?_
  refine f_iald Bx hP (by omega) (show mem2 227 = .inl (cy 1, 12, .inl (A2 227)) from h2.2.2.1 227 (by decide) (by decide) (by decide)) (vp_in_nI (n := r0) (by omega) (by decide)) d_Mo_endsOf_9 ?_
  rw [nI_clamp (n := r0) (by omega)]
  rcases htp with htp | ⟨j, hj, htp⟩
  · rw [htp]
    refine lv_if_ge Bx.1 Bx.2.1 d_Mo_endsOf_10 rfl (fun hb3 => ?_) (fun hb3 => ?_)
    · exact absurd hb3 (by decide)
    · refine lv_iconst (v := 0) Bx.1 Bx.2.1 d_Mo_endsOf_13 (by decide) ?_
      refine lv_goto Bx.1 Bx.2.1 d_Mo_endsOf_14 rfl ?_
      exact W.iret (v := 0) hx hb hr (fun t ht hW => ⟨⟨0, mem2, rfl, ⟨J2, A2, h2, hj2, ha2⟩, by show va_P _ _ _ t.heap; rw [ht]; exact hP⟩, hS.F ht⟩) hS.2.2 d_Mo_endsOf_33
  · rw [htp]
    refine lv_if_ge Bx.1 Bx.2.1 d_Mo_endsOf_10 rfl (fun hb4 => ?_) (fun hb4 => ?_)
    · refine lv_aload_n Bx.1 Bx.2.1 d_Mo_endsOf_17 rfl (lv_at hl 0 rfl) ?_
      refine f_get Bx hP (by omega) h2.1 rfl inMo 27 (by decide) kw_683 rfl rfl d_Mo_endsOf_18 ?_
      refine lv_bipush (v := 25) Bx.1 Bx.2.1 d_Mo_endsOf_21 (by decide) ?_
      refine lv_aload_n Bx.1 Bx.2.1 d_Mo_endsOf_23 rfl (lv_at hl 0 rfl) ?_
      refine f_get Bx hP (by omega) h2.1 rfl inMo 6 (by decide) kw_662 rfl rfl d_Mo_endsOf_24 ?_
      refine lv_iload_n Bx.1 Bx.2.1 d_Mo_endsOf_27 rfl (lv_at hl 1 rfl) ?_
      refine f_iald Bx hP (by omega) (show mem2 227 = .inl (cy 1, 12, .inl (A2 227)) from h2.2.2.1 227 (by decide) (by decide) (by decide)) (vp_in_nI (n := r0) (by omega) (by decide)) d_Mo_endsOf_28 ?_
      rw [nI_clamp (n := r0) (by omega)]
      rw [htp]
      refine lv_imul Bx.1 Bx.2.1 d_Mo_endsOf_29 ?_
      rw [show 25 * nI j = nI (25 * j) from nI_mulR (25) (j)]
      refine lv_iload_n Bx.1 Bx.2.1 d_Mo_endsOf_30 rfl (lv_at hl 2 rfl) ?_
      refine lv_iadd Bx.1 Bx.2.1 d_Mo_endsOf_31 ?_
      rw [show nI (25 * j) + nI i9 = nI (25 * j + i9) from nI_add (25 * j) (i9)]
      refine f_iald Bx hP (by omega) (show mem2 241 = .inl (cy 1, 2500, .inl (A2 241)) from h2.2.2.1 241 (by decide) (by decide) (by decide)) (vp_in_nI (n := 25 * j + i9) (by omega) (by decide)) d_Mo_endsOf_32 ?_
      rw [nI_clamp (n := 25 * j + i9) (by omega)]
      exact W.iret (v := A2 241 (25 * j + i9)) hx hb hr (fun t ht hW => ⟨⟨A2 241 (25 * j + i9), mem2, rfl, ⟨J2, A2, h2, hj2, ha2⟩, by show va_P _ _ _ t.heap; rw [ht]; exact hP⟩, hS.F ht⟩) hS.2.2 d_Mo_endsOf_33
    · exact absurd hb4 (by first | exact nI_pos (by omega) | exact fun q9 => q9 (nI_pos' (by omega)))
