theorem d_Mo_within_0 : decode c_Mo_within 0 = .ok (.iload_n 0, 1) := by decide +kernel
theorem d_Mo_within_1 : decode c_Mo_within 1 = .ok (.iload_n 1, 1) := by decide +kernel
theorem d_Mo_within_2 : decode c_Mo_within 2 = .ok (.if_icmp .lt 12, 3) := by decide +kernel
theorem d_Mo_within_5 : decode c_Mo_within 5 = .ok (.iload_n 0, 1) := by decide +kernel
theorem d_Mo_within_6 : decode c_Mo_within 6 = .ok (.iload_n 2, 1) := by decide +kernel
theorem d_Mo_within_7 : decode c_Mo_within 7 = .ok (.if_icmp .gt 7, 3) := by decide +kernel
theorem d_Mo_within_10 : decode c_Mo_within 10 = .ok (.iconst 1, 1) := by decide +kernel
theorem d_Mo_within_11 : decode c_Mo_within 11 = .ok (.goto 4, 3) := by decide +kernel
theorem d_Mo_within_14 : decode c_Mo_within 14 = .ok (.iconst 0, 1) := by decide +kernel
theorem d_Mo_within_15 : decode c_Mo_within 15 = .ok (.ireturn, 1) := by decide +kernel
theorem d_Mo_thrown_0 : decode c_Mo_thrown 0 = .ok (.aload_n 0, 1) := by decide +kernel
theorem d_Mo_thrown_1 : decode c_Mo_thrown 1 = .ok (.getfield 71, 3) := by decide +kernel
theorem d_Mo_thrown_4 : decode c_Mo_thrown 4 = .ok (.ireturn, 1) := by decide +kernel
theorem d_Mo_fail_0 : decode c_Mo_fail 0 = .ok (.aload_n 0, 1) := by decide +kernel
theorem d_Mo_fail_1 : decode c_Mo_fail 1 = .ok (.iload_n 1, 1) := by decide +kernel
theorem d_Mo_fail_2 : decode c_Mo_fail 2 = .ok (.putfield 71, 3) := by decide +kernel
theorem d_Mo_fail_5 : decode c_Mo_fail 5 = .ok (.iconst 0, 1) := by decide +kernel
theorem d_Mo_fail_6 : decode c_Mo_fail 6 = .ok (.ireturn, 1) := by decide +kernel
theorem d_Mo_erase_0 : decode c_Mo_erase 0 = .ok (.aload_n 0, 1) := by decide +kernel
theorem d_Mo_erase_1 : decode c_Mo_erase 1 = .ok (.iconst 0, 1) := by decide +kernel
theorem d_Mo_erase_2 : decode c_Mo_erase 2 = .ok (.putfield 71, 3) := by decide +kernel
theorem d_Mo_erase_5 : decode c_Mo_erase 5 = .ok (.aload_n 0, 1) := by decide +kernel
theorem d_Mo_erase_6 : decode c_Mo_erase 6 = .ok (.getfield 84, 3) := by decide +kernel
theorem d_Mo_erase_9 : decode c_Mo_erase 9 = .ok (.istore_n 1, 1) := by decide +kernel
theorem d_Mo_erase_10 : decode c_Mo_erase 10 = .ok (.aload_n 0, 1) := by decide +kernel
theorem d_Mo_erase_11 : decode c_Mo_erase 11 = .ok (.iconst 0, 1) := by decide +kernel
theorem d_Mo_erase_12 : decode c_Mo_erase 12 = .ok (.putfield 84, 3) := by decide +kernel
theorem d_Mo_erase_15 : decode c_Mo_erase 15 = .ok (.iload_n 1, 1) := by decide +kernel
theorem d_Mo_erase_16 : decode c_Mo_erase 16 = .ok (.ireturn, 1) := by decide +kernel
theorem d_Mo_place_0 : decode c_Mo_place 0 = .ok (.aload_n 0, 1) := by decide +kernel
theorem d_Mo_place_1 : decode c_Mo_place 1 = .ok (.iconst 0, 1) := by decide +kernel
theorem d_Mo_place_2 : decode c_Mo_place 2 = .ok (.putfield 71, 3) := by decide +kernel
theorem d_Mo_place_5 : decode c_Mo_place 5 = .ok (.aload_n 0, 1) := by decide +kernel
theorem d_Mo_place_6 : decode c_Mo_place 6 = .ok (.getfield 13, 3) := by decide +kernel
theorem d_Mo_place_9 : decode c_Mo_place 9 = .ok (.ireturn, 1) := by decide +kernel
theorem d_Mo_drop_0 : decode c_Mo_drop 0 = .ok (.aload_n 0, 1) := by decide +kernel
theorem d_Mo_drop_1 : decode c_Mo_drop 1 = .ok (.iconst 0, 1) := by decide +kernel
theorem d_Mo_drop_2 : decode c_Mo_drop 2 = .ok (.putfield 71, 3) := by decide +kernel
theorem d_Mo_drop_5 : decode c_Mo_drop 5 = .ok (.aload_n 0, 1) := by decide +kernel
theorem d_Mo_drop_6 : decode c_Mo_drop 6 = .ok (.getfield 185, 3) := by decide +kernel
theorem d_Mo_drop_9 : decode c_Mo_drop 9 = .ok (.istore_n 1, 1) := by decide +kernel
theorem d_Mo_drop_10 : decode c_Mo_drop 10 = .ok (.aload_n 0, 1) := by decide +kernel
theorem d_Mo_drop_11 : decode c_Mo_drop 11 = .ok (.iconst 0, 1) := by decide +kernel
theorem d_Mo_drop_12 : decode c_Mo_drop 12 = .ok (.putfield 185, 3) := by decide +kernel
theorem d_Mo_drop_15 : decode c_Mo_drop 15 = .ok (.aload_n 0, 1) := by decide +kernel
theorem d_Mo_drop_16 : decode c_Mo_drop 16 = .ok (.iconst 1, 1) := by decide +kernel
theorem d_Mo_drop_17 : decode c_Mo_drop 17 = .ok (.putfield 64, 3) := by decide +kernel
theorem d_Mo_drop_20 : decode c_Mo_drop 20 = .ok (.iload_n 1, 1) := by decide +kernel
theorem d_Mo_drop_21 : decode c_Mo_drop 21 = .ok (.ireturn, 1) := by decide +kernel
theorem d_Mo_write_0 : decode c_Mo_write 0 = .ok (.aload_n 0, 1) := by decide +kernel
theorem d_Mo_write_1 : decode c_Mo_write 1 = .ok (.iconst 0, 1) := by decide +kernel
theorem d_Mo_write_2 : decode c_Mo_write 2 = .ok (.putfield 71, 3) := by decide +kernel
theorem d_Mo_write_5 : decode c_Mo_write 5 = .ok (.iload_n 3, 1) := by decide +kernel
theorem d_Mo_write_6 : decode c_Mo_write 6 = .ok (.iconst 1, 1) := by decide +kernel
theorem d_Mo_write_7 : decode c_Mo_write 7 = .ok (.bipush 8, 2) := by decide +kernel
theorem d_Mo_write_9 : decode c_Mo_write 9 = .ok (.invokestatic 74, 3) := by decide +kernel
theorem d_Mo_write_12 : decode c_Mo_write 12 = .ok (.ifCond .ne 9, 3) := by decide +kernel
theorem d_Mo_write_15 : decode c_Mo_write 15 = .ok (.aload_n 0, 1) := by decide +kernel
theorem d_Mo_write_16 : decode c_Mo_write 16 = .ok (.iconst 1, 1) := by decide +kernel
theorem d_Mo_write_17 : decode c_Mo_write 17 = .ok (.invokevirtual 78, 3) := by decide +kernel
theorem d_Mo_write_20 : decode c_Mo_write 20 = .ok (.ireturn, 1) := by decide +kernel
theorem d_Mo_write_21 : decode c_Mo_write 21 = .ok (.iconst 1, 1) := by decide +kernel
theorem d_Mo_write_22 : decode c_Mo_write 22 = .ok (.istore 4, 2) := by decide +kernel
theorem d_Mo_write_24 : decode c_Mo_write 24 = .ok (.iconst 0, 1) := by decide +kernel
theorem d_Mo_write_25 : decode c_Mo_write 25 = .ok (.istore 5, 2) := by decide +kernel
theorem d_Mo_write_27 : decode c_Mo_write 27 = .ok (.iload 5, 2) := by decide +kernel
theorem d_Mo_write_29 : decode c_Mo_write 29 = .ok (.iload_n 3, 1) := by decide +kernel
theorem d_Mo_write_30 : decode c_Mo_write 30 = .ok (.if_icmp .ge 54, 3) := by decide +kernel
theorem d_Mo_write_33 : decode c_Mo_write 33 = .ok (.lload_n 1, 1) := by decide +kernel
theorem d_Mo_write_34 : decode c_Mo_write 34 = .ok (.bipush 8, 2) := by decide +kernel
theorem d_Mo_write_36 : decode c_Mo_write 36 = .ok (.iload 5, 2) := by decide +kernel
theorem d_Mo_write_38 : decode c_Mo_write 38 = .ok (.imul, 1) := by decide +kernel
theorem d_Mo_write_39 : decode c_Mo_write 39 = .ok (.lshr, 1) := by decide +kernel
theorem d_Mo_write_40 : decode c_Mo_write 40 = .ok (.ldc2_w 82, 3) := by decide +kernel
theorem d_Mo_write_43 : decode c_Mo_write 43 = .ok (.land, 1) := by decide +kernel
theorem d_Mo_write_44 : decode c_Mo_write 44 = .ok (.l2i, 1) := by decide +kernel
theorem d_Mo_write_45 : decode c_Mo_write 45 = .ok (.istore 6, 2) := by decide +kernel
theorem d_Mo_write_47 : decode c_Mo_write 47 = .ok (.iload 4, 2) := by decide +kernel
theorem d_Mo_write_49 : decode c_Mo_write 49 = .ok (.ifCond .eq 26, 3) := by decide +kernel
theorem d_Mo_write_52 : decode c_Mo_write 52 = .ok (.iload 6, 2) := by decide +kernel
theorem d_Mo_write_54 : decode c_Mo_write 54 = .ok (.bipush 10, 2) := by decide +kernel
theorem d_Mo_write_56 : decode c_Mo_write 56 = .ok (.if_icmp .eq 15, 3) := by decide +kernel
theorem d_Mo_write_59 : decode c_Mo_write 59 = .ok (.iload 6, 2) := by decide +kernel
theorem d_Mo_write_61 : decode c_Mo_write 61 = .ok (.bipush 32, 2) := by decide +kernel
theorem d_Mo_write_63 : decode c_Mo_write 63 = .ok (.bipush 126, 2) := by decide +kernel
theorem d_Mo_write_65 : decode c_Mo_write 65 = .ok (.invokestatic 74, 3) := by decide +kernel
theorem d_Mo_write_68 : decode c_Mo_write 68 = .ok (.ifCond .eq 7, 3) := by decide +kernel
theorem d_Mo_write_71 : decode c_Mo_write 71 = .ok (.iconst 1, 1) := by decide +kernel
theorem d_Mo_write_72 : decode c_Mo_write 72 = .ok (.goto 4, 3) := by decide +kernel
theorem d_Mo_write_75 : decode c_Mo_write 75 = .ok (.iconst 0, 1) := by decide +kernel
theorem d_Mo_write_76 : decode c_Mo_write 76 = .ok (.istore 4, 2) := by decide +kernel
theorem d_Mo_write_78 : decode c_Mo_write 78 = .ok (.iinc 5 1, 3) := by decide +kernel
theorem d_Mo_write_81 : decode c_Mo_write 81 = .ok (.goto (-54), 3) := by decide +kernel
theorem d_Mo_write_84 : decode c_Mo_write 84 = .ok (.iload 4, 2) := by decide +kernel
theorem d_Mo_write_86 : decode c_Mo_write 86 = .ok (.ifCond .ne 9, 3) := by decide +kernel
theorem d_Mo_write_89 : decode c_Mo_write 89 = .ok (.aload_n 0, 1) := by decide +kernel
theorem d_Mo_write_90 : decode c_Mo_write 90 = .ok (.iconst 1, 1) := by decide +kernel
theorem d_Mo_write_91 : decode c_Mo_write 91 = .ok (.invokevirtual 78, 3) := by decide +kernel
theorem d_Mo_write_94 : decode c_Mo_write 94 = .ok (.ireturn, 1) := by decide +kernel
theorem d_Mo_write_95 : decode c_Mo_write 95 = .ok (.aload_n 0, 1) := by decide +kernel
theorem d_Mo_write_96 : decode c_Mo_write 96 = .ok (.getfield 84, 3) := by decide +kernel
theorem d_Mo_write_99 : decode c_Mo_write 99 = .ok (.iload_n 3, 1) := by decide +kernel
theorem d_Mo_write_100 : decode c_Mo_write 100 = .ok (.iadd, 1) := by decide +kernel
theorem d_Mo_write_101 : decode c_Mo_write 101 = .ok (.sipush 240, 3) := by decide +kernel
theorem d_Mo_write_104 : decode c_Mo_write 104 = .ok (.if_icmp .le 9, 3) := by decide +kernel
theorem d_Mo_write_107 : decode c_Mo_write 107 = .ok (.aload_n 0, 1) := by decide +kernel
theorem d_Mo_write_108 : decode c_Mo_write 108 = .ok (.iconst 2, 1) := by decide +kernel
theorem d_Mo_write_109 : decode c_Mo_write 109 = .ok (.invokevirtual 78, 3) := by decide +kernel
theorem d_Mo_write_112 : decode c_Mo_write 112 = .ok (.ireturn, 1) := by decide +kernel
theorem d_Mo_write_113 : decode c_Mo_write 113 = .ok (.iconst 0, 1) := by decide +kernel
theorem d_Mo_write_114 : decode c_Mo_write 114 = .ok (.istore 5, 2) := by decide +kernel
theorem d_Mo_write_116 : decode c_Mo_write 116 = .ok (.iload 5, 2) := by decide +kernel
theorem d_Mo_write_118 : decode c_Mo_write 118 = .ok (.iload_n 3, 1) := by decide +kernel
theorem d_Mo_write_119 : decode c_Mo_write 119 = .ok (.if_icmp .ge 33, 3) := by decide +kernel
theorem d_Mo_write_122 : decode c_Mo_write 122 = .ok (.aload_n 0, 1) := by decide +kernel
theorem d_Mo_write_123 : decode c_Mo_write 123 = .ok (.getfield 7, 3) := by decide +kernel
theorem d_Mo_write_126 : decode c_Mo_write 126 = .ok (.aload_n 0, 1) := by decide +kernel
theorem d_Mo_write_127 : decode c_Mo_write 127 = .ok (.getfield 84, 3) := by decide +kernel
theorem d_Mo_write_130 : decode c_Mo_write 130 = .ok (.iload 5, 2) := by decide +kernel
theorem d_Mo_write_132 : decode c_Mo_write 132 = .ok (.iadd, 1) := by decide +kernel
theorem d_Mo_write_133 : decode c_Mo_write 133 = .ok (.lload_n 1, 1) := by decide +kernel
theorem d_Mo_write_134 : decode c_Mo_write 134 = .ok (.bipush 8, 2) := by decide +kernel
theorem d_Mo_write_136 : decode c_Mo_write 136 = .ok (.iload 5, 2) := by decide +kernel
theorem d_Mo_write_138 : decode c_Mo_write 138 = .ok (.imul, 1) := by decide +kernel
theorem d_Mo_write_139 : decode c_Mo_write 139 = .ok (.lshr, 1) := by decide +kernel
theorem d_Mo_write_140 : decode c_Mo_write 140 = .ok (.ldc2_w 82, 3) := by decide +kernel
theorem d_Mo_write_143 : decode c_Mo_write 143 = .ok (.land, 1) := by decide +kernel
theorem d_Mo_write_144 : decode c_Mo_write 144 = .ok (.l2i, 1) := by decide +kernel
theorem d_Mo_write_145 : decode c_Mo_write 145 = .ok (.iastore, 1) := by decide +kernel
theorem d_Mo_write_146 : decode c_Mo_write 146 = .ok (.iinc 5 1, 3) := by decide +kernel
theorem d_Mo_write_149 : decode c_Mo_write 149 = .ok (.goto (-33), 3) := by decide +kernel
theorem d_Mo_write_152 : decode c_Mo_write 152 = .ok (.aload_n 0, 1) := by decide +kernel
theorem d_Mo_write_153 : decode c_Mo_write 153 = .ok (.dup, 1) := by decide +kernel
theorem d_Mo_write_154 : decode c_Mo_write 154 = .ok (.getfield 84, 3) := by decide +kernel
theorem d_Mo_write_157 : decode c_Mo_write 157 = .ok (.iload_n 3, 1) := by decide +kernel
theorem d_Mo_write_158 : decode c_Mo_write 158 = .ok (.iadd, 1) := by decide +kernel
theorem d_Mo_write_159 : decode c_Mo_write 159 = .ok (.putfield 84, 3) := by decide +kernel
theorem d_Mo_write_162 : decode c_Mo_write 162 = .ok (.aload_n 0, 1) := by decide +kernel
theorem d_Mo_write_163 : decode c_Mo_write 163 = .ok (.getfield 84, 3) := by decide +kernel
theorem d_Mo_write_166 : decode c_Mo_write 166 = .ok (.ireturn, 1) := by decide +kernel
/-- the reference's object: J says its numbers by the places of their fields -/
abbrev moC (ad : Nat → Nat) (J : Nat → Int32) : va_E := .inr (7, [.int (J 0), .int (J 1), .ref (ad 225), .int (J 3), .int (J 4), .ref (ad 226), .ref (ad 227), .int (J 7), .ref (ad 228), .ref (ad 229), .ref (ad 230), .ref (ad 231), .ref (ad 232), .ref (ad 233), .int (J 14), .ref (ad 234), .int (J 16), .int (J 17), .int (J 18), .ref (ad 235), .ref (ad 236), .ref (ad 237), .ref (ad 238), .ref (ad 239), .int (J 24), .ref (ad 240), .int (J 26), .ref (ad 241), .int (J 28)])
def J1 (J J' : Nat → Int32) (c : Int32) : Prop := J' 0 = c ∧ ∀ i, i ≠ 0 → J' i = J i
def bm8 (x : Int64) (k : Int32) : Int32 := ((x >>> ((8 * k).toInt64 &&& 63)) &&& 255).toInt32
def apM (f : Nat → Int32) (Z : Nat) (x : Int64) (k : Nat) : Nat → Int32 := fun i => if Z ≤ i ∧ i < Z + k then bm8 x (nI (i - Z)) else f i
theorem apM_0 (f : Nat → Int32) (Z : Nat) (x : Int64) : apM f Z x 0 = f := by
  funext i
  unfold apM
  rw [if_neg (by omega)]
theorem apM_s (f : Nat → Int32) (Z : Nat) (x : Int64) (k : Nat) : upd (apM f Z x k) (Z + k) (bm8 x (nI k)) = apM f Z x (k + 1) := by
  funext i
  unfold upd apM
  by_cases h : i = Z + k
  · subst h
    rw [if_pos rfl, if_pos (by omega)]
    congr 2
    omega
  · rw [if_neg h]
    by_cases h2 : Z ≤ i ∧ i < Z + k
    · rw [if_pos h2, if_pos (by omega)]
    · rw [if_neg h2, if_neg (by omega)]
theorem if01n {c : Bool} (h : ¬ (if c then (1 : Int32) else 0) = 0) : c = true := by cases c <;> simp_all
theorem if01z {c : Bool} (h : (if c then (1 : Int32) else 0) = 0) : c = false := by cases c <;> simp_all
set_option maxHeartbeats 4000000 in
set_option maxRecDepth 100000 in
theorem m_Mo_within (l : Launch) (x a b : Int32) : MS l y_Mo_within c_Mo_within 3 (some .boolean) ({ frames := 0, cells := 0, slots := 0, locals := 0 } : Room) [.int (x), .int (a), .int (b)] (fun r => r = if x < a ∨ b < x then 0 else 1) := by
  refine Met.ofW (cc := c_Mo_within) (maxL := 3) (ret := (some .boolean)) (by decide) rfl ?_
  intro p e s m args below meth c s₁ B hml hv
  obtain ⟨rfl, hN⟩ := hv
  have hx := B.exec
  have hb := B.bytes
  have hr := B.returns
  have hlocks := B.notSynchronized
  have Bx : p.tables.exec = Jvm.exec ∧ c.code = c_Mo_within ∧ (∀ w ∈ TB, w.before [.int (x), .int (a), .int (b)].toArray s = true) ∧ s.vm.findClass "AbnfChartModel" = some m.cls ∧ True := ⟨hx, hb, tb_all (atoms_spec B.pre) hN, findClass_of_methodNamed B.named, trivial⟩
  have hl := lv_entry ([.int (x), .int (a), .int (b)]) (n := 3) (Nat.le_of_ble_eq_true rfl)
  rw [lg_entry_eq]
  generalize (lg_sl ([.int (x), .int (a), .int (b)]) ++ List.replicate (3 - (lg_sl ([.int (x), .int (a), .int (b)])).length) Slot.unset).toArray = ls at hl ⊢
  have hl : lv_has ls 3 [(0, .int (x)), (1, .int (a)), (2, .int (b))] := hl
  refine lv_iload_n Bx.1 Bx.2.1 d_Mo_within_0 rfl (lv_at hl 0 rfl) ?_
  refine lv_iload_n Bx.1 Bx.2.1 d_Mo_within_1 rfl (lv_at hl 1 rfl) ?_
  refine lv_icmp_lt Bx.1 Bx.2.1 d_Mo_within_2 rfl (fun h => ?_) (fun h => ?_)
  · refine lv_iconst (v := 0) Bx.1 Bx.2.1 d_Mo_within_14 (by decide) ?_
    exact W.zret (v := 0) hx hb hr rfl (fun t ht hW => ⟨0, rfl, (if_pos (Or.inl h)).symm, ht⟩) (fun _ h => by cases h) d_Mo_within_15
  · refine lv_iload_n Bx.1 Bx.2.1 d_Mo_within_5 rfl (lv_at hl 0 rfl) ?_
    refine lv_iload_n Bx.1 Bx.2.1 d_Mo_within_6 rfl (lv_at hl 2 rfl) ?_
    refine lv_icmp_gt Bx.1 Bx.2.1 d_Mo_within_7 rfl (fun h2 => ?_) (fun h2 => ?_)
    · refine lv_iconst (v := 0) Bx.1 Bx.2.1 d_Mo_within_14 (by decide) ?_
      exact W.zret (v := 0) hx hb hr rfl (fun t ht hW => ⟨0, rfl, (if_pos (Or.inr h2)).symm, ht⟩) (fun _ h => by cases h) d_Mo_within_15
    · refine lv_iconst (v := 1) Bx.1 Bx.2.1 d_Mo_within_10 (by decide) ?_
      refine lv_goto Bx.1 Bx.2.1 d_Mo_within_11 rfl ?_
      exact W.zret (v := 1) hx hb hr rfl (fun t ht hW => ⟨1, rfl, (if_neg (fun q => q.elim h h2)).symm, ht⟩) (fun _ h => by cases h) d_Mo_within_15
set_option maxHeartbeats 4000000 in
set_option maxRecDepth 100000 in
theorem m_Mo_thrown (l : Launch) {D : va_G} {cy : Nat → ClassId} {sz n : Nat} {ad : Nat → Nat} {mem : Nat → va_E} {J : Nat → Int32} (hn : 242 ≤ n) (h4 : mem 224 = moC ad J) : MI l D cy sz n ad y_Mo_thrown c_Mo_thrown 1 (some .int) ({ frames := 0, cells := 0, slots := 0, locals := 0 } : Room) mem [.ref (ad 224)] (fun r mem' => r = J 0 ∧ mem' = mem) := by
  refine Met.ofW (cc := c_Mo_thrown) (maxL := 1) (ret := (some .int)) (by decide) rfl ?_
  intro p e s m args below meth c s₁ B hml hv
  obtain ⟨rfl, E, hP, hD⟩ := hv
  have hx := B.exec
  have hb := B.bytes
  have hr := B.returns
  have hlocks := B.notSynchronized
  have Bx : MB p s m [.ref (ad 224)].toArray c c_Mo_thrown "AbnfChartModel" D cy := ⟨hx, hb, tb_all (atoms_spec B.pre) E.2.1, findClass_of_methodNamed B.named, E.1⟩
  have hS : va_S (Az sz) s.heap s.heap [] := va_S.rf
  have hl := lv_entry ([.ref (ad 224)]) (n := 1) (Nat.le_of_ble_eq_true rfl)
  rw [lg_entry_eq]
  generalize (lg_sl ([.ref (ad 224)]) ++ List.replicate (1 - (lg_sl ([.ref (ad 224)])).length) Slot.unset).toArray = ls at hl ⊢
  have hl : lv_has ls 1 [(0, .ref (ad 224))] := hl
  refine lv_aload_n Bx.1 Bx.2.1 d_Mo_thrown_0 rfl (lv_at hl 0 rfl) ?_
  refine f_get Bx hP (by omega) h4 rfl inMo 0 (by decide) kw_656 rfl rfl d_Mo_thrown_1 ?_
  exact W.iret (v := J 0) hx hb hr (fun t ht hW => ⟨⟨J 0, mem, rfl, ⟨rfl, rfl⟩, by show va_P _ _ _ t.heap; rw [ht]; exact hP⟩, hS.F ht⟩) hS.2.2 d_Mo_thrown_4
set_option maxHeartbeats 4000000 in
set_option maxRecDepth 100000 in
theorem m_Mo_fail (l : Launch) {D : va_G} {cy : Nat → ClassId} {sz n : Nat} {ad : Nat → Nat} {mem : Nat → va_E} {J : Nat → Int32} {k : Int32} (hn : 242 ≤ n) (h4 : mem 224 = moC ad J) : MI l D cy sz n ad y_Mo_fail c_Mo_fail 2 (some .int) ({ frames := 0, cells := 0, slots := 0, locals := 0 } : Room) mem [.ref (ad 224), .int (k)] (fun r mem' => r = 0 ∧ mem' = va_up mem 224 (moC ad (va_up J 0 k))) := by
  refine Met.ofW (cc := c_Mo_fail) (maxL := 2) (ret := (some .int)) (by decide) rfl ?_
  intro p e s m args below meth c s₁ B hml hv
  obtain ⟨rfl, E, hP, hD⟩ := hv
  have hx := B.exec
  have hb := B.bytes
  have hr := B.returns
  have hlocks := B.notSynchronized
  have Bx : MB p s m [.ref (ad 224), .int (k)].toArray c c_Mo_fail "AbnfChartModel" D cy := ⟨hx, hb, tb_all (atoms_spec B.pre) E.2.1, findClass_of_methodNamed B.named, E.1⟩
  have hS : va_S (Az sz) s.heap s.heap [] := va_S.rf
  have hl := lv_entry ([.ref (ad 224), .int (k)]) (n := 2) (Nat.le_of_ble_eq_true rfl)
  rw [lg_entry_eq]
  generalize (lg_sl ([.ref (ad 224), .int (k)]) ++ List.replicate (2 - (lg_sl ([.ref (ad 224), .int (k)])).length) Slot.unset).toArray = ls at hl ⊢
  have hl : lv_has ls 2 [(0, .ref (ad 224)), (1, .int (k))] := hl
  refine lv_aload_n Bx.1 Bx.2.1 d_Mo_fail_0 rfl (lv_at hl 0 rfl) ?_
  refine lv_iload_n Bx.1 Bx.2.1 d_Mo_fail_1 rfl (lv_at hl 1 rfl) ?_
  refine f_put Bx hP hD hS (by omega) h4 rfl inMo tyMo okMo nmMo 0 (by decide) kw_656 rfl rfl rfl rfl (Nat.le_of_ble_eq_true rfl) d_Mo_fail_2 (fun H locs hP hS => ?_)
  obtain ⟨mem1, e_mem1⟩ : ∃ z, z = va_up mem (224) (.inr (7, [.int (k), .int (J 1), .ref (ad 225), .int (J 3), .int (J 4), .ref (ad 226), .ref (ad 227), .int (J 7), .ref (ad 228), .ref (ad 229), .ref (ad 230), .ref (ad 231), .ref (ad 232), .ref (ad 233), .int (J 14), .ref (ad 234), .int (J 16), .int (J 17), .int (J 18), .ref (ad 235), .ref (ad 236), .ref (ad 237), .ref (ad 238), .ref (ad 239), .int (J 24), .ref (ad 240), .int (J 26), .ref (ad 241), .int (J 28)])) := ⟨_, rfl⟩
  have hP : va_P D vcl (fw n ad mem1) H := by rw [e_mem1]; exact hP
  have hD : va_D (Az sz) (fw n ad mem1) := fw_D hD
  have h_mem1 : mem1 (224) = .inr (7, [.int (k), .int (J 1), .ref (ad 225), .int (J 3), .int (J 4), .ref (ad 226), .ref (ad 227), .int (J 7), .ref (ad 228), .ref (ad 229), .ref (ad 230), .ref (ad 231), .ref (ad 232), .ref (ad 233), .int (J 14), .ref (ad 234), .int (J 16), .int (J 17), .int (J 18), .ref (ad 235), .ref (ad 236), .ref (ad 237), .ref (ad 238), .ref (ad 239), .int (J 24), .ref (ad 240), .int (J 26), .ref (ad 241), .int (J 28)]) := by rw [e_mem1, va_up_self]
  refine lv_iconst (v := 0) Bx.1 Bx.2.1 d_Mo_fail_5 (by decide) ?_
  exact W.iret (v := 0) hx hb hr (fun t ht hW => ⟨⟨0, mem1, rfl, ⟨rfl, by rw [e_mem1]; rfl⟩, by show va_P _ _ _ t.heap; rw [ht]; exact hP⟩, hS.F ht⟩) hS.2.2 d_Mo_fail_6
set_option maxHeartbeats 4000000 in
set_option maxRecDepth 100000 in
theorem m_Mo_place (l : Launch) {D : va_G} {cy : Nat → ClassId} {sz n : Nat} {ad : Nat → Nat} {mem : Nat → va_E} {J : Nat → Int32} (hn : 242 ≤ n) (h4 : mem 224 = moC ad J) : MI l D cy sz n ad y_Mo_place c_Mo_place 1 (some .int) ({ frames := 0, cells := 0, slots := 0, locals := 0 } : Room) mem [.ref (ad 224)] (fun r mem' => r = J 3 ∧ mem' = va_up mem 224 (moC ad (va_up J 0 0))) := by
  refine Met.ofW (cc := c_Mo_place) (maxL := 1) (ret := (some .int)) (by decide) rfl ?_
  intro p e s m args below meth c s₁ B hml hv
  obtain ⟨rfl, E, hP, hD⟩ := hv
  have hx := B.exec
  have hb := B.bytes
  have hr := B.returns
  have hlocks := B.notSynchronized
  have Bx : MB p s m [.ref (ad 224)].toArray c c_Mo_place "AbnfChartModel" D cy := ⟨hx, hb, tb_all (atoms_spec B.pre) E.2.1, findClass_of_methodNamed B.named, E.1⟩
  have hS : va_S (Az sz) s.heap s.heap [] := va_S.rf
  have hl := lv_entry ([.ref (ad 224)]) (n := 1) (Nat.le_of_ble_eq_true rfl)
  rw [lg_entry_eq]
  generalize (lg_sl ([.ref (ad 224)]) ++ List.replicate (1 - (lg_sl ([.ref (ad 224)])).length) Slot.unset).toArray = ls at hl ⊢
  have hl : lv_has ls 1 [(0, .ref (ad 224))] := hl
  refine lv_aload_n Bx.1 Bx.2.1 d_Mo_place_0 rfl (lv_at hl 0 rfl) ?_
  refine lv_iconst (v := 0) Bx.1 Bx.2.1 d_Mo_place_1 (by decide) ?_
  refine f_put Bx hP hD hS (by omega) h4 rfl inMo tyMo okMo nmMo 0 (by decide) kw_656 rfl rfl rfl rfl (Nat.le_of_ble_eq_true rfl) d_Mo_place_2 (fun H locs hP hS => ?_)
  obtain ⟨mem1, e_mem1⟩ : ∃ z, z = va_up mem (224) (.inr (7, [.int (0), .int (J 1), .ref (ad 225), .int (J 3), .int (J 4), .ref (ad 226), .ref (ad 227), .int (J 7), .ref (ad 228), .ref (ad 229), .ref (ad 230), .ref (ad 231), .ref (ad 232), .ref (ad 233), .int (J 14), .ref (ad 234), .int (J 16), .int (J 17), .int (J 18), .ref (ad 235), .ref (ad 236), .ref (ad 237), .ref (ad 238), .ref (ad 239), .int (J 24), .ref (ad 240), .int (J 26), .ref (ad 241), .int (J 28)])) := ⟨_, rfl⟩
  have hP : va_P D vcl (fw n ad mem1) H := by rw [e_mem1]; exact hP
  have hD : va_D (Az sz) (fw n ad mem1) := fw_D hD
  have h_mem1 : mem1 (224) = .inr (7, [.int (0), .int (J 1), .ref (ad 225), .int (J 3), .int (J 4), .ref (ad 226), .ref (ad 227), .int (J 7), .ref (ad 228), .ref (ad 229), .ref (ad 230), .ref (ad 231), .ref (ad 232), .ref (ad 233), .int (J 14), .ref (ad 234), .int (J 16), .int (J 17), .int (J 18), .ref (ad 235), .ref (ad 236), .ref (ad 237), .ref (ad 238), .ref (ad 239), .int (J 24), .ref (ad 240), .int (J 26), .ref (ad 241), .int (J 28)]) := by rw [e_mem1, va_up_self]
  refine lv_aload_n Bx.1 Bx.2.1 d_Mo_place_5 rfl (lv_at hl 0 rfl) ?_
  refine f_get Bx hP (by omega) h_mem1 rfl inMo 3 (by decide) kw_659 rfl rfl d_Mo_place_6 ?_
  exact W.iret (v := J 3) hx hb hr (fun t ht hW => ⟨⟨J 3, mem1, rfl, ⟨rfl, by rw [e_mem1]; rfl⟩, by show va_P _ _ _ t.heap; rw [ht]; exact hP⟩, hS.F ht⟩) hS.2.2 d_Mo_place_9
set_option maxHeartbeats 4000000 in
set_option maxRecDepth 100000 in
theorem m_Mo_erase (l : Launch) {D : va_G} {cy : Nat → ClassId} {sz n : Nat} {ad : Nat → Nat} {mem : Nat → va_E} {J : Nat → Int32} (hn : 242 ≤ n) (h4 : mem 224 = moC ad J) : MI l D cy sz n ad y_Mo_erase c_Mo_erase 2 (some .int) ({ frames := 0, cells := 0, slots := 0, locals := 0 } : Room) mem [.ref (ad 224)] (fun r mem' => r = J 1 ∧ mem' = va_up mem 224 (moC ad (va_up (va_up J 0 0) 1 0))) := by
  refine Met.ofW (cc := c_Mo_erase) (maxL := 2) (ret := (some .int)) (by decide) rfl ?_
  intro p e s m args below meth c s₁ B hml hv
  obtain ⟨rfl, E, hP, hD⟩ := hv
  have hx := B.exec
  have hb := B.bytes
  have hr := B.returns
  have hlocks := B.notSynchronized
  have Bx : MB p s m [.ref (ad 224)].toArray c c_Mo_erase "AbnfChartModel" D cy := ⟨hx, hb, tb_all (atoms_spec B.pre) E.2.1, findClass_of_methodNamed B.named, E.1⟩
  have hS : va_S (Az sz) s.heap s.heap [] := va_S.rf
  have hl := lv_entry ([.ref (ad 224)]) (n := 2) (Nat.le_of_ble_eq_true rfl)
  rw [lg_entry_eq]
  generalize (lg_sl ([.ref (ad 224)]) ++ List.replicate (2 - (lg_sl ([.ref (ad 224)])).length) Slot.unset).toArray = ls at hl ⊢
  have hl : lv_has ls 2 [(0, .ref (ad 224))] := hl
  refine lv_aload_n Bx.1 Bx.2.1 d_Mo_erase_0 rfl (lv_at hl 0 rfl) ?_
  refine lv_iconst (v := 0) Bx.1 Bx.2.1 d_Mo_erase_1 (by decide) ?_
  refine f_put Bx hP hD hS (by omega) h4 rfl inMo tyMo okMo nmMo 0 (by decide) kw_656 rfl rfl rfl rfl (Nat.le_of_ble_eq_true rfl) d_Mo_erase_2 (fun H locs hP hS => ?_)
  obtain ⟨mem1, e_mem1⟩ : ∃ z, z = va_up mem (224) (.inr (7, [.int (0), .int (J 1), .ref (ad 225), .int (J 3), .int (J 4), .ref (ad 226), .ref (ad 227), .int (J 7), .ref (ad 228), .ref (ad 229), .ref (ad 230), .ref (ad 231), .ref (ad 232), .ref (ad 233), .int (J 14), .ref (ad 234), .int (J 16), .int (J 17), .int (J 18), .ref (ad 235), .ref (ad 236), .ref (ad 237), .ref (ad 238), .ref (ad 239), .int (J 24), .ref (ad 240), .int (J 26), .ref (ad 241), .int (J 28)])) := ⟨_, rfl⟩
  have hP : va_P D vcl (fw n ad mem1) H := by rw [e_mem1]; exact hP
  have hD : va_D (Az sz) (fw n ad mem1) := fw_D hD
  have h_mem1 : mem1 (224) = .inr (7, [.int (0), .int (J 1), .ref (ad 225), .int (J 3), .int (J 4), .ref (ad 226), .ref (ad 227), .int (J 7), .ref (ad 228), .ref (ad 229), .ref (ad 230), .ref (ad 231), .ref (ad 232), .ref (ad 233), .int (J 14), .ref (ad 234), .int (J 16), .int (J 17), .int (J 18), .ref (ad 235), .ref (ad 236), .ref (ad 237), .ref (ad 238), .ref (ad 239), .int (J 24), .ref (ad 240), .int (J 26), .ref (ad 241), .int (J 28)]) := by rw [e_mem1, va_up_self]
  refine lv_aload_n Bx.1 Bx.2.1 d_Mo_erase_5 rfl (lv_at hl 0 rfl) ?_
  refine f_get Bx hP (by omega) h_mem1 rfl inMo 1 (by decide) kw_657 rfl rfl d_Mo_erase_6 ?_
  refine lv_istore_n (lv' := [(1, .int (J 1)), (0, .ref (ad 224))]) Bx.1 Bx.2.1 d_Mo_erase_9 rfl hl (by decide) rfl (fun ls hl => ?_)
  refine lv_aload_n Bx.1 Bx.2.1 d_Mo_erase_10 rfl (lv_at hl 1 rfl) ?_
  refine lv_iconst (v := 0) Bx.1 Bx.2.1 d_Mo_erase_11 (by decide) ?_
  refine f_put Bx hP hD hS (by omega) h_mem1 rfl inMo tyMo okMo nmMo 1 (by decide) kw_657 rfl rfl rfl rfl (Nat.le_of_ble_eq_true rfl) d_Mo_erase_12 (fun H locs hP hS => ?_)
  obtain ⟨mem2, e_mem2⟩ : ∃ z, z = va_up mem1 (224) (.inr (7, [.int (0), .int (0), .ref (ad 225), .int (J 3), .int (J 4), .ref (ad 226), .ref (ad 227), .int (J 7), .ref (ad 228), .ref (ad 229), .ref (ad 230), .ref (ad 231), .ref (ad 232), .ref (ad 233), .int (J 14), .ref (ad 234), .int (J 16), .int (J 17), .int (J 18), .ref (ad 235), .ref (ad 236), .ref (ad 237), .ref (ad 238), .ref (ad 239), .int (J 24), .ref (ad 240), .int (J 26), .ref (ad 241), .int (J 28)])) := ⟨_, rfl⟩
  have hP : va_P D vcl (fw n ad mem2) H := by rw [e_mem2]; exact hP
  have hD : va_D (Az sz) (fw n ad mem2) := fw_D hD
  have h_mem2 : mem2 (224) = .inr (7, [.int (0), .int (0), .ref (ad 225), .int (J 3), .int (J 4), .ref (ad 226), .ref (ad 227), .int (J 7), .ref (ad 228), .ref (ad 229), .ref (ad 230), .ref (ad 231), .ref (ad 232), .ref (ad 233), .int (J 14), .ref (ad 234), .int (J 16), .int (J 17), .int (J 18), .ref (ad 235), .ref (ad 236), .ref (ad 237), .ref (ad 238), .ref (ad 239), .int (J 24), .ref (ad 240), .int (J 26), .ref (ad 241), .int (J 28)]) := by rw [e_mem2, va_up_self]
  refine lv_iload_n Bx.1 Bx.2.1 d_Mo_erase_15 rfl (lv_at hl 0 rfl) ?_
  exact W.iret (v := J 1) hx hb hr (fun t ht hW => ⟨⟨J 1, mem2, rfl, ⟨rfl, by rw [e_mem2, e_mem1, up_up]; rfl⟩, by show va_P _ _ _ t.heap; rw [ht]; exact hP⟩, hS.F ht⟩) hS.2.2 d_Mo_erase_16
set_option maxHeartbeats 4000000 in
set_option maxRecDepth 100000 in
theorem m_Mo_drop (l : Launch) {D : va_G} {cy : Nat → ClassId} {sz n : Nat} {ad : Nat → Nat} {mem : Nat → va_E} {J : Nat → Int32} (hn : 242 ≤ n) (h4 : mem 224 = moC ad J) : MI l D cy sz n ad y_Mo_drop c_Mo_drop 2 (some .int) ({ frames := 0, cells := 0, slots := 0, locals := 0 } : Room) mem [.ref (ad 224)] (fun r mem' => r = J 24 ∧ mem' = va_up mem 224 (moC ad (va_up (va_up (va_up J 0 0) 24 0) 26 1))) := by
  refine Met.ofW (cc := c_Mo_drop) (maxL := 2) (ret := (some .int)) (by decide) rfl ?_
  intro p e s m args below meth c s₁ B hml hv
  obtain ⟨rfl, E, hP, hD⟩ := hv
  have hx := B.exec
  have hb := B.bytes
  have hr := B.returns
  have hlocks := B.notSynchronized
  have Bx : MB p s m [.ref (ad 224)].toArray c c_Mo_drop "AbnfChartModel" D cy := ⟨hx, hb, tb_all (atoms_spec B.pre) E.2.1, findClass_of_methodNamed B.named, E.1⟩
  have hS : va_S (Az sz) s.heap s.heap [] := va_S.rf
  have hl := lv_entry ([.ref (ad 224)]) (n := 2) (Nat.le_of_ble_eq_true rfl)
  rw [lg_entry_eq]
  generalize (lg_sl ([.ref (ad 224)]) ++ List.replicate (2 - (lg_sl ([.ref (ad 224)])).length) Slot.unset).toArray = ls at hl ⊢
  have hl : lv_has ls 2 [(0, .ref (ad 224))] := hl
  refine lv_aload_n Bx.1 Bx.2.1 d_Mo_drop_0 rfl (lv_at hl 0 rfl) ?_
  refine lv_iconst (v := 0) Bx.1 Bx.2.1 d_Mo_drop_1 (by decide) ?_
  refine f_put Bx hP hD hS (by omega) h4 rfl inMo tyMo okMo nmMo 0 (by decide) kw_656 rfl rfl rfl rfl (Nat.le_of_ble_eq_true rfl) d_Mo_drop_2 (fun H locs hP hS => ?_)
  obtain ⟨mem1, e_mem1⟩ : ∃ z, z = va_up mem (224) (.inr (7, [.int (0), .int (J 1), .ref (ad 225), .int (J 3), .int (J 4), .ref (ad 226), .ref (ad 227), .int (J 7), .ref (ad 228), .ref (ad 229), .ref (ad 230), .ref (ad 231), .ref (ad 232), .ref (ad 233), .int (J 14), .ref (ad 234), .int (J 16), .int (J 17), .int (J 18), .ref (ad 235), .ref (ad 236), .ref (ad 237), .ref (ad 238), .ref (ad 239), .int (J 24), .ref (ad 240), .int (J 26), .ref (ad 241), .int (J 28)])) := ⟨_, rfl⟩
  have hP : va_P D vcl (fw n ad mem1) H := by rw [e_mem1]; exact hP
  have hD : va_D (Az sz) (fw n ad mem1) := fw_D hD
  have h_mem1 : mem1 (224) = .inr (7, [.int (0), .int (J 1), .ref (ad 225), .int (J 3), .int (J 4), .ref (ad 226), .ref (ad 227), .int (J 7), .ref (ad 228), .ref (ad 229), .ref (ad 230), .ref (ad 231), .ref (ad 232), .ref (ad 233), .int (J 14), .ref (ad 234), .int (J 16), .int (J 17), .int (J 18), .ref (ad 235), .ref (ad 236), .ref (ad 237), .ref (ad 238), .ref (ad 239), .int (J 24), .ref (ad 240), .int (J 26), .ref (ad 241), .int (J 28)]) := by rw [e_mem1, va_up_self]
  refine lv_aload_n Bx.1 Bx.2.1 d_Mo_drop_5 rfl (lv_at hl 0 rfl) ?_
  refine f_get Bx hP (by omega) h_mem1 rfl inMo 24 (by decide) kw_680 rfl rfl d_Mo_drop_6 ?_
  refine lv_istore_n (lv' := [(1, .int (J 24)), (0, .ref (ad 224))]) Bx.1 Bx.2.1 d_Mo_drop_9 rfl hl (by decide) rfl (fun ls hl => ?_)
  refine lv_aload_n Bx.1 Bx.2.1 d_Mo_drop_10 rfl (lv_at hl 1 rfl) ?_
  refine lv_iconst (v := 0) Bx.1 Bx.2.1 d_Mo_drop_11 (by decide) ?_
  refine f_put Bx hP hD hS (by omega) h_mem1 rfl inMo tyMo okMo nmMo 24 (by decide) kw_680 rfl rfl rfl rfl (Nat.le_of_ble_eq_true rfl) d_Mo_drop_12 (fun H locs hP hS => ?_)
  obtain ⟨mem2, e_mem2⟩ : ∃ z, z = va_up mem1 (224) (.inr (7, [.int (0), .int (J 1), .ref (ad 225), .int (J 3), .int (J 4), .ref (ad 226), .ref (ad 227), .int (J 7), .ref (ad 228), .ref (ad 229), .ref (ad 230), .ref (ad 231), .ref (ad 232), .ref (ad 233), .int (J 14), .ref (ad 234), .int (J 16), .int (J 17), .int (J 18), .ref (ad 235), .ref (ad 236), .ref (ad 237), .ref (ad 238), .ref (ad 239), .int (0), .ref (ad 240), .int (J 26), .ref (ad 241), .int (J 28)])) := ⟨_, rfl⟩
  have hP : va_P D vcl (fw n ad mem2) H := by rw [e_mem2]; exact hP
  have hD : va_D (Az sz) (fw n ad mem2) := fw_D hD
  have h_mem2 : mem2 (224) = .inr (7, [.int (0), .int (J 1), .ref (ad 225), .int (J 3), .int (J 4), .ref (ad 226), .ref (ad 227), .int (J 7), .ref (ad 228), .ref (ad 229), .ref (ad 230), .ref (ad 231), .ref (ad 232), .ref (ad 233), .int (J 14), .ref (ad 234), .int (J 16), .int (J 17), .int (J 18), .ref (ad 235), .ref (ad 236), .ref (ad 237), .ref (ad 238), .ref (ad 239), .int (0), .ref (ad 240), .int (J 26), .ref (ad 241), .int (J 28)]) := by rw [e_mem2, va_up_self]
  refine lv_aload_n Bx.1 Bx.2.1 d_Mo_drop_15 rfl (lv_at hl 1 rfl) ?_
  refine lv_iconst (v := 1) Bx.1 Bx.2.1 d_Mo_drop_16 (by decide) ?_
  refine f_put Bx hP hD hS (by omega) h_mem2 rfl inMo tyMo okMo nmMo 26 (by decide) kw_682 rfl rfl rfl rfl (Nat.le_of_ble_eq_true rfl) d_Mo_drop_17 (fun H locs hP hS => ?_)
  obtain ⟨mem3, e_mem3⟩ : ∃ z, z = va_up mem2 (224) (.inr (7, [.int (0), .int (J 1), .ref (ad 225), .int (J 3), .int (J 4), .ref (ad 226), .ref (ad 227), .int (J 7), .ref (ad 228), .ref (ad 229), .ref (ad 230), .ref (ad 231), .ref (ad 232), .ref (ad 233), .int (J 14), .ref (ad 234), .int (J 16), .int (J 17), .int (J 18), .ref (ad 235), .ref (ad 236), .ref (ad 237), .ref (ad 238), .ref (ad 239), .int (0), .ref (ad 240), .int (1), .ref (ad 241), .int (J 28)])) := ⟨_, rfl⟩
  have hP : va_P D vcl (fw n ad mem3) H := by rw [e_mem3]; exact hP
  have hD : va_D (Az sz) (fw n ad mem3) := fw_D hD
  have h_mem3 : mem3 (224) = .inr (7, [.int (0), .int (J 1), .ref (ad 225), .int (J 3), .int (J 4), .ref (ad 226), .ref (ad 227), .int (J 7), .ref (ad 228), .ref (ad 229), .ref (ad 230), .ref (ad 231), .ref (ad 232), .ref (ad 233), .int (J 14), .ref (ad 234), .int (J 16), .int (J 17), .int (J 18), .ref (ad 235), .ref (ad 236), .ref (ad 237), .ref (ad 238), .ref (ad 239), .int (0), .ref (ad 240), .int (1), .ref (ad 241), .int (J 28)]) := by rw [e_mem3, va_up_self]
  refine lv_iload_n Bx.1 Bx.2.1 d_Mo_drop_20 rfl (lv_at hl 0 rfl) ?_
  exact W.iret (v := J 24) hx hb hr (fun t ht hW => ⟨⟨J 24, mem3, rfl, ⟨rfl, by rw [e_mem3, e_mem2, e_mem1, up_up, up_up]; rfl⟩, by show va_P _ _ _ t.heap; rw [ht]; exact hP⟩, hS.F ht⟩) hS.2.2 d_Mo_drop_21
set_option maxHeartbeats 4000000 in
set_option maxRecDepth 100000 in
theorem m_Mo_write (l : Launch) {D : va_G} {cy : Nat → ClassId} {sz n : Nat} {ad : Nat → Nat} {mem : Nat → va_E} {J : Nat → Int32} {Z : Nat} {f : Nat → Int32} {x : Int64} {k : Int32} (hn : 242 ≤ n) (h4 : mem 224 = moC ad J) (hJ : J 1 = nI Z) (hZ : Z ≤ 240) (h5 : mem 225 = .inl (cy 1, 240, .inl f)) : MI l D cy sz n ad y_Mo_write c_Mo_write 7 (some .int) ({ frames := 1, cells := 0, slots := 0, locals := 30 } : Room) mem [.ref (ad 224), .long (x), .int (k)] (fun r mem' => ((k < 1 ∨ 8 < k) ∧ r = 0 ∧ ∃ J' : Nat → Int32, mem' = va_up mem 224 (moC ad J') ∧ J1 J J' 1) ∨ ∃ M : Nat, k = nI M ∧ 1 ≤ M ∧ M ≤ 8 ∧ ((allB (fun i => okT (bm8 x (nI i))) M = false ∧ r = 0 ∧ ∃ J' : Nat → Int32, mem' = va_up mem 224 (moC ad J') ∧ J1 J J' 1) ∨ (allB (fun i => okT (bm8 x (nI i))) M = true ∧ 240 < Z + M ∧ r = 0 ∧ ∃ J' : Nat → Int32, mem' = va_up mem 224 (moC ad J') ∧ J1 J J' 2) ∨ (allB (fun i => okT (bm8 x (nI i))) M = true ∧ Z + M ≤ 240 ∧ r = nI (Z + M) ∧ ∃ J' : Nat → Int32, mem' = va_up (va_up mem 225 (.inl (cy 1, 240, .inl (apM f Z x M)))) 224 (moC ad J') ∧ J' 0 = 0 ∧ J' 1 = nI (Z + M) ∧ ∀ i, i ≠ 0 → i ≠ 1 → J' i = J i))) := by
  refine Met.ofW (cc := c_Mo_write) (maxL := 7) (ret := (some .int)) (by decide) rfl ?_
  intro p e s m args below meth c s₁ B hml hv
  obtain ⟨rfl, E, hP, hD⟩ := hv
  have hx := B.exec
  have hb := B.bytes
  have hr := B.returns
  have hlocks := B.notSynchronized
  have Bx : MB p s m [.ref (ad 224), .long (x), .int (k)].toArray c c_Mo_write "AbnfChartModel" D cy := ⟨hx, hb, tb_all (atoms_spec B.pre) E.2.1, findClass_of_methodNamed B.named, E.1⟩
  have hS : va_S (Az sz) s.heap s.heap [] := va_S.rf
  have hl := lv_entry ([.ref (ad 224), .long (x), .int (k)]) (n := 7) (Nat.le_of_ble_eq_true rfl)
  rw [lg_entry_eq]
  generalize (lg_sl ([.ref (ad 224), .long (x), .int (k)]) ++ List.replicate (7 - (lg_sl ([.ref (ad 224), .long (x), .int (k)])).length) Slot.unset).toArray = ls at hl ⊢
  have hl : lv_has ls 7 [(0, .ref (ad 224)), (1, .long (x)), (3, .int (k))] := hl
  refine lv_aload_n Bx.1 Bx.2.1 d_Mo_write_0 rfl (lv_at hl 0 rfl) ?_
  refine lv_iconst (v := 0) Bx.1 Bx.2.1 d_Mo_write_1 (by decide) ?_
  refine f_put Bx hP hD hS (by omega) h4 rfl inMo tyMo okMo nmMo 0 (by decide) kw_656 rfl rfl rfl rfl (Nat.le_of_ble_eq_true rfl) d_Mo_write_2 (fun H locs hP hS => ?_)
  obtain ⟨mem1, e_mem1⟩ : ∃ z, z = va_up mem (224) (.inr (7, [.int (0), .int (J 1), .ref (ad 225), .int (J 3), .int (J 4), .ref (ad 226), .ref (ad 227), .int (J 7), .ref (ad 228), .ref (ad 229), .ref (ad 230), .ref (ad 231), .ref (ad 232), .ref (ad 233), .int (J 14), .ref (ad 234), .int (J 16), .int (J 17), .int (J 18), .ref (ad 235), .ref (ad 236), .ref (ad 237), .ref (ad 238), .ref (ad 239), .int (J 24), .ref (ad 240), .int (J 26), .ref (ad 241), .int (J 28)])) := ⟨_, rfl⟩
  have hP : va_P D vcl (fw n ad mem1) H := by rw [e_mem1]; exact hP
  have hD : va_D (Az sz) (fw n ad mem1) := fw_D hD
  have h_mem1 : mem1 (224) = .inr (7, [.int (0), .int (J 1), .ref (ad 225), .int (J 3), .int (J 4), .ref (ad 226), .ref (ad 227), .int (J 7), .ref (ad 228), .ref (ad 229), .ref (ad 230), .ref (ad 231), .ref (ad 232), .ref (ad 233), .int (J 14), .ref (ad 234), .int (J 16), .int (J 17), .int (J 18), .ref (ad 235), .ref (ad 236), .ref (ad 237), .ref (ad 238), .ref (ad 239), .int (J 24), .ref (ad 240), .int (J 26), .ref (ad 241), .int (J 28)]) := by rw [e_mem1, va_up_self]
  have hJ0 : mem1 224 = moC ad (va_up J 0 0) := h_mem1
  have h51 : mem1 225 = .inl (cy 1, 240, .inl f) := by rw [e_mem1, va_up_ne _ _ (by decide)]; exact h5
  refine lv_iload_n Bx.1 Bx.2.1 d_Mo_write_5 rfl (lv_at hl 2 rfl) ?_
  refine lv_iconst (v := 1) Bx.1 Bx.2.1 d_Mo_write_6 (by decide) ?_
  refine lv_bipush (v := 8) Bx.1 Bx.2.1 d_Mo_write_7 (by decide) ?_
  refine f_callSi (na := 3) (As := [.int (k), .int (1), .int (8)]) (rest := []) Bx hml E.2.1 (m_Mo_within l k 1 8) kw_754 kw_755 kw_8 kw_756 (by decide +kernel) ⟨rfl, rfl⟩ ⟨Nat.le_of_ble_eq_true rfl, Nat.le_of_ble_eq_true rfl⟩ rfl hl.1 (Nat.le_of_ble_eq_true rfl) d_Mo_write_9 ⟨Nat.le_of_ble_eq_true rfl, Nat.le_of_ble_eq_true rfl⟩ (fun r2 hr1 => ?_)
  subst hr1
  refine lv_if_ne Bx.1 Bx.2.1 d_Mo_write_12 rfl (fun h => ?_) (fun h => ?_)
  · obtain ⟨N, hN1, hN8, rfl⟩ := bc_ok h
    refine lv_iconst (v := 1) Bx.1 Bx.2.1 d_Mo_write_21 (by decide) ?_
    refine lv_istore (lv' := [(4, .int (1)), (0, .ref (ad 224)), (1, .long (x)), (3, .int (nI N))]) Bx.1 Bx.2.1 d_Mo_write_22 hl (by decide) rfl (fun ls hl => ?_)
    refine lv_iconst (v := 0) Bx.1 Bx.2.1 d_Mo_write_24 (by decide) ?_
    refine lv_istore (lv' := [(5, .int (0)), (4, .int (1)), (0, .ref (ad 224)), (1, .long (x)), (3, .int (nI N))]) Bx.1 Bx.2.1 d_Mo_write_25 hl (by decide) rfl (fun ls hl => ?_)
    have loop2 : ∀ (d k : Nat) (ls : Array Slot) (H : Heap) (locs : List Loc), k + d = N → allB (fun i => okT (bm8 x (nI i))) N = true → Z + N ≤ 240 → lv_has ls 7 [(5, .int (nI k)), (0, .ref (ad 224)), (1, .long (x)), (3, .int (nI N))] → va_P D vcl (fw n ad (va_up mem1 225 (.inl (cy 1, 240, .inl (apM f Z x k))))) H → va_S (Az sz) s.heap H locs → W p l e (headSpec (Cond.code y_Mo_write c_Mo_write 7 (some .int) :: tg) ({ frames := 1, cells := 0, slots := 0, locals := 30 } : Room)).room s m [.ref (ad 224), .long (x), .int (nI N)].toArray below meth c H locs 0 0 (MQ below (va_Qi (fun r mem' => (((nI N) < 1 ∨ 8 < (nI N)) ∧ r = 0 ∧ ∃ J' : Nat → Int32, mem' = va_up mem 224 (moC ad J') ∧ J1 J J' 1) ∨ ∃ M : Nat, (nI N) = nI M ∧ 1 ≤ M ∧ M ≤ 8 ∧ ((allB (fun i => okT (bm8 x (nI i))) M = false ∧ r = 0 ∧ ∃ J' : Nat → Int32, mem' = va_up mem 224 (moC ad J') ∧ J1 J J' 1) ∨ (allB (fun i => okT (bm8 x (nI i))) M = true ∧ 240 < Z + M ∧ r = 0 ∧ ∃ J' : Nat → Int32, mem' = va_up mem 224 (moC ad J') ∧ J1 J J' 2) ∨ (allB (fun i => okT (bm8 x (nI i))) M = true ∧ Z + M ≤ 240 ∧ r = nI (Z + M) ∧ ∃ J' : Nat → Int32, mem' = va_up (va_up mem 225 (.inl (cy 1, 240, .inl (apM f Z x M)))) 224 (moC ad J') ∧ J' 0 = 0 ∧ J' 1 = nI (Z + M) ∧ ∀ i, i ≠ 0 → i ≠ 1 → J' i = J i))) (PP D n ad) (Az sz)) [.ref (ad 224), .long (x), .int (nI N)].toArray s 0 0 (Az sz)) (F0 m 116 ls []) := by
      intro d
      induction d with
      | zero =>
        intro k ls H locs hk ha hroom hl hP hS
        obtain rfl : k = N := by omega
        have hD : va_D (Az sz) (fw n ad (va_up mem1 225 (.inl (cy 1, 240, .inl (apM f Z x k))))) := fw_D hD
        have h4k : (va_up mem1 225 (.inl (cy 1, 240, .inl (apM f Z x k)))) 224 = moC ad (va_up J 0 0) := by rw [va_up_ne _ _ (by decide)]; exact hJ0
        have h5k : (va_up mem1 225 (.inl (cy 1, 240, .inl (apM f Z x k)))) 225 = .inl (cy 1, 240, .inl (apM f Z x k)) := va_up_self _ _ _
        refine lv_iload Bx.1 Bx.2.1 d_Mo_write_116 (lv_at hl 0 rfl) ?_
        refine lv_iload_n Bx.1 Bx.2.1 d_Mo_write_118 rfl (lv_at hl 3 rfl) ?_
        refine lv_icmp_ge Bx.1 Bx.2.1 d_Mo_write_119 rfl (fun h => ?_) (fun h => ?_)
        · refine lv_aload_n Bx.1 Bx.2.1 d_Mo_write_152 rfl (lv_at hl 1 rfl) ?_
          refine lv_dup Bx.1 Bx.2.1 d_Mo_write_153 rfl ?_
          refine f_get Bx hP (by omega) h4k rfl inMo 1 (by decide) kw_657 rfl rfl d_Mo_write_154 ?_
          refine lv_iload_n Bx.1 Bx.2.1 d_Mo_write_157 rfl (lv_at hl 3 rfl) ?_
          refine lv_iadd Bx.1 Bx.2.1 d_Mo_write_158 ?_
          rw [show (va_up J 0 0) 1 = nI Z from hJ, nI_add]
          refine f_put Bx hP hD hS (by omega) h4k rfl inMo tyMo okMo nmMo 1 (by decide) kw_657 rfl rfl rfl rfl (Nat.le_of_ble_eq_true rfl) d_Mo_write_159 (fun H locs hP hS => ?_)
          obtain ⟨mem3, e_mem3⟩ : ∃ z, z = va_up (va_up mem1 225 (.inl (cy 1, 240, .inl (apM f Z x k)))) (224) (.inr (7, [.int (0), .int (nI (Z + k)), .ref (ad 225), .int (J 3), .int (J 4), .ref (ad 226), .ref (ad 227), .int (J 7), .ref (ad 228), .ref (ad 229), .ref (ad 230), .ref (ad 231), .ref (ad 232), .ref (ad 233), .int (J 14), .ref (ad 234), .int (J 16), .int (J 17), .int (J 18), .ref (ad 235), .ref (ad 236), .ref (ad 237), .ref (ad 238), .ref (ad 239), .int (J 24), .ref (ad 240), .int (J 26), .ref (ad 241), .int (J 28)])) := ⟨_, rfl⟩
          have hP : va_P D vcl (fw n ad mem3) H := by rw [e_mem3]; exact hP
          have hD : va_D (Az sz) (fw n ad mem3) := fw_D hD
          have h_mem3 : mem3 (224) = .inr (7, [.int (0), .int (nI (Z + k)), .ref (ad 225), .int (J 3), .int (J 4), .ref (ad 226), .ref (ad 227), .int (J 7), .ref (ad 228), .ref (ad 229), .ref (ad 230), .ref (ad 231), .ref (ad 232), .ref (ad 233), .int (J 14), .ref (ad 234), .int (J 16), .int (J 17), .int (J 18), .ref (ad 235), .ref (ad 236), .ref (ad 237), .ref (ad 238), .ref (ad 239), .int (J 24), .ref (ad 240), .int (J 26), .ref (ad 241), .int (J 28)]) := by rw [e_mem3, va_up_self]
          refine lv_aload_n Bx.1 Bx.2.1 d_Mo_write_162 rfl (lv_at hl 1 rfl) ?_
          refine f_get Bx hP (by omega) h_mem3 rfl inMo 1 (by decide) kw_657 rfl rfl d_Mo_write_163 ?_
          exact W.iret (v := nI (Z + k)) hx hb hr (fun t ht hW => ⟨⟨nI (Z + k), mem3, rfl, Or.inr ⟨k, rfl, hN1, hN8, Or.inr (Or.inr ⟨ha, hroom, rfl, ⟨(va_up (va_up J 0 0) 1 (nI (Z + k))), by rw [e_mem3, e_mem1, up_sw mem _ _ (show (224 : Nat) ≠ 225 by decide), up_up]; rfl, rfl, rfl, fun i a b => by rw [va_up_ne _ _ b, va_up_ne _ _ a]⟩⟩)⟩, by show va_P _ _ _ t.heap; rw [ht]; exact hP⟩, hS.F ht⟩) hS.2.2 d_Mo_write_166
        · exact absurd (nI_le (Nat.le_refl k) (by omega)) h
      | succ d ih =>
        intro k ls H locs hk ha hroom hl hP hS
        have hD : va_D (Az sz) (fw n ad (va_up mem1 225 (.inl (cy 1, 240, .inl (apM f Z x k))))) := fw_D hD
        have h4k : (va_up mem1 225 (.inl (cy 1, 240, .inl (apM f Z x k)))) 224 = moC ad (va_up J 0 0) := by rw [va_up_ne _ _ (by decide)]; exact hJ0
        have h5k : (va_up mem1 225 (.inl (cy 1, 240, .inl (apM f Z x k)))) 225 = .inl (cy 1, 240, .inl (apM f Z x k)) := va_up_self _ _ _
        refine lv_iload Bx.1 Bx.2.1 d_Mo_write_116 (lv_at hl 0 rfl) ?_
        refine lv_iload_n Bx.1 Bx.2.1 d_Mo_write_118 rfl (lv_at hl 3 rfl) ?_
        refine lv_icmp_ge Bx.1 Bx.2.1 d_Mo_write_119 rfl (fun h => ?_) (fun h => ?_)
        · exact absurd h (nI_ge (by omega) (by omega))
        · refine lv_aload_n Bx.1 Bx.2.1 d_Mo_write_122 rfl (lv_at hl 1 rfl) ?_
          refine f_get Bx hP (by omega) h4k rfl inMo 2 (by decide) kw_658 rfl rfl d_Mo_write_123 ?_
          refine lv_aload_n Bx.1 Bx.2.1 d_Mo_write_126 rfl (lv_at hl 1 rfl) ?_
          refine f_get Bx hP (by omega) h4k rfl inMo 1 (by decide) kw_657 rfl rfl d_Mo_write_127 ?_
          refine lv_iload Bx.1 Bx.2.1 d_Mo_write_130 (lv_at hl 0 rfl) ?_
          refine lv_iadd Bx.1 Bx.2.1 d_Mo_write_132 ?_
          rw [show (va_up J 0 0) 1 = nI Z from hJ, nI_add]
          refine lv_lload_n Bx.1 Bx.2.1 d_Mo_write_133 rfl (lv_at hl 2 rfl) ?_
          refine lv_bipush (v := 8) Bx.1 Bx.2.1 d_Mo_write_134 (by decide) ?_
          refine lv_iload Bx.1 Bx.2.1 d_Mo_write_136 (lv_at hl 0 rfl) ?_
          refine lv_imul Bx.1 Bx.2.1 d_Mo_write_138 ?_
          refine lv_lshr Bx.1 Bx.2.1 d_Mo_write_139 rfl ?_
          refine lv_ldc2 Bx.1 Bx.2.1 Bx.2.2.2.1 (Bx.2.2.1 _ (tb_g kw_761 rfl)) d_Mo_write_140 ?_
          refine lv_land Bx.1 Bx.2.1 d_Mo_write_143 ?_
          refine lv_l2i Bx.1 Bx.2.1 d_Mo_write_144 rfl ?_
          refine f_iast (x := bm8 x (nI k)) (i := nI (Z + k)) Bx hP hD hS (by omega) h5k (vp_in_nI (by omega) (by decide)) d_Mo_write_145 (fun H locs hP hS => ?_)
          rw [nI_clamp (by omega), apM_s, up_up] at hP
          refine lv_iinc (lv' := [(5, .int ((nI k + (1)))), (0, .ref (ad 224)), (1, .long (x)), (3, .int (nI N))]) Bx.1 Bx.2.1 d_Mo_write_146 hl (k := 0) rfl rfl (by decide) rfl (fun ls hl => ?_)
          refine lv_goto Bx.1 Bx.2.1 d_Mo_write_149 rfl ?_
          exact ih (k + 1) ls H locs (by omega) ha hroom (by rw [nI_succ]; exact (lv_sub hl [0, 1, 2, 3] rfl)) hP hS
    have tail : ∀ ls : Array Slot, lv_has ls 7 [(4, .int (if allB (fun i => okT (bm8 x (nI i))) N then 1 else 0)), (0, .ref (ad 224)), (1, .long (x)), (3, .int (nI N))] → W p l e (headSpec (Cond.code y_Mo_write c_Mo_write 7 (some .int) :: tg) ({ frames := 1, cells := 0, slots := 0, locals := 30 } : Room)).room s m [.ref (ad 224), .long (x), .int (nI N)].toArray below meth c H locs 0 0 (MQ below (va_Qi (fun r mem' => (((nI N) < 1 ∨ 8 < (nI N)) ∧ r = 0 ∧ ∃ J' : Nat → Int32, mem' = va_up mem 224 (moC ad J') ∧ J1 J J' 1) ∨ ∃ M : Nat, (nI N) = nI M ∧ 1 ≤ M ∧ M ≤ 8 ∧ ((allB (fun i => okT (bm8 x (nI i))) M = false ∧ r = 0 ∧ ∃ J' : Nat → Int32, mem' = va_up mem 224 (moC ad J') ∧ J1 J J' 1) ∨ (allB (fun i => okT (bm8 x (nI i))) M = true ∧ 240 < Z + M ∧ r = 0 ∧ ∃ J' : Nat → Int32, mem' = va_up mem 224 (moC ad J') ∧ J1 J J' 2) ∨ (allB (fun i => okT (bm8 x (nI i))) M = true ∧ Z + M ≤ 240 ∧ r = nI (Z + M) ∧ ∃ J' : Nat → Int32, mem' = va_up (va_up mem 225 (.inl (cy 1, 240, .inl (apM f Z x M)))) 224 (moC ad J') ∧ J' 0 = 0 ∧ J' 1 = nI (Z + M) ∧ ∀ i, i ≠ 0 → i ≠ 1 → J' i = J i))) (PP D n ad) (Az sz)) [.ref (ad 224), .long (x), .int (nI N)].toArray s 0 0 (Az sz)) (F0 m 84 ls []) := by
      intro ls hl
      refine lv_iload Bx.1 Bx.2.1 d_Mo_write_84 (lv_at hl 0 rfl) ?_
      refine lv_if_ne Bx.1 Bx.2.1 d_Mo_write_86 rfl (fun h2 => ?_) (fun h2 => ?_)
      · have ha := if01n h2
        refine lv_aload_n Bx.1 Bx.2.1 d_Mo_write_95 rfl (lv_at hl 1 rfl) ?_
        refine f_get Bx hP (by omega) hJ0 rfl inMo 1 (by decide) kw_657 rfl rfl d_Mo_write_96 ?_
        refine lv_iload_n Bx.1 Bx.2.1 d_Mo_write_99 rfl (lv_at hl 3 rfl) ?_
        refine lv_iadd Bx.1 Bx.2.1 d_Mo_write_100 ?_
        refine lv_sipush (v := 240) Bx.1 Bx.2.1 d_Mo_write_101 (by decide) ?_
        refine lv_icmp_le Bx.1 Bx.2.1 d_Mo_write_104 rfl (fun h3 => ?_) (fun h3 => ?_)
        · have hroom : Z + N ≤ 240 := by rw [show (va_up J 0 0) 1 = nI Z from hJ, nI_add, show (240 : Int32) = nI 240 from rfl, nI_leI (by omega) (by decide)] at h3; exact h3
          refine lv_iconst (v := 0) Bx.1 Bx.2.1 d_Mo_write_113 (by decide) ?_
          refine lv_istore (lv' := [(5, .int (0)), (4, .int (if allB (fun i => okT (bm8 x (nI i))) N then 1 else 0)), (0, .ref (ad 224)), (1, .long (x)), (3, .int (nI N))]) Bx.1 Bx.2.1 d_Mo_write_114 hl (by decide) rfl (fun ls hl => ?_)
          exact loop2 N 0 ls _ _ (by omega) ha hroom (lv_sub hl [0, 2, 3, 4] rfl) (by rw [apM_0, up_id mem1 h51]; exact hP) hS
        · have hroom : 240 < Z + N := by rw [show (va_up J 0 0) 1 = nI Z from hJ, nI_add, show (240 : Int32) = nI 240 from rfl, nI_leI (by omega) (by decide)] at h3; omega
          refine lv_aload_n Bx.1 Bx.2.1 d_Mo_write_107 rfl (lv_at hl 1 rfl) ?_
          refine lv_iconst (v := 2) Bx.1 Bx.2.1 d_Mo_write_108 (by decide) ?_
          refine f_callVi (na := 1) (As := [.int (2)]) (rest := []) Bx hml E hP hD hS (by omega) hJ0 rfl (m_Mo_fail l hn hJ0) kw_757 kw_759 sel_Mo_fail kw_8 kw_760 (by decide +kernel) ⟨rfl, rfl⟩ ⟨Nat.le_of_ble_eq_true rfl, Nat.le_of_ble_eq_true rfl⟩ rfl hl.1 (Nat.le_of_ble_eq_true rfl) d_Mo_write_109 ⟨Nat.le_of_ble_eq_true rfl, Nat.le_of_ble_eq_true rfl⟩ (fun r4 mem5 H locs hq hP hS => ?_)
          have hD : va_D (Az sz) (fw n ad mem5) := fw_D hD
          obtain ⟨hq0, hq⟩ := hq
          subst hq0
          exact W.iret (v := 0) hx hb hr (fun t ht hW => ⟨⟨0, mem5, rfl, Or.inr ⟨N, rfl, hN1, hN8, Or.inr (Or.inl ⟨ha, hroom, rfl, ⟨va_up (va_up J 0 0) 0 2, by rw [hq, e_mem1, up_up], va_up_self _ _ _, fun i hi => by rw [va_up_ne _ _ hi, va_up_ne _ _ hi]⟩⟩)⟩, by show va_P _ _ _ t.heap; rw [ht]; exact hP⟩, hS.F ht⟩) hS.2.2 d_Mo_write_112
      · refine lv_aload_n Bx.1 Bx.2.1 d_Mo_write_89 rfl (lv_at hl 1 rfl) ?_
        refine lv_iconst (v := 1) Bx.1 Bx.2.1 d_Mo_write_90 (by decide) ?_
        refine f_callVi (na := 1) (As := [.int (1)]) (rest := []) Bx hml E hP hD hS (by omega) hJ0 rfl (m_Mo_fail l hn hJ0) kw_757 kw_759 sel_Mo_fail kw_8 kw_760 (by decide +kernel) ⟨rfl, rfl⟩ ⟨Nat.le_of_ble_eq_true rfl, Nat.le_of_ble_eq_true rfl⟩ rfl hl.1 (Nat.le_of_ble_eq_true rfl) d_Mo_write_91 ⟨Nat.le_of_ble_eq_true rfl, Nat.le_of_ble_eq_true rfl⟩ (fun r6 mem7 H locs hq hP hS => ?_)
        have hD : va_D (Az sz) (fw n ad mem7) := fw_D hD
        obtain ⟨hq0, hq⟩ := hq
        subst hq0
        exact W.iret (v := 0) hx hb hr (fun t ht hW => ⟨⟨0, mem7, rfl, Or.inr ⟨N, rfl, hN1, hN8, Or.inl ⟨if01z h2, rfl, ⟨va_up (va_up J 0 0) 0 1, by rw [hq, e_mem1, up_up], va_up_self _ _ _, fun i hi => by rw [va_up_ne _ _ hi, va_up_ne _ _ hi]⟩⟩⟩, by show va_P _ _ _ t.heap; rw [ht]; exact hP⟩, hS.F ht⟩) hS.2.2 d_Mo_write_94
    have loop1 : ∀ (d k : Nat) (ls : Array Slot), k + d = N → lv_has ls 7 [(5, .int (nI k)), (4, .int (if allB (fun i => okT (bm8 x (nI i))) k then 1 else 0)), (0, .ref (ad 224)), (1, .long (x)), (3, .int (nI N))] → W p l e (headSpec (Cond.code y_Mo_write c_Mo_write 7 (some .int) :: tg) ({ frames := 1, cells := 0, slots := 0, locals := 30 } : Room)).room s m [.ref (ad 224), .long (x), .int (nI N)].toArray below meth c H locs 0 0 (MQ below (va_Qi (fun r mem' => (((nI N) < 1 ∨ 8 < (nI N)) ∧ r = 0 ∧ ∃ J' : Nat → Int32, mem' = va_up mem 224 (moC ad J') ∧ J1 J J' 1) ∨ ∃ M : Nat, (nI N) = nI M ∧ 1 ≤ M ∧ M ≤ 8 ∧ ((allB (fun i => okT (bm8 x (nI i))) M = false ∧ r = 0 ∧ ∃ J' : Nat → Int32, mem' = va_up mem 224 (moC ad J') ∧ J1 J J' 1) ∨ (allB (fun i => okT (bm8 x (nI i))) M = true ∧ 240 < Z + M ∧ r = 0 ∧ ∃ J' : Nat → Int32, mem' = va_up mem 224 (moC ad J') ∧ J1 J J' 2) ∨ (allB (fun i => okT (bm8 x (nI i))) M = true ∧ Z + M ≤ 240 ∧ r = nI (Z + M) ∧ ∃ J' : Nat → Int32, mem' = va_up (va_up mem 225 (.inl (cy 1, 240, .inl (apM f Z x M)))) 224 (moC ad J') ∧ J' 0 = 0 ∧ J' 1 = nI (Z + M) ∧ ∀ i, i ≠ 0 → i ≠ 1 → J' i = J i))) (PP D n ad) (Az sz)) [.ref (ad 224), .long (x), .int (nI N)].toArray s 0 0 (Az sz)) (F0 m 27 ls []) := by
      intro d
      induction d with
      | zero =>
        intro k ls hk hl
        obtain rfl : k = N := by omega
        refine lv_iload Bx.1 Bx.2.1 d_Mo_write_27 (lv_at hl 0 rfl) ?_
        refine lv_iload_n Bx.1 Bx.2.1 d_Mo_write_29 rfl (lv_at hl 4 rfl) ?_
        refine lv_icmp_ge Bx.1 Bx.2.1 d_Mo_write_30 rfl (fun h => ?_) (fun h => ?_)
        · exact tail ls (lv_sub hl [1, 2, 3, 4] rfl)
        · exact absurd (nI_le (Nat.le_refl k) (by omega)) h
      | succ d ih =>
        intro k ls hk hl
        refine lv_iload Bx.1 Bx.2.1 d_Mo_write_27 (lv_at hl 0 rfl) ?_
        refine lv_iload_n Bx.1 Bx.2.1 d_Mo_write_29 rfl (lv_at hl 4 rfl) ?_
        refine lv_icmp_ge Bx.1 Bx.2.1 d_Mo_write_30 rfl (fun h => ?_) (fun h => ?_)
        · exact absurd h (nI_ge (by omega) (by omega))
        · refine lv_lload_n Bx.1 Bx.2.1 d_Mo_write_33 rfl (lv_at hl 3 rfl) ?_
          refine lv_bipush (v := 8) Bx.1 Bx.2.1 d_Mo_write_34 (by decide) ?_
          refine lv_iload Bx.1 Bx.2.1 d_Mo_write_36 (lv_at hl 0 rfl) ?_
          refine lv_imul Bx.1 Bx.2.1 d_Mo_write_38 ?_
          refine lv_lshr Bx.1 Bx.2.1 d_Mo_write_39 rfl ?_
          refine lv_ldc2 Bx.1 Bx.2.1 Bx.2.2.2.1 (Bx.2.2.1 _ (tb_g kw_761 rfl)) d_Mo_write_40 ?_
          refine lv_land Bx.1 Bx.2.1 d_Mo_write_43 ?_
          refine lv_l2i Bx.1 Bx.2.1 d_Mo_write_44 rfl ?_
          refine lv_istore (lv' := [(6, .int (((x) >>> ((8 * nI k).toInt64 &&& 63) &&& 255).toInt32)), (5, .int (nI k)), (4, .int (if allB (fun i => okT (bm8 x (nI i))) k then 1 else 0)), (0, .ref (ad 224)), (1, .long (x)), (3, .int (nI N))]) Bx.1 Bx.2.1 d_Mo_write_45 hl (by decide) rfl (fun ls hl => ?_)
          refine lv_iload Bx.1 Bx.2.1 d_Mo_write_47 (lv_at hl 2 rfl) ?_
          refine lv_if_eq Bx.1 Bx.2.1 d_Mo_write_49 rfl (fun h1 => ?_) (fun h1 => ?_)
          · have hg := if01z h1
            refine lv_iconst (v := 0) Bx.1 Bx.2.1 d_Mo_write_75 (by decide) ?_
            refine lv_istore (lv' := [(4, .int (0)), (6, .int (((x) >>> ((8 * nI k).toInt64 &&& 63) &&& 255).toInt32)), (5, .int (nI k)), (0, .ref (ad 224)), (1, .long (x)), (3, .int (nI N))]) Bx.1 Bx.2.1 d_Mo_write_76 hl (by decide) rfl (fun ls hl => ?_)
            refine lv_iinc (lv' := [(5, .int ((nI k + (1)))), (4, .int (0)), (6, .int (((x) >>> ((8 * nI k).toInt64 &&& 63) &&& 255).toInt32)), (0, .ref (ad 224)), (1, .long (x)), (3, .int (nI N))]) Bx.1 Bx.2.1 d_Mo_write_78 hl (k := 2) rfl rfl (by decide) rfl (fun ls hl => ?_)
            refine lv_goto Bx.1 Bx.2.1 d_Mo_write_81 rfl ?_
            exact ih (k + 1) ls (by omega) (by rw [nI_succ, show allB (fun i => okT (bm8 x (nI i))) (k + 1) = false from by simp only [allB, hg, Bool.false_and]]; exact (lv_sub hl [0, 1, 3, 4, 5] rfl))
          · have hg := if01n h1
            refine lv_iload Bx.1 Bx.2.1 d_Mo_write_52 (lv_at hl 0 rfl) ?_
            refine lv_bipush (v := 10) Bx.1 Bx.2.1 d_Mo_write_54 (by decide) ?_
            refine lv_icmp_eq Bx.1 Bx.2.1 d_Mo_write_56 rfl (fun h2 => ?_) (fun h2 => ?_)
            · have hc : bm8 x (nI k) = 10 := h2
              refine lv_iconst (v := 1) Bx.1 Bx.2.1 d_Mo_write_71 (by decide) ?_
              refine lv_goto Bx.1 Bx.2.1 d_Mo_write_72 rfl ?_
              refine lv_istore (lv' := [(4, .int (1)), (6, .int (((x) >>> ((8 * nI k).toInt64 &&& 63) &&& 255).toInt32)), (5, .int (nI k)), (0, .ref (ad 224)), (1, .long (x)), (3, .int (nI N))]) Bx.1 Bx.2.1 d_Mo_write_76 hl (by decide) rfl (fun ls hl => ?_)
              refine lv_iinc (lv' := [(5, .int ((nI k + (1)))), (4, .int (1)), (6, .int (((x) >>> ((8 * nI k).toInt64 &&& 63) &&& 255).toInt32)), (0, .ref (ad 224)), (1, .long (x)), (3, .int (nI N))]) Bx.1 Bx.2.1 d_Mo_write_78 hl (k := 2) rfl rfl (by decide) rfl (fun ls hl => ?_)
              refine lv_goto Bx.1 Bx.2.1 d_Mo_write_81 rfl ?_
              exact ih (k + 1) ls (by omega) (by rw [nI_succ, show allB (fun i => okT (bm8 x (nI i))) (k + 1) = true from allB_yes hg (by simp [okT, hc])]; exact (lv_sub hl [0, 1, 3, 4, 5] rfl))
            · have hc : ¬ bm8 x (nI k) = 10 := h2
              refine lv_iload Bx.1 Bx.2.1 d_Mo_write_59 (lv_at hl 0 rfl) ?_
              refine lv_bipush (v := 32) Bx.1 Bx.2.1 d_Mo_write_61 (by decide) ?_
              refine lv_bipush (v := 126) Bx.1 Bx.2.1 d_Mo_write_63 (by decide) ?_
              refine f_callSi (na := 3) (As := [.int (bm8 x (nI k)), .int (32), .int (126)]) (rest := []) Bx hml E.2.1 (m_Mo_within l (bm8 x (nI k)) 32 126) kw_754 kw_755 kw_8 kw_756 (by decide +kernel) ⟨rfl, rfl⟩ ⟨Nat.le_of_ble_eq_true rfl, Nat.le_of_ble_eq_true rfl⟩ rfl hl.1 (Nat.le_of_ble_eq_true rfl) d_Mo_write_65 ⟨Nat.le_of_ble_eq_true rfl, Nat.le_of_ble_eq_true rfl⟩ (fun r8 hr3 => ?_)
              subst hr3
              refine lv_if_eq Bx.1 Bx.2.1 d_Mo_write_68 rfl (fun h3 => ?_) (fun h3 => ?_)
              · have hc2 : bm8 x (nI k) < 32 ∨ 126 < bm8 x (nI k) := by
                  by_cases q : bm8 x (nI k) < 32 ∨ 126 < bm8 x (nI k)
                  · exact q
                  · rw [if_neg q] at h3; exact absurd h3 (by decide)
                have hc3 : okT (bm8 x (nI k)) = false := by
                  simp only [okT, hc, decide_false, Bool.false_or]
                  rcases hc2 with q | q
                  · simp [q]
                  · simp [Int32.not_le.mpr q]
                refine lv_iconst (v := 0) Bx.1 Bx.2.1 d_Mo_write_75 (by decide) ?_
                refine lv_istore (lv' := [(4, .int (0)), (6, .int (bm8 x (nI k))), (5, .int (nI k)), (0, .ref (ad 224)), (1, .long (x)), (3, .int (nI N))]) Bx.1 Bx.2.1 d_Mo_write_76 hl (by decide) rfl (fun ls hl => ?_)
                refine lv_iinc (lv' := [(5, .int ((nI k + (1)))), (4, .int (0)), (6, .int (bm8 x (nI k))), (0, .ref (ad 224)), (1, .long (x)), (3, .int (nI N))]) Bx.1 Bx.2.1 d_Mo_write_78 hl (k := 2) rfl rfl (by decide) rfl (fun ls hl => ?_)
                refine lv_goto Bx.1 Bx.2.1 d_Mo_write_81 rfl ?_
                exact ih (k + 1) ls (by omega) (by rw [nI_succ, show allB (fun i => okT (bm8 x (nI i))) (k + 1) = false from by simp [allB, hc3]]; exact (lv_sub hl [0, 1, 3, 4, 5] rfl))
              · have hc2 : ¬ (bm8 x (nI k) < 32 ∨ 126 < bm8 x (nI k)) := fun q => by rw [if_pos q] at h3; exact h3 rfl
                have hc3 : okT (bm8 x (nI k)) = true := by
                  have q1 : ¬ bm8 x (nI k) < 32 := fun q => hc2 (Or.inl q)
                  have q2 : bm8 x (nI k) ≤ 126 := Int32.not_lt.mp (fun q => hc2 (Or.inr q))
                  simp [okT, q1, q2]
                refine lv_iconst (v := 1) Bx.1 Bx.2.1 d_Mo_write_71 (by decide) ?_
                refine lv_goto Bx.1 Bx.2.1 d_Mo_write_72 rfl ?_
                refine lv_istore (lv' := [(4, .int (1)), (6, .int (bm8 x (nI k))), (5, .int (nI k)), (0, .ref (ad 224)), (1, .long (x)), (3, .int (nI N))]) Bx.1 Bx.2.1 d_Mo_write_76 hl (by decide) rfl (fun ls hl => ?_)
                refine lv_iinc (lv' := [(5, .int ((nI k + (1)))), (4, .int (1)), (6, .int (bm8 x (nI k))), (0, .ref (ad 224)), (1, .long (x)), (3, .int (nI N))]) Bx.1 Bx.2.1 d_Mo_write_78 hl (k := 2) rfl rfl (by decide) rfl (fun ls hl => ?_)
                refine lv_goto Bx.1 Bx.2.1 d_Mo_write_81 rfl ?_
                exact ih (k + 1) ls (by omega) (by rw [nI_succ, allB_yes hg hc3]; exact (lv_sub hl [0, 1, 3, 4, 5] rfl))
    exact loop1 N 0 ls (by omega) (lv_sub hl [0, 1, 2, 3, 4] rfl)
  · refine lv_aload_n Bx.1 Bx.2.1 d_Mo_write_15 rfl (lv_at hl 0 rfl) ?_
    refine lv_iconst (v := 1) Bx.1 Bx.2.1 d_Mo_write_16 (by decide) ?_
    refine f_callVi (na := 1) (As := [.int (1)]) (rest := []) Bx hml E hP hD hS (by omega) h_mem1 rfl (m_Mo_fail l hn hJ0) kw_757 kw_759 sel_Mo_fail kw_8 kw_760 (by decide +kernel) ⟨rfl, rfl⟩ ⟨Nat.le_of_ble_eq_true rfl, Nat.le_of_ble_eq_true rfl⟩ rfl hl.1 (Nat.le_of_ble_eq_true rfl) d_Mo_write_17 ⟨Nat.le_of_ble_eq_true rfl, Nat.le_of_ble_eq_true rfl⟩ (fun r9 mem10 H locs hq hP hS => ?_)
    have hD : va_D (Az sz) (fw n ad mem10) := fw_D hD
    obtain ⟨hq0, hq⟩ := hq
    subst hq0
    exact W.iret (v := 0) hx hb hr (fun t ht hW => ⟨⟨0, mem10, rfl, Or.inl ⟨bc_no h, rfl, ⟨va_up (va_up J 0 0) 0 1, by rw [hq, e_mem1, up_up], va_up_self _ _ _, fun i hi => by rw [va_up_ne _ _ hi, va_up_ne _ _ hi]⟩⟩, by show va_P _ _ _ t.heap; rw [ht]; exact hP⟩, hS.F ht⟩) hS.2.2 d_Mo_write_20
