theorem d_Ab_isByteCount_0 : decode c_Ab_isByteCount 0 = .ok (.iload_n 0, 1) := by decide +kernel
theorem d_Ab_isByteCount_1 : decode c_Ab_isByteCount 1 = .ok (.iconst 1, 1) := by decide +kernel
theorem d_Ab_isByteCount_2 : decode c_Ab_isByteCount 2 = .ok (.if_icmp .lt 13, 3) := by decide +kernel
theorem d_Ab_isByteCount_5 : decode c_Ab_isByteCount 5 = .ok (.iload_n 0, 1) := by decide +kernel
theorem d_Ab_isByteCount_6 : decode c_Ab_isByteCount 6 = .ok (.bipush 8, 2) := by decide +kernel
theorem d_Ab_isByteCount_8 : decode c_Ab_isByteCount 8 = .ok (.if_icmp .gt 7, 3) := by decide +kernel
theorem d_Ab_isByteCount_11 : decode c_Ab_isByteCount 11 = .ok (.iconst 1, 1) := by decide +kernel
theorem d_Ab_isByteCount_12 : decode c_Ab_isByteCount 12 = .ok (.goto 4, 3) := by decide +kernel
theorem d_Ab_isByteCount_15 : decode c_Ab_isByteCount 15 = .ok (.iconst 0, 1) := by decide +kernel
theorem d_Ab_isByteCount_16 : decode c_Ab_isByteCount 16 = .ok (.ireturn, 1) := by decide +kernel
theorem d_Ab_byteOf_0 : decode c_Ab_byteOf 0 = .ok (.lload_n 0, 1) := by decide +kernel
theorem d_Ab_byteOf_1 : decode c_Ab_byteOf 1 = .ok (.bipush 8, 2) := by decide +kernel
theorem d_Ab_byteOf_3 : decode c_Ab_byteOf 3 = .ok (.iload_n 2, 1) := by decide +kernel
theorem d_Ab_byteOf_4 : decode c_Ab_byteOf 4 = .ok (.imul, 1) := by decide +kernel
theorem d_Ab_byteOf_5 : decode c_Ab_byteOf 5 = .ok (.lushr, 1) := by decide +kernel
theorem d_Ab_byteOf_6 : decode c_Ab_byteOf 6 = .ok (.ldc2_w 125, 3) := by decide +kernel
theorem d_Ab_byteOf_9 : decode c_Ab_byteOf 9 = .ok (.land, 1) := by decide +kernel
theorem d_Ab_byteOf_10 : decode c_Ab_byteOf 10 = .ok (.l2i, 1) := by decide +kernel
theorem d_Ab_byteOf_11 : decode c_Ab_byteOf 11 = .ok (.ireturn, 1) := by decide +kernel
theorem d_Ab_areTextCodes_0 : decode c_Ab_areTextCodes 0 = .ok (.iconst 0, 1) := by decide +kernel
theorem d_Ab_areTextCodes_1 : decode c_Ab_areTextCodes 1 = .ok (.istore_n 3, 1) := by decide +kernel
theorem d_Ab_areTextCodes_2 : decode c_Ab_areTextCodes 2 = .ok (.iload_n 3, 1) := by decide +kernel
theorem d_Ab_areTextCodes_3 : decode c_Ab_areTextCodes 3 = .ok (.iload_n 2, 1) := by decide +kernel
theorem d_Ab_areTextCodes_4 : decode c_Ab_areTextCodes 4 = .ok (.if_icmp .ge 39, 3) := by decide +kernel
theorem d_Ab_areTextCodes_7 : decode c_Ab_areTextCodes 7 = .ok (.lload_n 0, 1) := by decide +kernel
theorem d_Ab_areTextCodes_8 : decode c_Ab_areTextCodes 8 = .ok (.iload_n 3, 1) := by decide +kernel
theorem d_Ab_areTextCodes_9 : decode c_Ab_areTextCodes 9 = .ok (.invokestatic 121, 3) := by decide +kernel
theorem d_Ab_areTextCodes_12 : decode c_Ab_areTextCodes 12 = .ok (.istore 4, 2) := by decide +kernel
theorem d_Ab_areTextCodes_14 : decode c_Ab_areTextCodes 14 = .ok (.iload 4, 2) := by decide +kernel
theorem d_Ab_areTextCodes_16 : decode c_Ab_areTextCodes 16 = .ok (.bipush 10, 2) := by decide +kernel
theorem d_Ab_areTextCodes_18 : decode c_Ab_areTextCodes 18 = .ok (.if_icmp .eq 19, 3) := by decide +kernel
theorem d_Ab_areTextCodes_21 : decode c_Ab_areTextCodes 21 = .ok (.iload 4, 2) := by decide +kernel
theorem d_Ab_areTextCodes_23 : decode c_Ab_areTextCodes 23 = .ok (.bipush 32, 2) := by decide +kernel
theorem d_Ab_areTextCodes_25 : decode c_Ab_areTextCodes 25 = .ok (.if_icmp .lt 10, 3) := by decide +kernel
theorem d_Ab_areTextCodes_28 : decode c_Ab_areTextCodes 28 = .ok (.iload 4, 2) := by decide +kernel
theorem d_Ab_areTextCodes_30 : decode c_Ab_areTextCodes 30 = .ok (.bipush 126, 2) := by decide +kernel
theorem d_Ab_areTextCodes_32 : decode c_Ab_areTextCodes 32 = .ok (.if_icmp .le 5, 3) := by decide +kernel
theorem d_Ab_areTextCodes_35 : decode c_Ab_areTextCodes 35 = .ok (.iconst 0, 1) := by decide +kernel
theorem d_Ab_areTextCodes_36 : decode c_Ab_areTextCodes 36 = .ok (.ireturn, 1) := by decide +kernel
theorem d_Ab_areTextCodes_37 : decode c_Ab_areTextCodes 37 = .ok (.iinc 3 1, 3) := by decide +kernel
theorem d_Ab_areTextCodes_40 : decode c_Ab_areTextCodes 40 = .ok (.goto (-38), 3) := by decide +kernel
theorem d_Ab_areTextCodes_43 : decode c_Ab_areTextCodes 43 = .ok (.iconst 1, 1) := by decide +kernel
theorem d_Ab_areTextCodes_44 : decode c_Ab_areTextCodes 44 = .ok (.ireturn, 1) := by decide +kernel
theorem d_Ab_areInputCodes_0 : decode c_Ab_areInputCodes 0 = .ok (.iconst 0, 1) := by decide +kernel
theorem d_Ab_areInputCodes_1 : decode c_Ab_areInputCodes 1 = .ok (.istore_n 3, 1) := by decide +kernel
theorem d_Ab_areInputCodes_2 : decode c_Ab_areInputCodes 2 = .ok (.iload_n 3, 1) := by decide +kernel
theorem d_Ab_areInputCodes_3 : decode c_Ab_areInputCodes 3 = .ok (.iload_n 2, 1) := by decide +kernel
theorem d_Ab_areInputCodes_4 : decode c_Ab_areInputCodes 4 = .ok (.if_icmp .ge 21, 3) := by decide +kernel
theorem d_Ab_areInputCodes_7 : decode c_Ab_areInputCodes 7 = .ok (.lload_n 0, 1) := by decide +kernel
theorem d_Ab_areInputCodes_8 : decode c_Ab_areInputCodes 8 = .ok (.iload_n 3, 1) := by decide +kernel
theorem d_Ab_areInputCodes_9 : decode c_Ab_areInputCodes 9 = .ok (.invokestatic 121, 3) := by decide +kernel
theorem d_Ab_areInputCodes_12 : decode c_Ab_areInputCodes 12 = .ok (.bipush 127, 2) := by decide +kernel
theorem d_Ab_areInputCodes_14 : decode c_Ab_areInputCodes 14 = .ok (.if_icmp .le 5, 3) := by decide +kernel
theorem d_Ab_areInputCodes_17 : decode c_Ab_areInputCodes 17 = .ok (.iconst 0, 1) := by decide +kernel
theorem d_Ab_areInputCodes_18 : decode c_Ab_areInputCodes 18 = .ok (.ireturn, 1) := by decide +kernel
theorem d_Ab_areInputCodes_19 : decode c_Ab_areInputCodes 19 = .ok (.iinc 3 1, 3) := by decide +kernel
theorem d_Ab_areInputCodes_22 : decode c_Ab_areInputCodes 22 = .ok (.goto (-20), 3) := by decide +kernel
theorem d_Ab_areInputCodes_25 : decode c_Ab_areInputCodes 25 = .ok (.iconst 1, 1) := by decide +kernel
theorem d_Ab_areInputCodes_26 : decode c_Ab_areInputCodes 26 = .ok (.ireturn, 1) := by decide +kernel
theorem d_Ab_isLetter_0 : decode c_Ab_isLetter 0 = .ok (.iload_n 0, 1) := by decide +kernel
theorem d_Ab_isLetter_1 : decode c_Ab_isLetter 1 = .ok (.bipush 97, 2) := by decide +kernel
theorem d_Ab_isLetter_3 : decode c_Ab_isLetter 3 = .ok (.if_icmp .lt 9, 3) := by decide +kernel
theorem d_Ab_isLetter_6 : decode c_Ab_isLetter 6 = .ok (.iload_n 0, 1) := by decide +kernel
theorem d_Ab_isLetter_7 : decode c_Ab_isLetter 7 = .ok (.bipush 122, 2) := by decide +kernel
theorem d_Ab_isLetter_9 : decode c_Ab_isLetter 9 = .ok (.if_icmp .le 15, 3) := by decide +kernel
theorem d_Ab_isLetter_12 : decode c_Ab_isLetter 12 = .ok (.iload_n 0, 1) := by decide +kernel
theorem d_Ab_isLetter_13 : decode c_Ab_isLetter 13 = .ok (.bipush 65, 2) := by decide +kernel
theorem d_Ab_isLetter_15 : decode c_Ab_isLetter 15 = .ok (.if_icmp .lt 13, 3) := by decide +kernel
theorem d_Ab_isLetter_18 : decode c_Ab_isLetter 18 = .ok (.iload_n 0, 1) := by decide +kernel
theorem d_Ab_isLetter_19 : decode c_Ab_isLetter 19 = .ok (.bipush 90, 2) := by decide +kernel
theorem d_Ab_isLetter_21 : decode c_Ab_isLetter 21 = .ok (.if_icmp .gt 7, 3) := by decide +kernel
theorem d_Ab_isLetter_24 : decode c_Ab_isLetter 24 = .ok (.iconst 1, 1) := by decide +kernel
theorem d_Ab_isLetter_25 : decode c_Ab_isLetter 25 = .ok (.goto 4, 3) := by decide +kernel
theorem d_Ab_isLetter_28 : decode c_Ab_isLetter 28 = .ok (.iconst 0, 1) := by decide +kernel
theorem d_Ab_isLetter_29 : decode c_Ab_isLetter 29 = .ok (.ireturn, 1) := by decide +kernel
theorem d_Ab_isDigit_0 : decode c_Ab_isDigit 0 = .ok (.iload_n 0, 1) := by decide +kernel
theorem d_Ab_isDigit_1 : decode c_Ab_isDigit 1 = .ok (.bipush 48, 2) := by decide +kernel
theorem d_Ab_isDigit_3 : decode c_Ab_isDigit 3 = .ok (.if_icmp .lt 13, 3) := by decide +kernel
theorem d_Ab_isDigit_6 : decode c_Ab_isDigit 6 = .ok (.iload_n 0, 1) := by decide +kernel
theorem d_Ab_isDigit_7 : decode c_Ab_isDigit 7 = .ok (.bipush 57, 2) := by decide +kernel
theorem d_Ab_isDigit_9 : decode c_Ab_isDigit 9 = .ok (.if_icmp .gt 7, 3) := by decide +kernel
theorem d_Ab_isDigit_12 : decode c_Ab_isDigit 12 = .ok (.iconst 1, 1) := by decide +kernel
theorem d_Ab_isDigit_13 : decode c_Ab_isDigit 13 = .ok (.goto 4, 3) := by decide +kernel
theorem d_Ab_isDigit_16 : decode c_Ab_isDigit 16 = .ok (.iconst 0, 1) := by decide +kernel
theorem d_Ab_isDigit_17 : decode c_Ab_isDigit 17 = .ok (.ireturn, 1) := by decide +kernel
theorem d_Ab_smallOf_0 : decode c_Ab_smallOf 0 = .ok (.iload_n 0, 1) := by decide +kernel
theorem d_Ab_smallOf_1 : decode c_Ab_smallOf 1 = .ok (.bipush 65, 2) := by decide +kernel
theorem d_Ab_smallOf_3 : decode c_Ab_smallOf 3 = .ok (.if_icmp .lt 19, 3) := by decide +kernel
theorem d_Ab_smallOf_6 : decode c_Ab_smallOf 6 = .ok (.iload_n 0, 1) := by decide +kernel
theorem d_Ab_smallOf_7 : decode c_Ab_smallOf 7 = .ok (.bipush 90, 2) := by decide +kernel
theorem d_Ab_smallOf_9 : decode c_Ab_smallOf 9 = .ok (.if_icmp .gt 13, 3) := by decide +kernel
theorem d_Ab_smallOf_12 : decode c_Ab_smallOf 12 = .ok (.iload_n 0, 1) := by decide +kernel
theorem d_Ab_smallOf_13 : decode c_Ab_smallOf 13 = .ok (.bipush 65, 2) := by decide +kernel
theorem d_Ab_smallOf_15 : decode c_Ab_smallOf 15 = .ok (.isub, 1) := by decide +kernel
theorem d_Ab_smallOf_16 : decode c_Ab_smallOf 16 = .ok (.bipush 97, 2) := by decide +kernel
theorem d_Ab_smallOf_18 : decode c_Ab_smallOf 18 = .ok (.iadd, 1) := by decide +kernel
theorem d_Ab_smallOf_19 : decode c_Ab_smallOf 19 = .ok (.goto 4, 3) := by decide +kernel
theorem d_Ab_smallOf_22 : decode c_Ab_smallOf 22 = .ok (.iload_n 0, 1) := by decide +kernel
theorem d_Ab_smallOf_23 : decode c_Ab_smallOf 23 = .ok (.ireturn, 1) := by decide +kernel
theorem d_Ch_hasRoomFor_0 : decode c_Ch_hasRoomFor 0 = .ok (.iload_n 1, 1) := by decide +kernel
theorem d_Ch_hasRoomFor_1 : decode c_Ch_hasRoomFor 1 = .ok (.aload_n 0, 1) := by decide +kernel
theorem d_Ch_hasRoomFor_2 : decode c_Ch_hasRoomFor 2 = .ok (.getfield 9, 3) := by decide +kernel
theorem d_Ch_hasRoomFor_5 : decode c_Ch_hasRoomFor 5 = .ok (.arraylength, 1) := by decide +kernel
theorem d_Ch_hasRoomFor_6 : decode c_Ch_hasRoomFor 6 = .ok (.aload_n 0, 1) := by decide +kernel
theorem d_Ch_hasRoomFor_7 : decode c_Ch_hasRoomFor 7 = .ok (.getfield 15, 3) := by decide +kernel
theorem d_Ch_hasRoomFor_10 : decode c_Ch_hasRoomFor 10 = .ok (.isub, 1) := by decide +kernel
theorem d_Ch_hasRoomFor_11 : decode c_Ch_hasRoomFor 11 = .ok (.if_icmp .gt 7, 3) := by decide +kernel
theorem d_Ch_hasRoomFor_14 : decode c_Ch_hasRoomFor 14 = .ok (.iconst 1, 1) := by decide +kernel
theorem d_Ch_hasRoomFor_15 : decode c_Ch_hasRoomFor 15 = .ok (.goto 4, 3) := by decide +kernel
theorem d_Ch_hasRoomFor_18 : decode c_Ch_hasRoomFor 18 = .ok (.iconst 0, 1) := by decide +kernel
theorem d_Ch_hasRoomFor_19 : decode c_Ch_hasRoomFor 19 = .ok (.ireturn, 1) := by decide +kernel
theorem d_Ch_append_0 : decode c_Ch_append 0 = .ok (.aload_n 0, 1) := by decide +kernel
theorem d_Ch_append_1 : decode c_Ch_append 1 = .ok (.getfield 15, 3) := by decide +kernel
theorem d_Ch_append_4 : decode c_Ch_append 4 = .ok (.aload_n 0, 1) := by decide +kernel
theorem d_Ch_append_5 : decode c_Ch_append 5 = .ok (.getfield 9, 3) := by decide +kernel
theorem d_Ch_append_8 : decode c_Ch_append 8 = .ok (.arraylength, 1) := by decide +kernel
theorem d_Ch_append_9 : decode c_Ch_append 9 = .ok (.if_icmp .ge 24, 3) := by decide +kernel
theorem d_Ch_append_12 : decode c_Ch_append 12 = .ok (.aload_n 0, 1) := by decide +kernel
theorem d_Ch_append_13 : decode c_Ch_append 13 = .ok (.getfield 9, 3) := by decide +kernel
theorem d_Ch_append_16 : decode c_Ch_append 16 = .ok (.aload_n 0, 1) := by decide +kernel
theorem d_Ch_append_17 : decode c_Ch_append 17 = .ok (.getfield 15, 3) := by decide +kernel
theorem d_Ch_append_20 : decode c_Ch_append 20 = .ok (.iload_n 1, 1) := by decide +kernel
theorem d_Ch_append_21 : decode c_Ch_append 21 = .ok (.i2c, 1) := by decide +kernel
theorem d_Ch_append_22 : decode c_Ch_append 22 = .ok (.castore, 1) := by decide +kernel
theorem d_Ch_append_23 : decode c_Ch_append 23 = .ok (.aload_n 0, 1) := by decide +kernel
theorem d_Ch_append_24 : decode c_Ch_append 24 = .ok (.dup, 1) := by decide +kernel
theorem d_Ch_append_25 : decode c_Ch_append 25 = .ok (.getfield 15, 3) := by decide +kernel
theorem d_Ch_append_28 : decode c_Ch_append 28 = .ok (.iconst 1, 1) := by decide +kernel
theorem d_Ch_append_29 : decode c_Ch_append 29 = .ok (.iadd, 1) := by decide +kernel
theorem d_Ch_append_30 : decode c_Ch_append 30 = .ok (.putfield 15, 3) := by decide +kernel
theorem d_Ch_append_33 : decode c_Ch_append 33 = .ok (.return_, 1) := by decide +kernel
theorem d_Ch_appendBytes_0 : decode c_Ch_appendBytes 0 = .ok (.iconst 0, 1) := by decide +kernel
theorem d_Ch_appendBytes_1 : decode c_Ch_appendBytes 1 = .ok (.istore 4, 2) := by decide +kernel
theorem d_Ch_appendBytes_3 : decode c_Ch_appendBytes 3 = .ok (.iload 4, 2) := by decide +kernel
theorem d_Ch_appendBytes_5 : decode c_Ch_appendBytes 5 = .ok (.iload_n 3, 1) := by decide +kernel
theorem d_Ch_appendBytes_6 : decode c_Ch_appendBytes 6 = .ok (.if_icmp .ge 19, 3) := by decide +kernel
theorem d_Ch_appendBytes_9 : decode c_Ch_appendBytes 9 = .ok (.aload_n 0, 1) := by decide +kernel
theorem d_Ch_appendBytes_10 : decode c_Ch_appendBytes 10 = .ok (.lload_n 1, 1) := by decide +kernel
theorem d_Ch_appendBytes_11 : decode c_Ch_appendBytes 11 = .ok (.iload 4, 2) := by decide +kernel
theorem d_Ch_appendBytes_13 : decode c_Ch_appendBytes 13 = .ok (.invokestatic 19, 3) := by decide +kernel
theorem d_Ch_appendBytes_16 : decode c_Ch_appendBytes 16 = .ok (.invokevirtual 23, 3) := by decide +kernel
theorem d_Ch_appendBytes_19 : decode c_Ch_appendBytes 19 = .ok (.iinc 4 1, 3) := by decide +kernel
theorem d_Ch_appendBytes_22 : decode c_Ch_appendBytes 22 = .ok (.goto (-19), 3) := by decide +kernel
theorem d_Ch_appendBytes_25 : decode c_Ch_appendBytes 25 = .ok (.return_, 1) := by decide +kernel
theorem d_Ch_codeAt_0 : decode c_Ch_codeAt 0 = .ok (.iload_n 1, 1) := by decide +kernel
theorem d_Ch_codeAt_1 : decode c_Ch_codeAt 1 = .ok (.ifCond .lt 20, 3) := by decide +kernel
theorem d_Ch_codeAt_4 : decode c_Ch_codeAt 4 = .ok (.iload_n 1, 1) := by decide +kernel
theorem d_Ch_codeAt_5 : decode c_Ch_codeAt 5 = .ok (.aload_n 0, 1) := by decide +kernel
theorem d_Ch_codeAt_6 : decode c_Ch_codeAt 6 = .ok (.getfield 15, 3) := by decide +kernel
theorem d_Ch_codeAt_9 : decode c_Ch_codeAt 9 = .ok (.if_icmp .ge 12, 3) := by decide +kernel
theorem d_Ch_codeAt_12 : decode c_Ch_codeAt 12 = .ok (.aload_n 0, 1) := by decide +kernel
theorem d_Ch_codeAt_13 : decode c_Ch_codeAt 13 = .ok (.getfield 9, 3) := by decide +kernel
theorem d_Ch_codeAt_16 : decode c_Ch_codeAt 16 = .ok (.iload_n 1, 1) := by decide +kernel
theorem d_Ch_codeAt_17 : decode c_Ch_codeAt 17 = .ok (.caload, 1) := by decide +kernel
theorem d_Ch_codeAt_18 : decode c_Ch_codeAt 18 = .ok (.goto 4, 3) := by decide +kernel
theorem d_Ch_codeAt_21 : decode c_Ch_codeAt 21 = .ok (.iconst (-1), 1) := by decide +kernel
theorem d_Ch_codeAt_22 : decode c_Ch_codeAt 22 = .ok (.ireturn, 1) := by decide +kernel
theorem d_Ch_empty_0 : decode c_Ch_empty 0 = .ok (.aload_n 0, 1) := by decide +kernel
theorem d_Ch_empty_1 : decode c_Ch_empty 1 = .ok (.getfield 15, 3) := by decide +kernel
theorem d_Ch_empty_4 : decode c_Ch_empty 4 = .ok (.istore_n 1, 1) := by decide +kernel
theorem d_Ch_empty_5 : decode c_Ch_empty 5 = .ok (.aload_n 0, 1) := by decide +kernel
theorem d_Ch_empty_6 : decode c_Ch_empty 6 = .ok (.iconst 0, 1) := by decide +kernel
theorem d_Ch_empty_7 : decode c_Ch_empty 7 = .ok (.putfield 15, 3) := by decide +kernel
theorem d_Ch_empty_10 : decode c_Ch_empty 10 = .ok (.iload_n 1, 1) := by decide +kernel
theorem d_Ch_empty_11 : decode c_Ch_empty 11 = .ok (.ireturn, 1) := by decide +kernel
def by8 (x : Int64) (k : Int32) : Int32 := ((x.toUInt64 >>> ((8 * k).toInt64.toUInt64 &&& Int64.toUInt64 63)).toInt64 &&& 255).toInt32
theorem in_lt {k z : Int32} {N' : Nat} (h : ¬ k < 0) (h2 : ¬ z ≤ k) (hz : z.toInt ≤ N') : vp_in k N' := by
  rw [vp_in_iff]
  rw [Int32.le_iff_toInt_le] at h2
  rw [Int32.lt_iff_toInt_lt] at h
  have h0 : (0 : Int32).toInt = 0 := by decide
  omega
def allB (f : Nat → Bool) : Nat → Bool
  | 0 => true
  | n + 1 => allB f n && f n
theorem allB_no {f : Nat → Bool} {k n : Nat} (h : k < n) (hf : f k = false) : allB f n = false := by
  induction n with
  | zero => exact absurd h (Nat.not_lt_zero _)
  | succ n ih =>
    by_cases hk : k = n
    · subst hk; simp [allB, hf]
    · simp [allB, ih (by omega)]
theorem allB_yes {f : Nat → Bool} {n : Nat} (h : allB f n = true) (hf : f n = true) : allB f (n + 1) = true := by simp [allB, h, hf]
def okT (c : Int32) : Bool := decide (c = 10) || (decide (¬ c < 32) && decide (c ≤ 126))
def okI (c : Int32) : Bool := decide (c ≤ 127)
set_option maxHeartbeats 4000000 in
set_option maxRecDepth 100000 in
theorem m_Ab_byteOf (l : Launch) (x : Int64) (k : Int32) : MS l y_Ab_byteOf c_Ab_byteOf 3 (some .int) ({ frames := 0, cells := 0, slots := 0, locals := 0 } : Room) [.long (x), .int (k)] (fun r => r = by8 x k) := by
  refine Met.ofW (cc := c_Ab_byteOf) (maxL := 3) (ret := (some .int)) (by decide) rfl ?_
  intro p e s m args below meth c s₁ B hml hv
  obtain ⟨rfl, hN⟩ := hv
  have hx := B.exec
  have hb := B.bytes
  have hr := B.returns
  have hlocks := B.notSynchronized
  have Bx : p.tables.exec = Jvm.exec ∧ c.code = c_Ab_byteOf ∧ (∀ w ∈ TB, w.before [.long (x), .int (k)].toArray s = true) ∧ s.vm.findClass "AbnfChart" = some m.cls ∧ True := ⟨hx, hb, tb_all (atoms_spec B.pre) hN, findClass_of_methodNamed B.named, trivial⟩
  have hl := lv_entry ([.long (x), .int (k)]) (n := 3) (Nat.le_of_ble_eq_true rfl)
  rw [lg_entry_eq]
  generalize (lg_sl ([.long (x), .int (k)]) ++ List.replicate (3 - (lg_sl ([.long (x), .int (k)])).length) Slot.unset).toArray = ls at hl ⊢
  have hl : lv_has ls 3 [(0, .long (x)), (2, .int (k))] := hl
  refine lv_lload_n Bx.1 Bx.2.1 d_Ab_byteOf_0 rfl (lv_at hl 0 rfl) ?_
  refine lv_bipush (v := 8) Bx.1 Bx.2.1 d_Ab_byteOf_1 (by decide) ?_
  refine lv_iload_n Bx.1 Bx.2.1 d_Ab_byteOf_3 rfl (lv_at hl 1 rfl) ?_
  refine lv_imul Bx.1 Bx.2.1 d_Ab_byteOf_4 ?_
  refine lv_lushr Bx.1 Bx.2.1 d_Ab_byteOf_5 rfl ?_
  refine lv_ldc2 Bx.1 Bx.2.1 Bx.2.2.2.1 (Bx.2.2.1 _ (tb_g kw_228 rfl)) d_Ab_byteOf_6 ?_
  refine lv_land Bx.1 Bx.2.1 d_Ab_byteOf_9 ?_
  refine lv_l2i Bx.1 Bx.2.1 d_Ab_byteOf_10 rfl ?_
  exact W.iret (v := by8 x k) hx hb hr (fun t ht hW => ⟨by8 x k, rfl, rfl, ht⟩) (fun _ h => by cases h) d_Ab_byteOf_11
set_option maxHeartbeats 4000000 in
set_option maxRecDepth 100000 in
theorem m_Ab_isByteCount (l : Launch) (x : Int32) : MS l y_Ab_isByteCount c_Ab_isByteCount 1 (some .boolean) ({ frames := 0, cells := 0, slots := 0, locals := 0 } : Room) [.int (x)] (fun r => r = if x < 1 ∨ 8 < x then 0 else 1) := by
  refine Met.ofW (cc := c_Ab_isByteCount) (maxL := 1) (ret := (some .boolean)) (by decide) rfl ?_
  intro p e s m args below meth c s₁ B hml hv
  obtain ⟨rfl, hN⟩ := hv
  have hx := B.exec
  have hb := B.bytes
  have hr := B.returns
  have hlocks := B.notSynchronized
  have Bx : p.tables.exec = Jvm.exec ∧ c.code = c_Ab_isByteCount ∧ (∀ w ∈ TB, w.before [.int (x)].toArray s = true) ∧ s.vm.findClass "AbnfChart" = some m.cls ∧ True := ⟨hx, hb, tb_all (atoms_spec B.pre) hN, findClass_of_methodNamed B.named, trivial⟩
  have hl := lv_entry ([.int (x)]) (n := 1) (Nat.le_of_ble_eq_true rfl)
  rw [lg_entry_eq]
  generalize (lg_sl ([.int (x)]) ++ List.replicate (1 - (lg_sl ([.int (x)])).length) Slot.unset).toArray = ls at hl ⊢
  have hl : lv_has ls 1 [(0, .int (x))] := hl
  refine lv_iload_n Bx.1 Bx.2.1 d_Ab_isByteCount_0 rfl (lv_at hl 0 rfl) ?_
  refine lv_iconst (v := 1) Bx.1 Bx.2.1 d_Ab_isByteCount_1 (by decide) ?_
  refine lv_icmp_lt Bx.1 Bx.2.1 d_Ab_isByteCount_2 rfl (fun h => ?_) (fun h => ?_)
  · refine lv_iconst (v := 0) Bx.1 Bx.2.1 d_Ab_isByteCount_15 (by decide) ?_
    exact W.zret (v := 0) hx hb hr rfl (fun t ht hW => ⟨0, rfl, (if_pos (Or.inl h)).symm, ht⟩) (fun _ h => by cases h) d_Ab_isByteCount_16
  · refine lv_iload_n Bx.1 Bx.2.1 d_Ab_isByteCount_5 rfl (lv_at hl 0 rfl) ?_
    refine lv_bipush (v := 8) Bx.1 Bx.2.1 d_Ab_isByteCount_6 (by decide) ?_
    refine lv_icmp_gt Bx.1 Bx.2.1 d_Ab_isByteCount_8 rfl (fun h2 => ?_) (fun h2 => ?_)
    · refine lv_iconst (v := 0) Bx.1 Bx.2.1 d_Ab_isByteCount_15 (by decide) ?_
      exact W.zret (v := 0) hx hb hr rfl (fun t ht hW => ⟨0, rfl, (if_pos (Or.inr h2)).symm, ht⟩) (fun _ h => by cases h) d_Ab_isByteCount_16
    · refine lv_iconst (v := 1) Bx.1 Bx.2.1 d_Ab_isByteCount_11 (by decide) ?_
      refine lv_goto Bx.1 Bx.2.1 d_Ab_isByteCount_12 rfl ?_
      exact W.zret (v := 1) hx hb hr rfl (fun t ht hW => ⟨1, rfl, (if_neg (fun q => q.elim h h2)).symm, ht⟩) (fun _ h => by cases h) d_Ab_isByteCount_16
set_option maxHeartbeats 4000000 in
set_option maxRecDepth 100000 in
theorem m_Ab_areTextCodes (l : Launch) (x : Int64) (N : Nat) (hN8 : N ≤ 8) : MS l y_Ab_areTextCodes c_Ab_areTextCodes 5 (some .boolean) ({ frames := 1, cells := 0, slots := 0, locals := 30 } : Room) [.long (x), .int (nI N)] (fun r => r = if allB (fun k => okT (by8 x (nI k))) N then 1 else 0) := by
  refine Met.ofW (cc := c_Ab_areTextCodes) (maxL := 5) (ret := (some .boolean)) (by decide) rfl ?_
  intro p e s m args below meth c s₁ B hml hv
  obtain ⟨rfl, hN⟩ := hv
  have hx := B.exec
  have hb := B.bytes
  have hr := B.returns
  have hlocks := B.notSynchronized
  have Bx : p.tables.exec = Jvm.exec ∧ c.code = c_Ab_areTextCodes ∧ (∀ w ∈ TB, w.before [.long (x), .int (nI N)].toArray s = true) ∧ s.vm.findClass "AbnfChart" = some m.cls ∧ True := ⟨hx, hb, tb_all (atoms_spec B.pre) hN, findClass_of_methodNamed B.named, trivial⟩
  have hl := lv_entry ([.long (x), .int (nI N)]) (n := 5) (Nat.le_of_ble_eq_true rfl)
  rw [lg_entry_eq]
  generalize (lg_sl ([.long (x), .int (nI N)]) ++ List.replicate (5 - (lg_sl ([.long (x), .int (nI N)])).length) Slot.unset).toArray = ls at hl ⊢
  have hl : lv_has ls 5 [(0, .long (x)), (2, .int (nI N))] := hl
  refine lv_iconst (v := 0) Bx.1 Bx.2.1 d_Ab_areTextCodes_0 (by decide) ?_
  refine lv_istore_n (lv' := [(3, .int (0)), (0, .long (x)), (2, .int (nI N))]) Bx.1 Bx.2.1 d_Ab_areTextCodes_1 rfl hl (by decide) rfl (fun ls hl => ?_)
  have loop : ∀ (d k : Nat) (ls : Array Slot), k + d = N → allB (fun k => okT (by8 x (nI k))) k = true → lv_has ls 5 [(3, .int (nI k)), (0, .long x), (2, .int (nI N))] → W p l e (headSpec (Cond.code y_Ab_areTextCodes c_Ab_areTextCodes 5 (some .boolean) :: tg) ({ frames := 1, cells := 0, slots := 0, locals := 30 } : Room)).room s m [.long (x), .int (nI N)].toArray below meth c s.heap [] 0 0 (MQ below (vp_Si (fun r => r = if allB (fun k => okT (by8 x (nI k))) N then 1 else 0)) [.long (x), .int (nI N)].toArray s 0 0 (fun _ => False)) (F0 m 2 ls []) := by
    intro d
    induction d with
    | zero =>
      intro k ls hk ha hl
      obtain rfl : k = N := by omega
      refine lv_iload_n Bx.1 Bx.2.1 d_Ab_areTextCodes_2 rfl (lv_at hl 0 rfl) ?_
      refine lv_iload_n Bx.1 Bx.2.1 d_Ab_areTextCodes_3 rfl (lv_at hl 2 rfl) ?_
      refine lv_icmp_ge Bx.1 Bx.2.1 d_Ab_areTextCodes_4 rfl (fun h => ?_) (fun h => ?_)
      · refine lv_iconst (v := 1) Bx.1 Bx.2.1 d_Ab_areTextCodes_43 (by decide) ?_
        exact W.zret (v := 1) hx hb hr rfl (fun t ht hW => ⟨1, rfl, by rw [ha]; rfl, ht⟩) (fun _ h => by cases h) d_Ab_areTextCodes_44
      · exact absurd (nI_le (Nat.le_refl k) (by omega)) h
    | succ d ih =>
      intro k ls hk ha hl
      refine lv_iload_n Bx.1 Bx.2.1 d_Ab_areTextCodes_2 rfl (lv_at hl 0 rfl) ?_
      refine lv_iload_n Bx.1 Bx.2.1 d_Ab_areTextCodes_3 rfl (lv_at hl 2 rfl) ?_
      refine lv_icmp_ge Bx.1 Bx.2.1 d_Ab_areTextCodes_4 rfl (fun h => ?_) (fun h => ?_)
      · exact absurd h (nI_ge (by omega) (by omega))
      · refine lv_lload_n Bx.1 Bx.2.1 d_Ab_areTextCodes_7 rfl (lv_at hl 1 rfl) ?_
        refine lv_iload_n Bx.1 Bx.2.1 d_Ab_areTextCodes_8 rfl (lv_at hl 0 rfl) ?_
        refine f_callSi (na := 2) (As := [.long (x), .int (nI k)]) (rest := []) Bx hml hN (m_Ab_byteOf l x (nI k)) kw_225 kw_226 kw_1 kw_227 (by decide +kernel) ⟨rfl, rfl⟩ ⟨Nat.le_of_ble_eq_true rfl, Nat.le_of_ble_eq_true rfl⟩ rfl hl.1 (Nat.le_of_ble_eq_true rfl) d_Ab_areTextCodes_9 ⟨Nat.le_of_ble_eq_true rfl, Nat.le_of_ble_eq_true rfl⟩ (fun r1 hr1 => ?_)
        subst hr1
        refine lv_istore (lv' := [(4, .int (by8 x (nI k))), (3, .int (nI k)), (0, .long (x)), (2, .int (nI N))]) Bx.1 Bx.2.1 d_Ab_areTextCodes_12 hl (by decide) rfl (fun ls hl => ?_)
        refine lv_iload Bx.1 Bx.2.1 d_Ab_areTextCodes_14 (lv_at hl 0 rfl) ?_
        refine lv_bipush (v := 10) Bx.1 Bx.2.1 d_Ab_areTextCodes_16 (by decide) ?_
        refine lv_icmp_eq Bx.1 Bx.2.1 d_Ab_areTextCodes_18 rfl (fun h1 => ?_) (fun h1 => ?_)
        · have hk1 : okT (by8 x (nI k)) = true := by simp [okT, h1]
          refine lv_iinc (lv' := [(3, .int ((nI k + (1)))), (4, .int (by8 x (nI k))), (0, .long (x)), (2, .int (nI N))]) Bx.1 Bx.2.1 d_Ab_areTextCodes_37 hl (k := 1) rfl rfl (by decide) rfl (fun ls hl => ?_)
          refine lv_goto Bx.1 Bx.2.1 d_Ab_areTextCodes_40 rfl ?_
          exact ih (k + 1) ls (by omega) (allB_yes ha hk1) (by rw [nI_succ]; exact (lv_sub hl [0, 2, 3] rfl))
        · refine lv_iload Bx.1 Bx.2.1 d_Ab_areTextCodes_21 (lv_at hl 0 rfl) ?_
          refine lv_bipush (v := 32) Bx.1 Bx.2.1 d_Ab_areTextCodes_23 (by decide) ?_
          refine lv_icmp_lt Bx.1 Bx.2.1 d_Ab_areTextCodes_25 rfl (fun h2 => ?_) (fun h2 => ?_)
          · refine lv_iconst (v := 0) Bx.1 Bx.2.1 d_Ab_areTextCodes_35 (by decide) ?_
            exact W.zret (v := 0) hx hb hr rfl (fun t ht hW => ⟨0, rfl, by rw [allB_no (k := k) (by omega) (by simp [okT, h1, h2])]; rfl, ht⟩) (fun _ h => by cases h) d_Ab_areTextCodes_36
          · refine lv_iload Bx.1 Bx.2.1 d_Ab_areTextCodes_28 (lv_at hl 0 rfl) ?_
            refine lv_bipush (v := 126) Bx.1 Bx.2.1 d_Ab_areTextCodes_30 (by decide) ?_
            refine lv_icmp_le Bx.1 Bx.2.1 d_Ab_areTextCodes_32 rfl (fun h3 => ?_) (fun h3 => ?_)
            · have hk1 : okT (by8 x (nI k)) = true := by simp [okT, h1, h2, h3]
              refine lv_iinc (lv' := [(3, .int ((nI k + (1)))), (4, .int (by8 x (nI k))), (0, .long (x)), (2, .int (nI N))]) Bx.1 Bx.2.1 d_Ab_areTextCodes_37 hl (k := 1) rfl rfl (by decide) rfl (fun ls hl => ?_)
              refine lv_goto Bx.1 Bx.2.1 d_Ab_areTextCodes_40 rfl ?_
              exact ih (k + 1) ls (by omega) (allB_yes ha hk1) (by rw [nI_succ]; exact (lv_sub hl [0, 2, 3] rfl))
            · refine lv_iconst (v := 0) Bx.1 Bx.2.1 d_Ab_areTextCodes_35 (by decide) ?_
              exact W.zret (v := 0) hx hb hr rfl (fun t ht hW => ⟨0, rfl, by rw [allB_no (k := k) (by omega) (by simp [okT, h1, h2, h3])]; rfl, ht⟩) (fun _ h => by cases h) d_Ab_areTextCodes_36
  exact loop N 0 ls (by omega) rfl hl
set_option maxHeartbeats 4000000 in
set_option maxRecDepth 100000 in
theorem m_Ab_areInputCodes (l : Launch) (x : Int64) (N : Nat) (hN8 : N ≤ 8) : MS l y_Ab_areInputCodes c_Ab_areInputCodes 4 (some .boolean) ({ frames := 1, cells := 0, slots := 0, locals := 30 } : Room) [.long (x), .int (nI N)] (fun r => r = if allB (fun k => okI (by8 x (nI k))) N then 1 else 0) := by
  refine Met.ofW (cc := c_Ab_areInputCodes) (maxL := 4) (ret := (some .boolean)) (by decide) rfl ?_
  intro p e s m args below meth c s₁ B hml hv
  obtain ⟨rfl, hN⟩ := hv
  have hx := B.exec
  have hb := B.bytes
  have hr := B.returns
  have hlocks := B.notSynchronized
  have Bx : p.tables.exec = Jvm.exec ∧ c.code = c_Ab_areInputCodes ∧ (∀ w ∈ TB, w.before [.long (x), .int (nI N)].toArray s = true) ∧ s.vm.findClass "AbnfChart" = some m.cls ∧ True := ⟨hx, hb, tb_all (atoms_spec B.pre) hN, findClass_of_methodNamed B.named, trivial⟩
  have hl := lv_entry ([.long (x), .int (nI N)]) (n := 4) (Nat.le_of_ble_eq_true rfl)
  rw [lg_entry_eq]
  generalize (lg_sl ([.long (x), .int (nI N)]) ++ List.replicate (4 - (lg_sl ([.long (x), .int (nI N)])).length) Slot.unset).toArray = ls at hl ⊢
  have hl : lv_has ls 4 [(0, .long (x)), (2, .int (nI N))] := hl
  refine lv_iconst (v := 0) Bx.1 Bx.2.1 d_Ab_areInputCodes_0 (by decide) ?_
  refine lv_istore_n (lv' := [(3, .int (0)), (0, .long (x)), (2, .int (nI N))]) Bx.1 Bx.2.1 d_Ab_areInputCodes_1 rfl hl (by decide) rfl (fun ls hl => ?_)
  have loop : ∀ (d k : Nat) (ls : Array Slot), k + d = N → allB (fun k => okI (by8 x (nI k))) k = true → lv_has ls 4 [(3, .int (nI k)), (0, .long x), (2, .int (nI N))] → W p l e (headSpec (Cond.code y_Ab_areInputCodes c_Ab_areInputCodes 4 (some .boolean) :: tg) ({ frames := 1, cells := 0, slots := 0, locals := 30 } : Room)).room s m [.long (x), .int (nI N)].toArray below meth c s.heap [] 0 0 (MQ below (vp_Si (fun r => r = if allB (fun k => okI (by8 x (nI k))) N then 1 else 0)) [.long (x), .int (nI N)].toArray s 0 0 (fun _ => False)) (F0 m 2 ls []) := by
    intro d
    induction d with
    | zero =>
      intro k ls hk ha hl
      obtain rfl : k = N := by omega
      refine lv_iload_n Bx.1 Bx.2.1 d_Ab_areInputCodes_2 rfl (lv_at hl 0 rfl) ?_
      refine lv_iload_n Bx.1 Bx.2.1 d_Ab_areInputCodes_3 rfl (lv_at hl 2 rfl) ?_
      refine lv_icmp_ge Bx.1 Bx.2.1 d_Ab_areInputCodes_4 rfl (fun h => ?_) (fun h => ?_)
      · refine lv_iconst (v := 1) Bx.1 Bx.2.1 d_Ab_areInputCodes_25 (by decide) ?_
        exact W.zret (v := 1) hx hb hr rfl (fun t ht hW => ⟨1, rfl, by rw [ha]; rfl, ht⟩) (fun _ h => by cases h) d_Ab_areInputCodes_26
      · exact absurd (nI_le (Nat.le_refl k) (by omega)) h
    | succ d ih =>
      intro k ls hk ha hl
      refine lv_iload_n Bx.1 Bx.2.1 d_Ab_areInputCodes_2 rfl (lv_at hl 0 rfl) ?_
      refine lv_iload_n Bx.1 Bx.2.1 d_Ab_areInputCodes_3 rfl (lv_at hl 2 rfl) ?_
      refine lv_icmp_ge Bx.1 Bx.2.1 d_Ab_areInputCodes_4 rfl (fun h => ?_) (fun h => ?_)
      · exact absurd h (nI_ge (by omega) (by omega))
      · refine lv_lload_n Bx.1 Bx.2.1 d_Ab_areInputCodes_7 rfl (lv_at hl 1 rfl) ?_
        refine lv_iload_n Bx.1 Bx.2.1 d_Ab_areInputCodes_8 rfl (lv_at hl 0 rfl) ?_
        refine f_callSi (na := 2) (As := [.long (x), .int (nI k)]) (rest := []) Bx hml hN (m_Ab_byteOf l x (nI k)) kw_225 kw_226 kw_1 kw_227 (by decide +kernel) ⟨rfl, rfl⟩ ⟨Nat.le_of_ble_eq_true rfl, Nat.le_of_ble_eq_true rfl⟩ rfl hl.1 (Nat.le_of_ble_eq_true rfl) d_Ab_areInputCodes_9 ⟨Nat.le_of_ble_eq_true rfl, Nat.le_of_ble_eq_true rfl⟩ (fun r1 hr1 => ?_)
        subst hr1
        refine lv_bipush (v := 127) Bx.1 Bx.2.1 d_Ab_areInputCodes_12 (by decide) ?_
        refine lv_icmp_le Bx.1 Bx.2.1 d_Ab_areInputCodes_14 rfl (fun h1 => ?_) (fun h1 => ?_)
        · have hk1 : okI (by8 x (nI k)) = true := by simp [okI, h1]
          refine lv_iinc (lv' := [(3, .int ((nI k + (1)))), (0, .long (x)), (2, .int (nI N))]) Bx.1 Bx.2.1 d_Ab_areInputCodes_19 hl (k := 0) rfl rfl (by decide) rfl (fun ls hl => ?_)
          refine lv_goto Bx.1 Bx.2.1 d_Ab_areInputCodes_22 rfl ?_
          exact ih (k + 1) ls (by omega) (allB_yes ha hk1) (by rw [nI_succ]; exact (lv_sub hl [0, 1, 2] rfl))
        · refine lv_iconst (v := 0) Bx.1 Bx.2.1 d_Ab_areInputCodes_17 (by decide) ?_
          exact W.zret (v := 0) hx hb hr rfl (fun t ht hW => ⟨0, rfl, by rw [allB_no (k := k) (by omega) (by simp [okI, h1])]; rfl, ht⟩) (fun _ h => by cases h) d_Ab_areInputCodes_18
  exact loop N 0 ls (by omega) rfl hl
set_option maxHeartbeats 4000000 in
set_option maxRecDepth 100000 in
theorem m_Ch_empty (l : Launch) {D : va_G} {cy : Nat → ClassId} {sz n : Nat} {ad : Nat → Nat} {mem : Nat → va_E} {j : Nat} {q : Value} {z : Int32} (hj : j < n) (hm : mem j = .inr (0, [q, .int z])) : MI l D cy sz n ad y_Ch_empty c_Ch_empty 2 (some .int) ({ frames := 0, cells := 0, slots := 0, locals := 0 } : Room) mem [.ref (ad j)] (fun r mem' => r = z ∧ mem' = va_up mem j (.inr (0, [q, .int 0]))) := by
  refine Met.ofW (cc := c_Ch_empty) (maxL := 2) (ret := (some .int)) (by decide) rfl ?_
  intro p e s m args below meth c s₁ B hml hv
  obtain ⟨rfl, E, hP, hD⟩ := hv
  have hx := B.exec
  have hb := B.bytes
  have hr := B.returns
  have hlocks := B.notSynchronized
  have Bx : MB p s m [.ref (ad j)].toArray c c_Ch_empty "AbnfChart$Characters" D cy := ⟨hx, hb, tb_all (atoms_spec B.pre) E.2.1, findClass_of_methodNamed B.named, E.1⟩
  have hS : va_S (Az sz) s.heap s.heap [] := va_S.rf
  have hl := lv_entry ([.ref (ad j)]) (n := 2) (Nat.le_of_ble_eq_true rfl)
  rw [lg_entry_eq]
  generalize (lg_sl ([.ref (ad j)]) ++ List.replicate (2 - (lg_sl ([.ref (ad j)])).length) Slot.unset).toArray = ls at hl ⊢
  have hl : lv_has ls 2 [(0, .ref (ad j))] := hl
  refine lv_aload_n Bx.1 Bx.2.1 d_Ch_empty_0 rfl (lv_at hl 0 rfl) ?_
  refine f_get Bx hP hj hm rfl inCh 1 (by decide) kw_32 rfl rfl d_Ch_empty_1 ?_
  refine lv_istore_n (lv' := [(1, .int (z)), (0, .ref (ad j))]) Bx.1 Bx.2.1 d_Ch_empty_4 rfl hl (by decide) rfl (fun ls hl => ?_)
  refine lv_aload_n Bx.1 Bx.2.1 d_Ch_empty_5 rfl (lv_at hl 1 rfl) ?_
  refine lv_iconst (v := 0) Bx.1 Bx.2.1 d_Ch_empty_6 (by decide) ?_
  refine f_put Bx hP hD hS hj hm rfl inCh tyCh okCh nmCh 1 (by decide) kw_32 rfl rfl rfl rfl (Nat.le_of_ble_eq_true rfl) d_Ch_empty_7 (fun H locs hP hS => ?_)
  obtain ⟨mem1, e_mem1⟩ : ∃ z, z = va_up mem (j) (.inr (0, [q, .int (0)])) := ⟨_, rfl⟩
  have hP : va_P D vcl (fw n ad mem1) H := by rw [e_mem1]; exact hP
  have hD : va_D (Az sz) (fw n ad mem1) := fw_D hD
  have h_mem1 : mem1 (j) = .inr (0, [q, .int (0)]) := by rw [e_mem1, va_up_self]
  refine lv_iload_n Bx.1 Bx.2.1 d_Ch_empty_10 rfl (lv_at hl 0 rfl) ?_
  exact W.iret (v := z) hx hb hr (fun t ht hW => ⟨⟨z, mem1, rfl, ⟨rfl, e_mem1⟩, by show va_P _ _ _ t.heap; rw [ht]; exact hP⟩, hS.F ht⟩) hS.2.2 d_Ch_empty_11
set_option maxHeartbeats 4000000 in
set_option maxRecDepth 100000 in
theorem m_Ch_codeAt (l : Launch) {D : va_G} {cy : Nat → ClassId} {sz n : Nat} {ad : Nat → Nat} {mem : Nat → va_E} {j j2 N' : Nat} {z k : Int32} {f : Nat → Int32} (hj : j < n) (hm : mem j = .inr (0, [.ref (ad j2), .int z])) (hj2 : j2 < n) (hm2 : mem j2 = .inl (cy 0, N', .inl f)) (hz : z.toInt ≤ N') : MI l D cy sz n ad y_Ch_codeAt c_Ch_codeAt 2 (some .int) ({ frames := 0, cells := 0, slots := 0, locals := 0 } : Room) mem [.ref (ad j), .int (k)] (fun r mem' => r = (if k < 0 ∨ z ≤ k then -1 else f k.toNatClampNeg) ∧ mem' = mem) := by
  refine Met.ofW (cc := c_Ch_codeAt) (maxL := 2) (ret := (some .int)) (by decide) rfl ?_
  intro p e s m args below meth c s₁ B hml hv
  obtain ⟨rfl, E, hP, hD⟩ := hv
  have hx := B.exec
  have hb := B.bytes
  have hr := B.returns
  have hlocks := B.notSynchronized
  have Bx : MB p s m [.ref (ad j), .int (k)].toArray c c_Ch_codeAt "AbnfChart$Characters" D cy := ⟨hx, hb, tb_all (atoms_spec B.pre) E.2.1, findClass_of_methodNamed B.named, E.1⟩
  have hS : va_S (Az sz) s.heap s.heap [] := va_S.rf
  have hl := lv_entry ([.ref (ad j), .int (k)]) (n := 2) (Nat.le_of_ble_eq_true rfl)
  rw [lg_entry_eq]
  generalize (lg_sl ([.ref (ad j), .int (k)]) ++ List.replicate (2 - (lg_sl ([.ref (ad j), .int (k)])).length) Slot.unset).toArray = ls at hl ⊢
  have hl : lv_has ls 2 [(0, .ref (ad j)), (1, .int (k))] := hl
  refine lv_iload_n Bx.1 Bx.2.1 d_Ch_codeAt_0 rfl (lv_at hl 1 rfl) ?_
  refine lv_if_lt Bx.1 Bx.2.1 d_Ch_codeAt_1 rfl (fun h => ?_) (fun h => ?_)
  · refine lv_iconst (v := -1) Bx.1 Bx.2.1 d_Ch_codeAt_21 (by decide) ?_
    exact W.iret (v := (-1)) hx hb hr (fun t ht hW => ⟨⟨(-1), mem, rfl, ⟨(if_pos (Or.inl h)).symm, rfl⟩, by show va_P _ _ _ t.heap; rw [ht]; exact hP⟩, hS.F ht⟩) hS.2.2 d_Ch_codeAt_22
  · refine lv_iload_n Bx.1 Bx.2.1 d_Ch_codeAt_4 rfl (lv_at hl 1 rfl) ?_
    refine lv_aload_n Bx.1 Bx.2.1 d_Ch_codeAt_5 rfl (lv_at hl 0 rfl) ?_
    refine f_get Bx hP hj hm rfl inCh 1 (by decide) kw_32 rfl rfl d_Ch_codeAt_6 ?_
    refine lv_icmp_ge Bx.1 Bx.2.1 d_Ch_codeAt_9 rfl (fun h2 => ?_) (fun h2 => ?_)
    · refine lv_iconst (v := -1) Bx.1 Bx.2.1 d_Ch_codeAt_21 (by decide) ?_
      exact W.iret (v := (-1)) hx hb hr (fun t ht hW => ⟨⟨(-1), mem, rfl, ⟨(if_pos (Or.inr h2)).symm, rfl⟩, by show va_P _ _ _ t.heap; rw [ht]; exact hP⟩, hS.F ht⟩) hS.2.2 d_Ch_codeAt_22
    · refine lv_aload_n Bx.1 Bx.2.1 d_Ch_codeAt_12 rfl (lv_at hl 0 rfl) ?_
      refine f_get Bx hP hj hm rfl inCh 0 (by decide) kw_31 rfl rfl d_Ch_codeAt_13 ?_
      refine lv_iload_n Bx.1 Bx.2.1 d_Ch_codeAt_16 rfl (lv_at hl 1 rfl) ?_
      refine f_cald Bx hP hj2 hm2 (in_lt h h2 hz) d_Ch_codeAt_17 ?_
      refine lv_goto Bx.1 Bx.2.1 d_Ch_codeAt_18 rfl ?_
      exact W.iret (v := f k.toNatClampNeg) hx hb hr (fun t ht hW => ⟨⟨f k.toNatClampNeg, mem, rfl, ⟨(if_neg (fun q => q.elim h h2)).symm, rfl⟩, by show va_P _ _ _ t.heap; rw [ht]; exact hP⟩, hS.F ht⟩) hS.2.2 d_Ch_codeAt_22
set_option maxHeartbeats 4000000 in
set_option maxRecDepth 100000 in
theorem m_Ch_hasRoomFor (l : Launch) {D : va_G} {cy : Nat → ClassId} {sz n : Nat} {ad : Nat → Nat} {mem : Nat → va_E} {j j2 N' : Nat} {z k : Int32} {f : Nat → Int32} (hj : j < n) (hm : mem j = .inr (0, [.ref (ad j2), .int z])) (hj2 : j2 < n) (hm2 : mem j2 = .inl (cy 0, N', .inl f)) : MI l D cy sz n ad y_Ch_hasRoomFor c_Ch_hasRoomFor 2 (some .boolean) ({ frames := 0, cells := 0, slots := 0, locals := 0 } : Room) mem [.ref (ad j), .int (k)] (fun r mem' => r = (if nI N' - z < k then 0 else 1) ∧ mem' = mem) := by
  refine Met.ofW (cc := c_Ch_hasRoomFor) (maxL := 2) (ret := (some .boolean)) (by decide) rfl ?_
  intro p e s m args below meth c s₁ B hml hv
  obtain ⟨rfl, E, hP, hD⟩ := hv
  have hx := B.exec
  have hb := B.bytes
  have hr := B.returns
  have hlocks := B.notSynchronized
  have Bx : MB p s m [.ref (ad j), .int (k)].toArray c c_Ch_hasRoomFor "AbnfChart$Characters" D cy := ⟨hx, hb, tb_all (atoms_spec B.pre) E.2.1, findClass_of_methodNamed B.named, E.1⟩
  have hS : va_S (Az sz) s.heap s.heap [] := va_S.rf
  have hl := lv_entry ([.ref (ad j), .int (k)]) (n := 2) (Nat.le_of_ble_eq_true rfl)
  rw [lg_entry_eq]
  generalize (lg_sl ([.ref (ad j), .int (k)]) ++ List.replicate (2 - (lg_sl ([.ref (ad j), .int (k)])).length) Slot.unset).toArray = ls at hl ⊢
  have hl : lv_has ls 2 [(0, .ref (ad j)), (1, .int (k))] := hl
  refine lv_iload_n Bx.1 Bx.2.1 d_Ch_hasRoomFor_0 rfl (lv_at hl 1 rfl) ?_
  refine lv_aload_n Bx.1 Bx.2.1 d_Ch_hasRoomFor_1 rfl (lv_at hl 0 rfl) ?_
  refine f_get Bx hP hj hm rfl inCh 0 (by decide) kw_31 rfl rfl d_Ch_hasRoomFor_2 ?_
  refine f_alen (t0 := 0) Bx hP hj2 hm2 rfl (v := nI N') rfl d_Ch_hasRoomFor_5 ?_
  refine lv_aload_n Bx.1 Bx.2.1 d_Ch_hasRoomFor_6 rfl (lv_at hl 0 rfl) ?_
  refine f_get Bx hP hj hm rfl inCh 1 (by decide) kw_32 rfl rfl d_Ch_hasRoomFor_7 ?_
  refine lv_isub Bx.1 Bx.2.1 d_Ch_hasRoomFor_10 ?_
  refine lv_icmp_gt Bx.1 Bx.2.1 d_Ch_hasRoomFor_11 rfl (fun h => ?_) (fun h => ?_)
  · refine lv_iconst (v := 0) Bx.1 Bx.2.1 d_Ch_hasRoomFor_18 (by decide) ?_
    exact W.zret (v := 0) hx hb hr rfl (fun t ht hW => ⟨⟨0, mem, rfl, ⟨(if_pos h).symm, rfl⟩, by show va_P _ _ _ t.heap; rw [ht]; exact hP⟩, hS.F ht⟩) hS.2.2 d_Ch_hasRoomFor_19
  · refine lv_iconst (v := 1) Bx.1 Bx.2.1 d_Ch_hasRoomFor_14 (by decide) ?_
    refine lv_goto Bx.1 Bx.2.1 d_Ch_hasRoomFor_15 rfl ?_
    exact W.zret (v := 1) hx hb hr rfl (fun t ht hW => ⟨⟨1, mem, rfl, ⟨(if_neg h).symm, rfl⟩, by show va_P _ _ _ t.heap; rw [ht]; exact hP⟩, hS.F ht⟩) hS.2.2 d_Ch_hasRoomFor_19
def cN (x : Int32) : Int32 := (x.toUInt32 % 65536).toInt32
def apB (f : Nat → Int32) (Z : Nat) (x : Int64) (k : Nat) : Nat → Int32 := fun i => if Z ≤ i ∧ i < Z + k then cN (by8 x (nI (i - Z))) else f i
theorem apB_0 (f : Nat → Int32) (Z : Nat) (x : Int64) : apB f Z x 0 = f := by
  funext i
  unfold apB
  rw [if_neg (by omega)]
theorem apB_s (f : Nat → Int32) (Z : Nat) (x : Int64) (k : Nat) : upd (apB f Z x k) (Z + k) (cN (by8 x (nI k))) = apB f Z x (k + 1) := by
  funext i
  unfold upd apB
  by_cases h : i = Z + k
  · subst h
    rw [if_pos rfl, if_pos (by omega)]
    congr 3
    omega
  · rw [if_neg h]
    by_cases h2 : Z ≤ i ∧ i < Z + k
    · rw [if_pos h2, if_pos (by omega)]
    · rw [if_neg h2, if_neg (by omega)]
theorem up_up {α : Type} (f : Nat → α) (k : Nat) (v w : α) : va_up (va_up f k v) k w = va_up f k w := by
  funext i
  unfold va_up
  split <;> rfl
theorem up_sw {α : Type} (f : Nat → α) {j k : Nat} (v w : α) (h : j ≠ k) : va_up (va_up f j v) k w = va_up (va_up f k w) j v := by
  funext i
  unfold va_up
  by_cases h1 : i = k
  · subst h1; simp [Ne.symm h]
  · simp [h1]
theorem up2 {α : Type} (f : Nat → α) {j k : Nat} (a b c d : α) (h : j ≠ k) : va_up (va_up (va_up (va_up f k a) j b) k c) j d = va_up (va_up f k c) j d := by
  rw [up_sw (va_up f k a) b c h, up_up, up_up]
theorem up_id {α : Type} (f : Nat → α) {k : Nat} {v : α} (h : f k = v) : va_up f k v = f := by
  funext i
  unfold va_up
  split
  · subst_vars; rfl
  · rfl
def chM (cy : Nat → ClassId) (ad : Nat → Nat) (mem : Nat → va_E) (j j2 N' : Nat) (f : Nat → Int32) (Z : Nat) : Nat → va_E := va_up (va_up mem j2 (.inl (cy 0, N', .inl f))) j (.inr (0, [.ref (ad j2), .int (nI Z)]))
set_option maxHeartbeats 4000000 in
set_option maxRecDepth 100000 in
theorem m_Ch_append (l : Launch) {D : va_G} {cy : Nat → ClassId} {sz n : Nat} {ad : Nat → Nat} {mem : Nat → va_E} {j j2 N' Z : Nat} {x : Int32} {f : Nat → Int32} (hj : j < n) (hm : mem j = .inr (0, [.ref (ad j2), .int (nI Z)])) (hj2 : j2 < n) (hm2 : mem j2 = .inl (cy 0, N', .inl f)) (hne : j ≠ j2) (hZ : Z < N') (hN : N' < 2 ^ 31) : MV l D cy sz n ad y_Ch_append c_Ch_append 2 ({ frames := 0, cells := 0, slots := 0, locals := 0 } : Room) mem [.ref (ad j), .int (x)] (fun mem' => mem' = chM cy ad mem j j2 N' (upd f Z (cN x)) (Z + 1)) := by
  refine Met.ofW (cc := c_Ch_append) (maxL := 2) (ret := none) (by decide) rfl ?_
  intro p e s m args below meth c s₁ B hml hv
  obtain ⟨rfl, E, hP, hD⟩ := hv
  have hx := B.exec
  have hb := B.bytes
  have hr := B.returns
  have hlocks := B.notSynchronized
  have Bx : MB p s m [.ref (ad j), .int (x)].toArray c c_Ch_append "AbnfChart$Characters" D cy := ⟨hx, hb, tb_all (atoms_spec B.pre) E.2.1, findClass_of_methodNamed B.named, E.1⟩
  have hS : va_S (Az sz) s.heap s.heap [] := va_S.rf
  have hl := lv_entry ([.ref (ad j), .int (x)]) (n := 2) (Nat.le_of_ble_eq_true rfl)
  rw [lg_entry_eq]
  generalize (lg_sl ([.ref (ad j), .int (x)]) ++ List.replicate (2 - (lg_sl ([.ref (ad j), .int (x)])).length) Slot.unset).toArray = ls at hl ⊢
  have hl : lv_has ls 2 [(0, .ref (ad j)), (1, .int (x))] := hl
  refine lv_aload_n Bx.1 Bx.2.1 d_Ch_append_0 rfl (lv_at hl 0 rfl) ?_
  refine f_get Bx hP hj hm rfl inCh 1 (by decide) kw_32 rfl rfl d_Ch_append_1 ?_
  refine lv_aload_n Bx.1 Bx.2.1 d_Ch_append_4 rfl (lv_at hl 0 rfl) ?_
  refine f_get Bx hP hj hm rfl inCh 0 (by decide) kw_31 rfl rfl d_Ch_append_5 ?_
  refine f_alen (t0 := 0) Bx hP hj2 hm2 rfl (v := nI N') rfl d_Ch_append_8 ?_
  refine lv_icmp_ge Bx.1 Bx.2.1 d_Ch_append_9 rfl (fun h => ?_) (fun h => ?_)
  · exact absurd h (nI_ge hZ hN)
  · refine lv_aload_n Bx.1 Bx.2.1 d_Ch_append_12 rfl (lv_at hl 0 rfl) ?_
    refine f_get Bx hP hj hm rfl inCh 0 (by decide) kw_31 rfl rfl d_Ch_append_13 ?_
    refine lv_aload_n Bx.1 Bx.2.1 d_Ch_append_16 rfl (lv_at hl 0 rfl) ?_
    refine f_get Bx hP hj hm rfl inCh 1 (by decide) kw_32 rfl rfl d_Ch_append_17 ?_
    refine lv_iload_n Bx.1 Bx.2.1 d_Ch_append_20 rfl (lv_at hl 1 rfl) ?_
    refine lv_i2c Bx.1 Bx.2.1 d_Ch_append_21 rfl ?_
    refine f_cast (x := cN x) Bx hP hD hS hj2 hm2 (vp_in_nI hZ hN) d_Ch_append_22 (fun H locs hP hS => ?_)
    rw [nI_clamp (by omega), show vp_nar .char (cN x) = cN x from pk_vc x] at hP
    obtain ⟨memA, e_memA⟩ : ∃ z, z = va_up mem (j2) ((.inl (cy 0, N', .inl (upd f Z (cN x))))) := ⟨_, rfl⟩
    have hP : va_P D vcl (fw n ad memA) H := by rw [e_memA]; exact hP
    have hD : va_D (Az sz) (fw n ad memA) := fw_D hD
    have h_memA : memA (j2) = (.inl (cy 0, N', .inl (upd f Z (cN x)))) := by rw [e_memA, va_up_self]
    have hh1 := (va_up_ne mem ((.inl (cy 0, N', .inl (upd f Z (cN x))))) (show (j : Nat) ≠ j2 by first | decide | assumption | omega)).trans hm
    rw [← e_memA] at hh1
    refine lv_aload_n Bx.1 Bx.2.1 d_Ch_append_23 rfl (lv_at hl 0 rfl) ?_
    refine lv_dup Bx.1 Bx.2.1 d_Ch_append_24 rfl ?_
    refine f_get Bx hP hj hh1 rfl inCh 1 (by decide) kw_32 rfl rfl d_Ch_append_25 ?_
    refine lv_iconst (v := 1) Bx.1 Bx.2.1 d_Ch_append_28 (by decide) ?_
    refine lv_iadd Bx.1 Bx.2.1 d_Ch_append_29 ?_
    rw [nI_1]
    refine f_put Bx hP hD hS hj hh1 rfl inCh tyCh okCh nmCh 1 (by decide) kw_32 rfl rfl rfl rfl (Nat.le_of_ble_eq_true rfl) d_Ch_append_30 (fun H locs hP hS => ?_)
    obtain ⟨mem2, e_mem2⟩ : ∃ z, z = va_up memA (j) (.inr (0, [.ref (ad j2), .int (nI (Z + 1))])) := ⟨_, rfl⟩
    have hP : va_P D vcl (fw n ad mem2) H := by rw [e_mem2]; exact hP
    have hD : va_D (Az sz) (fw n ad mem2) := fw_D hD
    have h_mem2 : mem2 (j) = .inr (0, [.ref (ad j2), .int (nI (Z + 1))]) := by rw [e_mem2, va_up_self]
    exact W.vret hx hb hr (fun t ht hW => ⟨⟨mem2, rfl, by rw [e_mem2, e_memA]; rfl, by show va_P _ _ _ t.heap; rw [ht]; exact hP⟩, hS.F ht⟩) hS.2.2 d_Ch_append_33
set_option maxHeartbeats 4000000 in
set_option maxRecDepth 100000 in
theorem m_Ch_appendBytes (l : Launch) {D : va_G} {cy : Nat → ClassId} {sz n : Nat} {ad : Nat → Nat} {mem : Nat → va_E} {j j2 N' Z N : Nat} {x : Int64} {f : Nat → Int32} (hj : j < n) (hm : mem j = .inr (0, [.ref (ad j2), .int (nI Z)])) (hj2 : j2 < n) (hm2 : mem j2 = .inl (cy 0, N', .inl f)) (hne : j ≠ j2) (hZ : Z + N ≤ N') (hN : N' < 2 ^ 31) : MV l D cy sz n ad y_Ch_appendBytes c_Ch_appendBytes 5 ({ frames := 1, cells := 0, slots := 0, locals := 30 } : Room) mem [.ref (ad j), .long (x), .int (nI N)] (fun mem' => mem' = chM cy ad mem j j2 N' (apB f Z x N) (Z + N)) := by
  refine Met.ofW (cc := c_Ch_appendBytes) (maxL := 5) (ret := none) (by decide) rfl ?_
  intro p e s m args below meth c s₁ B hml hv
  obtain ⟨rfl, E, hP, hD⟩ := hv
  have hx := B.exec
  have hb := B.bytes
  have hr := B.returns
  have hlocks := B.notSynchronized
  have Bx : MB p s m [.ref (ad j), .long (x), .int (nI N)].toArray c c_Ch_appendBytes "AbnfChart$Characters" D cy := ⟨hx, hb, tb_all (atoms_spec B.pre) E.2.1, findClass_of_methodNamed B.named, E.1⟩
  have hS : va_S (Az sz) s.heap s.heap [] := va_S.rf
  have hl := lv_entry ([.ref (ad j), .long (x), .int (nI N)]) (n := 5) (Nat.le_of_ble_eq_true rfl)
  rw [lg_entry_eq]
  generalize (lg_sl ([.ref (ad j), .long (x), .int (nI N)]) ++ List.replicate (5 - (lg_sl ([.ref (ad j), .long (x), .int (nI N)])).length) Slot.unset).toArray = ls at hl ⊢
  have hl : lv_has ls 5 [(0, .ref (ad j)), (1, .long (x)), (3, .int (nI N))] := hl
  refine lv_iconst (v := 0) Bx.1 Bx.2.1 d_Ch_appendBytes_0 (by decide) ?_
  refine lv_istore (lv' := [(4, .int (0)), (0, .ref (ad j)), (1, .long (x)), (3, .int (nI N))]) Bx.1 Bx.2.1 d_Ch_appendBytes_1 hl (by decide) rfl (fun ls hl => ?_)
  have loop : ∀ (d k : Nat) (ls : Array Slot) (H : Heap) (locs : List Loc), k + d = N → lv_has ls 5 [(4, .int (nI k)), (0, .ref (ad j)), (1, .long x), (3, .int (nI N))] → va_P D vcl (fw n ad (chM cy ad mem j j2 N' (apB f Z x k) (Z + k))) H → va_S (Az sz) s.heap H locs → W p l e (headSpec (Cond.code y_Ch_appendBytes c_Ch_appendBytes 5 none :: tg) ({ frames := 1, cells := 0, slots := 0, locals := 30 } : Room)).room s m [.ref (ad j), .long (x), .int (nI N)].toArray below meth c H locs 0 0 (MQ below (va_Qv (fun mem' => mem' = chM cy ad mem j j2 N' (apB f Z x N) (Z + N)) (PP D n ad) (Az sz)) [.ref (ad j), .long (x), .int (nI N)].toArray s 0 0 (Az sz)) (F0 m 3 ls []) := by
    intro d
    induction d with
    | zero =>
      intro k ls H locs hk hl hP hS
      obtain rfl : k = N := by omega
      refine lv_iload Bx.1 Bx.2.1 d_Ch_appendBytes_3 (lv_at hl 0 rfl) ?_
      refine lv_iload_n Bx.1 Bx.2.1 d_Ch_appendBytes_5 rfl (lv_at hl 3 rfl) ?_
      refine lv_icmp_ge Bx.1 Bx.2.1 d_Ch_appendBytes_6 rfl (fun h => ?_) (fun h => ?_)
      · exact W.vret hx hb hr (fun t ht hW => ⟨⟨(chM cy ad mem j j2 N' (apB f Z x k) (Z + k)), rfl, rfl, by show va_P _ _ _ t.heap; rw [ht]; exact hP⟩, hS.F ht⟩) hS.2.2 d_Ch_appendBytes_25
      · exact absurd (nI_le (Nat.le_refl k) (by omega)) h
    | succ d ih =>
      intro k ls H locs hk hl hP hS
      refine lv_iload Bx.1 Bx.2.1 d_Ch_appendBytes_3 (lv_at hl 0 rfl) ?_
      refine lv_iload_n Bx.1 Bx.2.1 d_Ch_appendBytes_5 rfl (lv_at hl 3 rfl) ?_
      refine lv_icmp_ge Bx.1 Bx.2.1 d_Ch_appendBytes_6 rfl (fun h => ?_) (fun h => ?_)
      · exact absurd h (nI_ge (by omega) (by omega))
      · refine lv_aload_n Bx.1 Bx.2.1 d_Ch_appendBytes_9 rfl (lv_at hl 1 rfl) ?_
        refine lv_lload_n Bx.1 Bx.2.1 d_Ch_appendBytes_10 rfl (lv_at hl 2 rfl) ?_
        refine lv_iload Bx.1 Bx.2.1 d_Ch_appendBytes_11 (lv_at hl 0 rfl) ?_
        refine f_callSNi (na := 2) (As := [.long (x), .int (nI k)]) (rest := [.ref (ad j)]) Bx hml E.2.1 (m_Ab_byteOf l x (nI k)) kw_316 kw_226 kw_1 kw_227 (by decide +kernel) ⟨rfl, rfl⟩ ⟨Nat.le_of_ble_eq_true rfl, Nat.le_of_ble_eq_true rfl⟩ rfl hl.1 (Nat.le_of_ble_eq_true rfl) d_Ch_appendBytes_13 ⟨Nat.le_of_ble_eq_true rfl, Nat.le_of_ble_eq_true rfl⟩ (fun r1 hr1 => ?_)
        subst hr1
        have hD : va_D (Az sz) (fw n ad (chM cy ad mem j j2 N' (apB f Z x k) (Z + k))) := fw_D hD
        have hm : chM cy ad mem j j2 N' (apB f Z x k) (Z + k) j = .inr (0, [.ref (ad j2), .int (nI (Z + k))]) := va_up_self _ _ _
        have hm2 : chM cy ad mem j j2 N' (apB f Z x k) (Z + k) j2 = .inl (cy 0, N', .inl (apB f Z x k)) := by unfold chM; rw [va_up_ne _ _ (Ne.symm hne), va_up_self]
        refine f_callVv (na := 1) (As := [.int (by8 x (nI k))]) (rest := []) Bx hml E hP hD hS hj hm rfl (m_Ch_append l hj hm hj2 hm2 hne (by omega) hN) kw_317 kw_318 kw_319 kw_2 kw_320 (by decide +kernel) ⟨rfl, rfl⟩ ⟨Nat.le_of_ble_eq_true rfl, Nat.le_of_ble_eq_true rfl⟩ rfl hl.1 (Nat.le_of_ble_eq_true rfl) d_Ch_appendBytes_16 ⟨Nat.le_of_ble_eq_true rfl, Nat.le_of_ble_eq_true rfl⟩ (fun mem3 H locs hq hP hS => ?_)
        have hD : va_D (Az sz) (fw n ad mem3) := fw_D hD
        have hq2 : mem3 = chM cy ad mem j j2 N' (apB f Z x (k + 1)) (Z + (k + 1)) := by rw [hq, apB_s]; exact up2 _ _ _ _ _ hne
        subst hq2
        refine lv_iinc (lv' := [(4, .int ((nI k + (1)))), (0, .ref (ad j)), (1, .long (x)), (3, .int (nI N))]) Bx.1 Bx.2.1 d_Ch_appendBytes_19 hl (k := 0) rfl rfl (by decide) rfl (fun ls hl => ?_)
        refine lv_goto Bx.1 Bx.2.1 d_Ch_appendBytes_22 rfl ?_
        exact ih (k + 1) ls H locs (by omega) (by rw [nI_succ]; exact (lv_sub hl [0, 1, 2, 3] rfl)) hP hS
  exact loop N 0 ls _ _ (by omega) hl (by rw [apB_0, show chM cy ad mem j j2 N' f (Z + 0) = mem from by unfold chM; rw [up_id mem hm2]; exact up_id mem hm]; exact hP) hS
