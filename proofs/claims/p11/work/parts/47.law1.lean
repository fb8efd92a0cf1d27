theorem d_Lw_write_0 : decode c_Lw_write 0 = .ok (.aload 4, 2) := by decide +kernel
theorem d_Lw_write_2 : decode c_Lw_write 2 = .ok (.iconst 0, 1) := by decide +kernel
theorem d_Lw_write_3 : decode c_Lw_write 3 = .ok (.aload_n 0, 1) := by decide +kernel
theorem d_Lw_write_4 : decode c_Lw_write 4 = .ok (.lload_n 1, 1) := by decide +kernel
theorem d_Lw_write_5 : decode c_Lw_write 5 = .ok (.iload_n 3, 1) := by decide +kernel
theorem d_Lw_write_6 : decode c_Lw_write 6 = .ok (.invokevirtual 7, 3) := by decide +kernel
theorem d_Lw_write_9 : decode c_Lw_write 9 = .ok (.i2l, 1) := by decide +kernel
theorem d_Lw_write_10 : decode c_Lw_write 10 = .ok (.lastore, 1) := by decide +kernel
theorem d_Lw_write_11 : decode c_Lw_write 11 = .ok (.goto 11, 3) := by decide +kernel
theorem d_Lw_write_14 : decode c_Lw_write 14 = .ok (.astore 5, 2) := by decide +kernel
theorem d_Lw_write_16 : decode c_Lw_write 16 = .ok (.iconst 1, 1) := by decide +kernel
theorem d_Lw_write_17 : decode c_Lw_write 17 = .ok (.ireturn, 1) := by decide +kernel
theorem d_Lw_write_18 : decode c_Lw_write 18 = .ok (.astore 5, 2) := by decide +kernel
theorem d_Lw_write_20 : decode c_Lw_write 20 = .ok (.iconst 2, 1) := by decide +kernel
theorem d_Lw_write_21 : decode c_Lw_write 21 = .ok (.ireturn, 1) := by decide +kernel
theorem d_Lw_write_22 : decode c_Lw_write 22 = .ok (.iconst 0, 1) := by decide +kernel
theorem d_Lw_write_23 : decode c_Lw_write 23 = .ok (.ireturn, 1) := by decide +kernel
theorem d_Lw_read_0 : decode c_Lw_read 0 = .ok (.aload_n 1, 1) := by decide +kernel
theorem d_Lw_read_1 : decode c_Lw_read 1 = .ok (.iconst 0, 1) := by decide +kernel
theorem d_Lw_read_2 : decode c_Lw_read 2 = .ok (.aload_n 0, 1) := by decide +kernel
theorem d_Lw_read_3 : decode c_Lw_read 3 = .ok (.invokevirtual 17, 3) := by decide +kernel
theorem d_Lw_read_6 : decode c_Lw_read 6 = .ok (.i2l, 1) := by decide +kernel
theorem d_Lw_read_7 : decode c_Lw_read 7 = .ok (.lastore, 1) := by decide +kernel
theorem d_Lw_read_8 : decode c_Lw_read 8 = .ok (.goto 9, 3) := by decide +kernel
theorem d_Lw_read_11 : decode c_Lw_read 11 = .ok (.astore_n 2, 1) := by decide +kernel
theorem d_Lw_read_12 : decode c_Lw_read 12 = .ok (.iconst 1, 1) := by decide +kernel
theorem d_Lw_read_13 : decode c_Lw_read 13 = .ok (.ireturn, 1) := by decide +kernel
theorem d_Lw_read_14 : decode c_Lw_read 14 = .ok (.astore_n 2, 1) := by decide +kernel
theorem d_Lw_read_15 : decode c_Lw_read 15 = .ok (.iconst 2, 1) := by decide +kernel
theorem d_Lw_read_16 : decode c_Lw_read 16 = .ok (.ireturn, 1) := by decide +kernel
theorem d_Lw_read_17 : decode c_Lw_read 17 = .ok (.iconst 0, 1) := by decide +kernel
theorem d_Lw_read_18 : decode c_Lw_read 18 = .ok (.ireturn, 1) := by decide +kernel
theorem d_Lw_rule_0 : decode c_Lw_rule 0 = .ok (.aload_n 3, 1) := by decide +kernel
theorem d_Lw_rule_1 : decode c_Lw_rule 1 = .ok (.iconst 0, 1) := by decide +kernel
theorem d_Lw_rule_2 : decode c_Lw_rule 2 = .ok (.aload_n 0, 1) := by decide +kernel
theorem d_Lw_rule_3 : decode c_Lw_rule 3 = .ok (.lload_n 1, 1) := by decide +kernel
theorem d_Lw_rule_4 : decode c_Lw_rule 4 = .ok (.invokevirtual 21, 3) := by decide +kernel
theorem d_Lw_rule_7 : decode c_Lw_rule 7 = .ok (.i2l, 1) := by decide +kernel
theorem d_Lw_rule_8 : decode c_Lw_rule 8 = .ok (.lastore, 1) := by decide +kernel
theorem d_Lw_rule_9 : decode c_Lw_rule 9 = .ok (.goto 7, 3) := by decide +kernel
theorem d_Lw_rule_12 : decode c_Lw_rule 12 = .ok (.astore 4, 2) := by decide +kernel
theorem d_Lw_rule_14 : decode c_Lw_rule 14 = .ok (.iconst 1, 1) := by decide +kernel
theorem d_Lw_rule_15 : decode c_Lw_rule 15 = .ok (.ireturn, 1) := by decide +kernel
theorem d_Lw_rule_16 : decode c_Lw_rule 16 = .ok (.iconst 0, 1) := by decide +kernel
theorem d_Lw_rule_17 : decode c_Lw_rule 17 = .ok (.ireturn, 1) := by decide +kernel
theorem d_Lw_give_0 : decode c_Lw_give 0 = .ok (.aload 4, 2) := by decide +kernel
theorem d_Lw_give_2 : decode c_Lw_give 2 = .ok (.iconst 0, 1) := by decide +kernel
theorem d_Lw_give_3 : decode c_Lw_give 3 = .ok (.aload_n 0, 1) := by decide +kernel
theorem d_Lw_give_4 : decode c_Lw_give 4 = .ok (.lload_n 1, 1) := by decide +kernel
theorem d_Lw_give_5 : decode c_Lw_give 5 = .ok (.iload_n 3, 1) := by decide +kernel
theorem d_Lw_give_6 : decode c_Lw_give 6 = .ok (.invokevirtual 27, 3) := by decide +kernel
theorem d_Lw_give_9 : decode c_Lw_give 9 = .ok (.i2l, 1) := by decide +kernel
theorem d_Lw_give_10 : decode c_Lw_give 10 = .ok (.lastore, 1) := by decide +kernel
theorem d_Lw_give_11 : decode c_Lw_give 11 = .ok (.goto 11, 3) := by decide +kernel
theorem d_Lw_give_14 : decode c_Lw_give 14 = .ok (.astore 5, 2) := by decide +kernel
theorem d_Lw_give_16 : decode c_Lw_give 16 = .ok (.iconst 1, 1) := by decide +kernel
theorem d_Lw_give_17 : decode c_Lw_give 17 = .ok (.ireturn, 1) := by decide +kernel
theorem d_Lw_give_18 : decode c_Lw_give 18 = .ok (.astore 5, 2) := by decide +kernel
theorem d_Lw_give_20 : decode c_Lw_give 20 = .ok (.iconst 2, 1) := by decide +kernel
theorem d_Lw_give_21 : decode c_Lw_give 21 = .ok (.ireturn, 1) := by decide +kernel
theorem d_Lw_give_22 : decode c_Lw_give 22 = .ok (.iconst 0, 1) := by decide +kernel
theorem d_Lw_give_23 : decode c_Lw_give 23 = .ok (.ireturn, 1) := by decide +kernel
theorem d_Lw_matches_0 : decode c_Lw_matches 0 = .ok (.aload 4, 2) := by decide +kernel
theorem d_Lw_matches_2 : decode c_Lw_matches 2 = .ok (.iconst 0, 1) := by decide +kernel
theorem d_Lw_matches_3 : decode c_Lw_matches 3 = .ok (.aload_n 0, 1) := by decide +kernel
theorem d_Lw_matches_4 : decode c_Lw_matches 4 = .ok (.iload_n 1, 1) := by decide +kernel
theorem d_Lw_matches_5 : decode c_Lw_matches 5 = .ok (.iload_n 2, 1) := by decide +kernel
theorem d_Lw_matches_6 : decode c_Lw_matches 6 = .ok (.iload_n 3, 1) := by decide +kernel
theorem d_Lw_matches_7 : decode c_Lw_matches 7 = .ok (.invokevirtual 30, 3) := by decide +kernel
theorem d_Lw_matches_10 : decode c_Lw_matches 10 = .ok (.ifCond .eq 7, 3) := by decide +kernel
theorem d_Lw_matches_13 : decode c_Lw_matches 13 = .ok (.lconst 1, 1) := by decide +kernel
theorem d_Lw_matches_14 : decode c_Lw_matches 14 = .ok (.goto 4, 3) := by decide +kernel
theorem d_Lw_matches_17 : decode c_Lw_matches 17 = .ok (.lconst 0, 1) := by decide +kernel
theorem d_Lw_matches_18 : decode c_Lw_matches 18 = .ok (.lastore, 1) := by decide +kernel
theorem d_Lw_matches_19 : decode c_Lw_matches 19 = .ok (.goto 11, 3) := by decide +kernel
theorem d_Lw_matches_22 : decode c_Lw_matches 22 = .ok (.astore 5, 2) := by decide +kernel
theorem d_Lw_matches_24 : decode c_Lw_matches 24 = .ok (.iconst 1, 1) := by decide +kernel
theorem d_Lw_matches_25 : decode c_Lw_matches 25 = .ok (.ireturn, 1) := by decide +kernel
theorem d_Lw_matches_26 : decode c_Lw_matches 26 = .ok (.astore 5, 2) := by decide +kernel
theorem d_Lw_matches_28 : decode c_Lw_matches 28 = .ok (.iconst 2, 1) := by decide +kernel
theorem d_Lw_matches_29 : decode c_Lw_matches 29 = .ok (.ireturn, 1) := by decide +kernel
theorem d_Lw_matches_30 : decode c_Lw_matches 30 = .ok (.iconst 0, 1) := by decide +kernel
theorem d_Lw_matches_31 : decode c_Lw_matches 31 = .ok (.ireturn, 1) := by decide +kernel
theorem d_Lw_longest_0 : decode c_Lw_longest 0 = .ok (.aload_n 3, 1) := by decide +kernel
theorem d_Lw_longest_1 : decode c_Lw_longest 1 = .ok (.iconst 0, 1) := by decide +kernel
theorem d_Lw_longest_2 : decode c_Lw_longest 2 = .ok (.aload_n 0, 1) := by decide +kernel
theorem d_Lw_longest_3 : decode c_Lw_longest 3 = .ok (.iload_n 1, 1) := by decide +kernel
theorem d_Lw_longest_4 : decode c_Lw_longest 4 = .ok (.iload_n 2, 1) := by decide +kernel
theorem d_Lw_longest_5 : decode c_Lw_longest 5 = .ok (.invokevirtual 36, 3) := by decide +kernel
theorem d_Lw_longest_8 : decode c_Lw_longest 8 = .ok (.i2l, 1) := by decide +kernel
theorem d_Lw_longest_9 : decode c_Lw_longest 9 = .ok (.lastore, 1) := by decide +kernel
theorem d_Lw_longest_10 : decode c_Lw_longest 10 = .ok (.goto 11, 3) := by decide +kernel
theorem d_Lw_longest_13 : decode c_Lw_longest 13 = .ok (.astore 4, 2) := by decide +kernel
theorem d_Lw_longest_15 : decode c_Lw_longest 15 = .ok (.iconst 1, 1) := by decide +kernel
theorem d_Lw_longest_16 : decode c_Lw_longest 16 = .ok (.ireturn, 1) := by decide +kernel
theorem d_Lw_longest_17 : decode c_Lw_longest 17 = .ok (.astore 4, 2) := by decide +kernel
theorem d_Lw_longest_19 : decode c_Lw_longest 19 = .ok (.iconst 2, 1) := by decide +kernel
theorem d_Lw_longest_20 : decode c_Lw_longest 20 = .ok (.ireturn, 1) := by decide +kernel
theorem d_Lw_longest_21 : decode c_Lw_longest 21 = .ok (.iconst 0, 1) := by decide +kernel
theorem d_Lw_longest_22 : decode c_Lw_longest 22 = .ok (.ireturn, 1) := by decide +kernel
theorem d_Lw_pieces_0 : decode c_Lw_pieces 0 = .ok (.aload_n 2, 1) := by decide +kernel
theorem d_Lw_pieces_1 : decode c_Lw_pieces 1 = .ok (.iconst 0, 1) := by decide +kernel
theorem d_Lw_pieces_2 : decode c_Lw_pieces 2 = .ok (.aload_n 0, 1) := by decide +kernel
theorem d_Lw_pieces_3 : decode c_Lw_pieces 3 = .ok (.iload_n 1, 1) := by decide +kernel
theorem d_Lw_pieces_4 : decode c_Lw_pieces 4 = .ok (.invokevirtual 40, 3) := by decide +kernel
theorem d_Lw_pieces_7 : decode c_Lw_pieces 7 = .ok (.i2l, 1) := by decide +kernel
theorem d_Lw_pieces_8 : decode c_Lw_pieces 8 = .ok (.lastore, 1) := by decide +kernel
theorem d_Lw_pieces_9 : decode c_Lw_pieces 9 = .ok (.goto 6, 3) := by decide +kernel
theorem d_Lw_pieces_12 : decode c_Lw_pieces 12 = .ok (.astore_n 3, 1) := by decide +kernel
theorem d_Lw_pieces_13 : decode c_Lw_pieces 13 = .ok (.iconst 1, 1) := by decide +kernel
theorem d_Lw_pieces_14 : decode c_Lw_pieces 14 = .ok (.ireturn, 1) := by decide +kernel
theorem d_Lw_pieces_15 : decode c_Lw_pieces 15 = .ok (.iconst 0, 1) := by decide +kernel
theorem d_Lw_pieces_16 : decode c_Lw_pieces 16 = .ok (.ireturn, 1) := by decide +kernel
theorem d_Lw_count_0 : decode c_Lw_count 0 = .ok (.aload_n 2, 1) := by decide +kernel
theorem d_Lw_count_1 : decode c_Lw_count 1 = .ok (.iconst 0, 1) := by decide +kernel
theorem d_Lw_count_2 : decode c_Lw_count 2 = .ok (.aload_n 0, 1) := by decide +kernel
theorem d_Lw_count_3 : decode c_Lw_count 3 = .ok (.iload_n 1, 1) := by decide +kernel
theorem d_Lw_count_4 : decode c_Lw_count 4 = .ok (.invokevirtual 44, 3) := by decide +kernel
theorem d_Lw_count_7 : decode c_Lw_count 7 = .ok (.i2l, 1) := by decide +kernel
theorem d_Lw_count_8 : decode c_Lw_count 8 = .ok (.lastore, 1) := by decide +kernel
theorem d_Lw_count_9 : decode c_Lw_count 9 = .ok (.goto 6, 3) := by decide +kernel
theorem d_Lw_count_12 : decode c_Lw_count 12 = .ok (.astore_n 3, 1) := by decide +kernel
theorem d_Lw_count_13 : decode c_Lw_count 13 = .ok (.iconst 1, 1) := by decide +kernel
theorem d_Lw_count_14 : decode c_Lw_count 14 = .ok (.ireturn, 1) := by decide +kernel
theorem d_Lw_count_15 : decode c_Lw_count 15 = .ok (.iconst 0, 1) := by decide +kernel
theorem d_Lw_count_16 : decode c_Lw_count 16 = .ok (.ireturn, 1) := by decide +kernel
section KL
variable {cy : Nat → ClassId} {ad : Nat → Nat} {Z : Nat} {mem mem' : Nat → va_E}
/-- only the text's cells are new -/
theorem KI.text {Z' : Nat} {f : Nat → Int32} (h : KI cy ad Z mem) (hz : Z' ≤ 240) (h1 : mem' 1 = .inr (0, [.ref (ad 2), .int (nI Z')])) (h2 : mem' 2 = .inl (cy 0, 240, .inl f)) (e : ∀ i, i < 224 → i ≠ 1 → i ≠ 2 → mem' i = mem i) : KI cy ad Z' mem' := by
  obtain ⟨h0, -, ⟨I, h3, hI, g, h4⟩, ⟨lim, rc, ec, wh, hG⟩, ⟨a, t, h9⟩, fl, hc⟩ := h
  exact ⟨(e 0 (by omega) (by omega) (by omega)).trans h0, ⟨f, h1, hz, h2⟩, ⟨I, (e 3 (by omega) (by omega) (by omega)).trans h3, hI, g, (e 4 (by omega) (by omega) (by omega)).trans h4⟩, ⟨lim, rc, ec, wh, hG.frame (fun i h1 h2 => e i (by omega) (by omega) (by omega))⟩, ⟨a, t, (e 222 (by omega) (by omega) (by omega)).trans h9⟩, fl, (e 223 (by omega) (by omega) (by omega)).trans hc⟩
/-- the input's cells are new, and the chart is forgotten -/
theorem KI.input {I' : Nat} {f : Nat → Int32} {fl : Int32} (h : KI cy ad Z mem) (hz : I' ≤ 24) (h3 : mem' 3 = .inr (0, [.ref (ad 4), .int (nI I')])) (h4 : mem' 4 = .inl (cy 0, 24, .inl f)) (hc : mem' 223 = ctC ad fl) (e : ∀ i, i < 223 → i ≠ 3 → i ≠ 4 → mem' i = mem i) : KI cy ad Z mem' := by
  obtain ⟨h0, ⟨g, h1, hZ, h2⟩, -, ⟨lim, rc, ec, wh, hG⟩, ⟨a, t, h9⟩, -⟩ := h
  exact ⟨(e 0 (by omega) (by omega) (by omega)).trans h0, ⟨g, (e 1 (by omega) (by omega) (by omega)).trans h1, hZ, (e 2 (by omega) (by omega) (by omega)).trans h2⟩, ⟨I', h3, hz, f, h4⟩, ⟨lim, rc, ec, wh, hG.frame (fun i h1 h2 => e i (by omega) (by omega) (by omega))⟩, ⟨a, t, (e 222 (by omega) (by omega) (by omega)).trans h9⟩, fl, hc⟩
theorem KI.reader {lim rc ec : Nat} {wh a t fl : Int32} (h : KI cy ad Z mem) (hG : GI cy ad lim rc ec wh mem') (h9 : mem' 222 = .inr (4, [.ref (ad 1), .ref (ad 5), .int a, .int t])) (hc : mem' 223 = ctC ad fl) (e : ∀ i, i < 5 → mem' i = mem i) : KI cy ad Z mem' := by
  obtain ⟨h0, ⟨g, h1, hZ, h2⟩, ⟨I, h3, hI, gi, h4⟩, -, -, -⟩ := h
  exact ⟨(e 0 (by omega)).trans h0, ⟨g, (e 1 (by omega)).trans h1, hZ, (e 2 (by omega)).trans h2⟩, ⟨I, (e 3 (by omega)).trans h3, hI, gi, (e 4 (by omega)).trans h4⟩, ⟨lim, rc, ec, wh, hG⟩, ⟨a, t, h9⟩, fl, hc⟩
def LO (cy : Nat → ClassId) (mem : Nat → va_E) : Prop := ∃ ou : Nat → Int64, mem 242 = .inl (cy 2, 1, .inr (.inl ou))
/-- behind a call of the class in the law -/
def LPo (cy : Nat → ClassId) (ad : Nat → Nat) (Z : Nat) (mem mem' : Nat → va_E) : Prop := KI cy ad Z mem' ∧ LO cy mem' ∧ ∀ i, (224 ≤ i ∧ i ≠ 242) ∨ i < 20 → mem' i = mem i
theorem KI.out {x : va_E} (h : KI cy ad Z mem) : KI cy ad Z (va_up mem 242 x) := h.frame (fun i hi => va_up_ne _ _ (by omega))
end KL
def WrC (ok : Int32 → Bool) (cap : Nat) (x : Int64) (k : Int32) (Z Z' : Nat) (rC : Int32) (o : Int64) : Prop :=
  (rC = 0 ∧ ∃ N : Nat, k = nI N ∧ 1 ≤ N ∧ N ≤ 8 ∧ allB (fun i => ok (by8 x (nI i))) N = true ∧ Z + N ≤ cap ∧ Z' = Z + N ∧ o = (nI (Z + N)).toInt64) ∨ (rC = 1 ∧ Z' = Z ∧ (k < 1 ∨ 8 < k ∨ ∃ N : Nat, k = nI N ∧ 1 ≤ N ∧ N ≤ 8 ∧ allB (fun i => ok (by8 x (nI i))) N = false)) ∨ (rC = 2 ∧ Z' = Z ∧ ∃ N : Nat, k = nI N ∧ 1 ≤ N ∧ N ≤ 8 ∧ allB (fun i => ok (by8 x (nI i))) N = true ∧ cap < Z + N)
def WrM (ok : Int32 → Bool) (cap : Nat) (x : Int64) (k : Int32) (Z Z' : Nat) (r t : Int32) : Prop :=
  ((k < 1 ∨ 8 < k) ∧ r = 0 ∧ t = 1 ∧ Z' = Z) ∨ ∃ M : Nat, k = nI M ∧ 1 ≤ M ∧ M ≤ 8 ∧ ((allB (fun i => ok (bm8 x (nI i))) M = false ∧ r = 0 ∧ t = 1 ∧ Z' = Z) ∨ (allB (fun i => ok (bm8 x (nI i))) M = true ∧ cap < Z + M ∧ r = 0 ∧ t = 2 ∧ Z' = Z) ∨ (allB (fun i => ok (bm8 x (nI i))) M = true ∧ Z + M ≤ cap ∧ r = nI (Z + M) ∧ t = 0 ∧ Z' = Z + M))
set_option maxHeartbeats 4000000 in
set_option maxRecDepth 100000 in
theorem m_Lw_write (l : Launch) {D : va_G} {cy : Nat → ClassId} {sz n : Nat} {ad : Nat → Nat} {mem : Nat → va_E} {ou : Nat → Int64} {Z : Nat} {f : Nat → Int32} {x : Int64} {k : Int32} (hlt : l.stackTraces = false) (hn : 243 ≤ n) (h0 : mem 0 = .inr (6, [.ref (ad 1), .ref (ad 3), .ref (ad 5), .ref (ad 222), .ref (ad 223)])) (ho : mem 242 = .inl (cy 2, 1, .inr (.inl ou))) (h1 : mem 1 = .inr (0, [.ref (ad 2), .int (nI Z)])) (h2 : mem 2 = .inl (cy 0, 240, .inl f)) (hZ : Z ≤ 240) : ML l D cy sz n ad y_Lw_write c_Lw_write 6 (some .int) [(0, 11, 14, 13), (0, 11, 18, 15)] ({ frames := 8, cells := 1, slots := 6, locals := 200 } : Room) mem [.ref (ad 0), .long (x), .int (k), .ref (ad 242)] (fun r mem' => (r = 0 ∧ ∃ N : Nat, k = nI N ∧ 1 ≤ N ∧ N ≤ 8 ∧ allB (fun i => okT (by8 x (nI i))) N = true ∧ Z + N ≤ 240 ∧ mem' = va_up (chM cy ad mem 1 2 240 (apB f Z x N) (Z + N)) 242 (.inl (cy 2, 1, .inr (.inl (vp_updL ou 0 ((nI (Z + N)).toInt64)))))) ∨ (r = 1 ∧ mem' = mem ∧ (k < 1 ∨ 8 < k ∨ ∃ N : Nat, k = nI N ∧ 1 ≤ N ∧ N ≤ 8 ∧ allB (fun i => okT (by8 x (nI i))) N = false)) ∨ (r = 2 ∧ mem' = mem ∧ ∃ N : Nat, k = nI N ∧ 1 ≤ N ∧ N ≤ 8 ∧ allB (fun i => okT (by8 x (nI i))) N = true ∧ 240 < Z + N)) := by
  refine va_MetW (cc := c_Lw_write) (maxL := 6) (ret := (some .int)) (hh := [(0, 11, 14, 13), (0, 11, 18, 15)]) (by decide) rfl ?_
  intro p e s m args below meth c s₁ B hml hv
  obtain ⟨rfl, E, hP, hD⟩ := hv
  have hx := B.exec
  have hb := B.bytes
  have hr := B.returns
  have hlocks := B.notSynchronized
  have Bx : MB p s m [.ref (ad 0), .long (x), .int (k), .ref (ad 242)].toArray c c_Lw_write "AbnfChartLaw" D cy := ⟨hx, hb, tb_all (atoms_spec B.pre) E.2.1, findClass_of_methodNamed B.named, E.1⟩
  have hT : c.exceptionTable.toList = tableOf [(0, 11, 14, 13), (0, 11, 18, 15)] := vx_table (x := y_Lw_write) B (atoms_spec B.pre _ List.mem_cons_self)
  have hS : va_S (Az sz) s.heap s.heap [] := va_S.rf
  have hl := lv_entry ([.ref (ad 0), .long (x), .int (k), .ref (ad 242)]) (n := 6) (Nat.le_of_ble_eq_true rfl)
  rw [lg_entry_eq]
  generalize (lg_sl ([.ref (ad 0), .long (x), .int (k), .ref (ad 242)]) ++ List.replicate (6 - (lg_sl ([.ref (ad 0), .long (x), .int (k), .ref (ad 242)])).length) Slot.unset).toArray = ls at hl ⊢
  have hl : lv_has ls 6 [(0, .ref (ad 0)), (1, .long (x)), (3, .int (k)), (4, .ref (ad 242))] := hl
  refine lv_aload Bx.1 Bx.2.1 d_Lw_write_0 (lv_at hl 3 rfl) ?_
  refine lv_iconst (v := 0) Bx.1 Bx.2.1 d_Lw_write_2 (by decide) ?_
  refine lv_aload_n Bx.1 Bx.2.1 d_Lw_write_3 rfl (lv_at hl 0 rfl) ?_
  refine lv_lload_n Bx.1 Bx.2.1 d_Lw_write_4 rfl (lv_at hl 1 rfl) ?_
  refine lv_iload_n Bx.1 Bx.2.1 d_Lw_write_5 rfl (lv_at hl 2 rfl) ?_
  refine f_callVXi (na := 2) (As := [.long (x), .int (k)]) (rest := [.int (0), .ref (ad 242)]) Bx hml E hP hD hS (by omega) h0 rfl (m_Ab_write l hlt (by omega) h0 h1 h2 hZ) kw_215 kw_216 kw_217 kw_1 kw_218 (by decide +kernel) ⟨rfl, rfl⟩ ⟨Nat.le_of_ble_eq_true rfl, Nat.le_of_ble_eq_true rfl⟩ rfl hl.1 (Nat.le_of_ble_eq_true rfl) d_Lw_write_6 ⟨Nat.le_of_ble_eq_true rfl, Nat.le_of_ble_eq_true rfl⟩ (fun X ce q9 memx H locs hx1 hP hS g1 g2 g3 => ?_) (fun r9 mem9 H locs hq hP hS => ?_)
  · obtain ⟨hm9, hx1⟩ := hx1
    rcases hx1 with ⟨hX, hw⟩ | ⟨hX, hw⟩
    · subst hX
      refine f_catch1 Bx hT ⟨by decide, by decide⟩ (by decide) kw_213 kw_231 g1 g2 g3 ?_
      refine lv_astore (lv' := [(5, .ref (q9)), (0, .ref (ad 0)), (1, .long (x)), (3, .int (k)), (4, .ref (ad 242))]) Bx.1 Bx.2.1 d_Lw_write_14 hl (by decide) rfl (fun ls hl => ?_)
      refine lv_iconst (v := 1) Bx.1 Bx.2.1 d_Lw_write_16 (by decide) ?_
      exact W.iret (v := 1) hx hb hr (fun t ht hW => ⟨⟨1, memx, rfl, Or.inr (Or.inl ⟨rfl, hm9, hw⟩), by show va_P _ _ _ t.heap; rw [ht]; exact hP⟩, hS.F ht⟩) hS.2.2 d_Lw_write_17
    · subst hX
      refine f_catch2 Bx hT ⟨by decide, by decide⟩ (by decide) kw_214 kw_299 (by decide) kw_213 E.2.2.2.2.2.1 g1 g2 g3 ?_
      refine lv_astore (lv' := [(5, .ref (q9)), (0, .ref (ad 0)), (1, .long (x)), (3, .int (k)), (4, .ref (ad 242))]) Bx.1 Bx.2.1 d_Lw_write_18 hl (by decide) rfl (fun ls hl => ?_)
      refine lv_iconst (v := 2) Bx.1 Bx.2.1 d_Lw_write_20 (by decide) ?_
      exact W.iret (v := 2) hx hb hr (fun t ht hW => ⟨⟨2, memx, rfl, Or.inr (Or.inr ⟨rfl, hm9, hw⟩), by show va_P _ _ _ t.heap; rw [ht]; exact hP⟩, hS.F ht⟩) hS.2.2 d_Lw_write_21
  · have hD : va_D (Az sz) (fw n ad mem9) := fw_D hD
    obtain ⟨N, hk, hN1, hN8, ha, hroom, hr9, hm9⟩ := hq
    subst hr9
    have ho9 : mem9 242 = .inl (cy 2, 1, .inr (.inl ou)) := by rw [hm9]; unfold chM; rw [va_up_ne _ _ (by decide), va_up_ne _ _ (by decide)]; exact ho
    refine lv_i2l Bx.1 Bx.2.1 d_Lw_write_9 rfl ?_
    refine f_last (x := (nI (Z + N)).toInt64) (i := 0) Bx hP hD hS (by omega) ho9 (vp_in_nI (n := 0) (by decide) (by decide)) d_Lw_write_10 (fun H locs hP hS => ?_)
    refine lv_goto Bx.1 Bx.2.1 d_Lw_write_11 rfl ?_
    refine lv_iconst (v := 0) Bx.1 Bx.2.1 d_Lw_write_22 (by decide) ?_
    exact W.iret (v := 0) hx hb hr (fun t ht hW => ⟨⟨0, (va_up mem9 242 (.inl (cy 2, 1, .inr (.inl (vp_updL ou (0 : Int32).toNatClampNeg ((nI (Z + N)).toInt64)))))), rfl, Or.inl ⟨rfl, N, hk, hN1, hN8, ha, hroom, by rw [hm9]; rfl⟩, by show va_P _ _ _ t.heap; rw [ht]; exact hP⟩, hS.F ht⟩) hS.2.2 d_Lw_write_23
set_option maxHeartbeats 4000000 in
set_option maxRecDepth 100000 in
theorem m_Lw_give (l : Launch) {D : va_G} {cy : Nat → ClassId} {sz n : Nat} {ad : Nat → Nat} {mem : Nat → va_E} {ou : Nat → Int64} {Z : Nat} {f : Nat → Int32} {x : Int64} {k : Int32} {a b : Value} {fl : Int32} (hlt : l.stackTraces = false) (hn : 243 ≤ n) (h0 : mem 0 = .inr (6, [.ref (ad 1), .ref (ad 3), .ref (ad 5), .ref (ad 222), .ref (ad 223)])) (ho : mem 242 = .inl (cy 2, 1, .inr (.inl ou))) (h1 : mem 3 = .inr (0, [.ref (ad 4), .int (nI Z)])) (h2 : mem 4 = .inl (cy 0, 24, .inl f)) (hZ : Z ≤ 24) (hc : mem 223 = .inr (1, [a, b, .int fl])) : ML l D cy sz n ad y_Lw_give c_Lw_give 6 (some .int) [(0, 11, 14, 13), (0, 11, 18, 15)] ({ frames := 8, cells := 1, slots := 6, locals := 200 } : Room) mem [.ref (ad 0), .long (x), .int (k), .ref (ad 242)] (fun r mem' => (r = 0 ∧ ∃ N : Nat, k = nI N ∧ 1 ≤ N ∧ N ≤ 8 ∧ allB (fun i => okI (by8 x (nI i))) N = true ∧ Z + N ≤ 24 ∧ mem' = va_up (chM cy ad (va_up mem 223 (.inr (1, [a, b, .int 0]))) 3 4 24 (apB f Z x N) (Z + N)) 242 (.inl (cy 2, 1, .inr (.inl (vp_updL ou 0 ((nI (Z + N)).toInt64)))))) ∨ (r = 1 ∧ mem' = mem ∧ (k < 1 ∨ 8 < k ∨ ∃ N : Nat, k = nI N ∧ 1 ≤ N ∧ N ≤ 8 ∧ allB (fun i => okI (by8 x (nI i))) N = false)) ∨ (r = 2 ∧ mem' = mem ∧ ∃ N : Nat, k = nI N ∧ 1 ≤ N ∧ N ≤ 8 ∧ allB (fun i => okI (by8 x (nI i))) N = true ∧ 24 < Z + N)) := by
  refine va_MetW (cc := c_Lw_give) (maxL := 6) (ret := (some .int)) (hh := [(0, 11, 14, 13), (0, 11, 18, 15)]) (by decide) rfl ?_
  intro p e s m args below meth c s₁ B hml hv
  obtain ⟨rfl, E, hP, hD⟩ := hv
  have hx := B.exec
  have hb := B.bytes
  have hr := B.returns
  have hlocks := B.notSynchronized
  have Bx : MB p s m [.ref (ad 0), .long (x), .int (k), .ref (ad 242)].toArray c c_Lw_give "AbnfChartLaw" D cy := ⟨hx, hb, tb_all (atoms_spec B.pre) E.2.1, findClass_of_methodNamed B.named, E.1⟩
  have hT : c.exceptionTable.toList = tableOf [(0, 11, 14, 13), (0, 11, 18, 15)] := vx_table (x := y_Lw_give) B (atoms_spec B.pre _ List.mem_cons_self)
  have hS : va_S (Az sz) s.heap s.heap [] := va_S.rf
  have hl := lv_entry ([.ref (ad 0), .long (x), .int (k), .ref (ad 242)]) (n := 6) (Nat.le_of_ble_eq_true rfl)
  rw [lg_entry_eq]
  generalize (lg_sl ([.ref (ad 0), .long (x), .int (k), .ref (ad 242)]) ++ List.replicate (6 - (lg_sl ([.ref (ad 0), .long (x), .int (k), .ref (ad 242)])).length) Slot.unset).toArray = ls at hl ⊢
  have hl : lv_has ls 6 [(0, .ref (ad 0)), (1, .long (x)), (3, .int (k)), (4, .ref (ad 242))] := hl
  refine lv_aload Bx.1 Bx.2.1 d_Lw_give_0 (lv_at hl 3 rfl) ?_
  refine lv_iconst (v := 0) Bx.1 Bx.2.1 d_Lw_give_2 (by decide) ?_
  refine lv_aload_n Bx.1 Bx.2.1 d_Lw_give_3 rfl (lv_at hl 0 rfl) ?_
  refine lv_lload_n Bx.1 Bx.2.1 d_Lw_give_4 rfl (lv_at hl 1 rfl) ?_
  refine lv_iload_n Bx.1 Bx.2.1 d_Lw_give_5 rfl (lv_at hl 2 rfl) ?_
  refine f_callVXi (na := 2) (As := [.long (x), .int (k)]) (rest := [.int (0), .ref (ad 242)]) Bx hml E hP hD hS (by omega) h0 rfl (m_Ab_give l hlt (by omega) h0 h1 h2 hZ hc) kw_533 kw_534 kw_535 kw_1 kw_536 (by decide +kernel) ⟨rfl, rfl⟩ ⟨Nat.le_of_ble_eq_true rfl, Nat.le_of_ble_eq_true rfl⟩ rfl hl.1 (Nat.le_of_ble_eq_true rfl) d_Lw_give_6 ⟨Nat.le_of_ble_eq_true rfl, Nat.le_of_ble_eq_true rfl⟩ (fun X ce q9 memx H locs hx1 hP hS g1 g2 g3 => ?_) (fun r9 mem9 H locs hq hP hS => ?_)
  · obtain ⟨hm9, hx1⟩ := hx1
    rcases hx1 with ⟨hX, hw⟩ | ⟨hX, hw⟩
    · subst hX
      refine f_catch1 Bx hT ⟨by decide, by decide⟩ (by decide) kw_213 kw_231 g1 g2 g3 ?_
      refine lv_astore (lv' := [(5, .ref (q9)), (0, .ref (ad 0)), (1, .long (x)), (3, .int (k)), (4, .ref (ad 242))]) Bx.1 Bx.2.1 d_Lw_give_14 hl (by decide) rfl (fun ls hl => ?_)
      refine lv_iconst (v := 1) Bx.1 Bx.2.1 d_Lw_give_16 (by decide) ?_
      exact W.iret (v := 1) hx hb hr (fun t ht hW => ⟨⟨1, memx, rfl, Or.inr (Or.inl ⟨rfl, hm9, hw⟩), by show va_P _ _ _ t.heap; rw [ht]; exact hP⟩, hS.F ht⟩) hS.2.2 d_Lw_give_17
    · subst hX
      refine f_catch2 Bx hT ⟨by decide, by decide⟩ (by decide) kw_214 kw_299 (by decide) kw_213 E.2.2.2.2.2.1 g1 g2 g3 ?_
      refine lv_astore (lv' := [(5, .ref (q9)), (0, .ref (ad 0)), (1, .long (x)), (3, .int (k)), (4, .ref (ad 242))]) Bx.1 Bx.2.1 d_Lw_give_18 hl (by decide) rfl (fun ls hl => ?_)
      refine lv_iconst (v := 2) Bx.1 Bx.2.1 d_Lw_give_20 (by decide) ?_
      exact W.iret (v := 2) hx hb hr (fun t ht hW => ⟨⟨2, memx, rfl, Or.inr (Or.inr ⟨rfl, hm9, hw⟩), by show va_P _ _ _ t.heap; rw [ht]; exact hP⟩, hS.F ht⟩) hS.2.2 d_Lw_give_21
  · have hD : va_D (Az sz) (fw n ad mem9) := fw_D hD
    obtain ⟨N, hk, hN1, hN8, ha, hroom, hr9, hm9⟩ := hq
    subst hr9
    have ho9 : mem9 242 = .inl (cy 2, 1, .inr (.inl ou)) := by rw [hm9]; unfold chM; rw [va_up_ne _ _ (by decide), va_up_ne _ _ (by decide), va_up_ne _ _ (by decide)]; exact ho
    refine lv_i2l Bx.1 Bx.2.1 d_Lw_give_9 rfl ?_
    refine f_last (x := (nI (Z + N)).toInt64) (i := 0) Bx hP hD hS (by omega) ho9 (vp_in_nI (n := 0) (by decide) (by decide)) d_Lw_give_10 (fun H locs hP hS => ?_)
    refine lv_goto Bx.1 Bx.2.1 d_Lw_give_11 rfl ?_
    refine lv_iconst (v := 0) Bx.1 Bx.2.1 d_Lw_give_22 (by decide) ?_
    exact W.iret (v := 0) hx hb hr (fun t ht hW => ⟨⟨0, (va_up mem9 242 (.inl (cy 2, 1, .inr (.inl (vp_updL ou (0 : Int32).toNatClampNeg ((nI (Z + N)).toInt64)))))), rfl, Or.inl ⟨rfl, N, hk, hN1, hN8, ha, hroom, by rw [hm9]; rfl⟩, by show va_P _ _ _ t.heap; rw [ht]; exact hP⟩, hS.F ht⟩) hS.2.2 d_Lw_give_23
/-- what class and reference share between the law's turns -/
def LX (cy : Nat → ClassId) (ad : Nat → Nat) (Z : Nat) (J : Nat → Int32) (A : Ro) (nm : Nat → Int64) (mem : Nat → va_E) : Prop := (∃ f, TX cy ad Z f mem ∧ ∀ k, k < Z → f k = A 225 k) ∧ (∀ k, k < Z → ¬ A 225 k < 0) ∧ ∃ R E : Nat, J 4 = nI R ∧ J 7 = nI E ∧ GX cy ad R E (A 227) nm mem
section LXL
variable {cy : Nat → ClassId} {ad : Nat → Nat} {Z R E : Nat} {J J' : Nat → Int32} {A A' : Ro} {nm : Nat → Int64} {to : Nat → Int32} {mem mem' : Nat → va_E}
theorem GX.gi (h : GX cy ad R E to nm mem) (hR : ∀ lim rc ec wh, GI cy ad lim rc ec wh mem → GI cy ad lim rc ec wh mem') (e : ∀ i, 7 ≤ i → i < 19 → mem' i = mem i) : GX cy ad R E to nm mem' := by
  rcases h with ⟨lim, hG, hN⟩ | ⟨h1, h2, lim, rc, ec, hG⟩
  · exact Or.inl ⟨lim, hR _ _ _ _ hG, hN.fr hG.1.1 e⟩
  · exact Or.inr ⟨h1, h2, lim, rc, ec, hR _ _ _ _ hG⟩
theorem gi5 {lim rc ec lim' rc' ec' : Nat} {wh wh' : Int32} (h : GI cy ad lim rc ec wh mem) (h' : GI cy ad lim' rc' ec' wh' mem') (e : mem' 5 = mem 5) : rc' = rc ∧ ec' = ec ∧ wh' = wh := by
  have q := h'.2.1.symm.trans (e.trans h.2.1)
  injection q with q1
  injection q1 with _ q2
  injection q2 with _ q3
  injection q3 with _ q4
  injection q4 with _ q5
  injection q5 with q6 q7
  injection q7 with q8 q9
  injection q9 with q10 _
  injection q6 with q6
  injection q8 with q8
  injection q10 with q10
  have b1 := h.1
  have b2 := h'.1
  exact ⟨(nI_eq (by omega) (by omega)).mp q6, (nI_eq (by omega) (by omega)).mp q8, q10⟩
theorem GX.ki (h : GX cy ad R E to nm mem) (hK : KI cy ad Z mem') (e : ∀ i, i < 20 → mem' i = mem i) : GX cy ad R E to nm mem' := by
  obtain ⟨-, -, -, ⟨lim', rc', ec', wh', hG'⟩, -⟩ := hK
  rcases h with ⟨lim, hG, hN⟩ | ⟨h1, h2, lim, rc, ec, hG⟩
  · obtain ⟨e1, e2, e3⟩ := gi5 hG hG' (e 5 (by omega))
    subst e1 e2 e3
    exact Or.inl ⟨lim', hG', hN.fr hG.1.1 (fun i _ _ => e i (by omega))⟩
  · obtain ⟨e1, e2, e3⟩ := gi5 hG hG' (e 5 (by omega))
    subst e1 e2 e3
    exact Or.inr ⟨h1, h2, lim', _, _, hG'⟩
theorem LX.of (h : LX cy ad Z J A nm mem) (ht : ∀ f, TX cy ad Z f mem → TX cy ad Z f mem') (hg : ∀ R E to, GX cy ad R E to nm mem → GX cy ad R E to nm mem') (h4 : J' 4 = J 4) (h7 : J' 7 = J 7) (a5 : A' 225 = A 225) (a7 : A' 227 = A 227) : LX cy ad Z J' A' nm mem' := by
  obtain ⟨⟨f, h1, h2⟩, h3, R, E, g4, g7, hG⟩ := h
  exact ⟨⟨f, ht f h1, by rw [a5]; exact h2⟩, by rw [a5]; exact h3, R, E, h4.trans g4, h7.trans g7, by rw [a7]; exact hg _ _ _ hG⟩
theorem TX.fr {f : Nat → Int32} (h : TX cy ad Z f mem) (e : ∀ i, i = 1 ∨ i = 2 → mem' i = mem i) : TX cy ad Z f mem' := ⟨(e 1 (by omega)).trans h.1, h.2.1, (e 2 (by omega)).trans h.2.2⟩
/-- all cells of the class stand -/
theorem LX.mv (h : LX cy ad Z J A nm mem) (e : ∀ i, i < 224 → mem' i = mem i) : LX cy ad Z J A nm mem' := h.of (fun f q => q.fr (fun i hi => e i (by omega))) (fun _ _ _ q => q.gi (fun _ _ _ _ z => z.frame (fun i _ _ => e i (by omega))) (fun i _ _ => e i (by omega))) rfl rfl rfl rfl
/-- a question: the chart may be new -/
theorem LX.qu (h : LX cy ad Z J A nm mem) (hK : KI cy ad Z mem') (e : ∀ i, i < 20 → mem' i = mem i) (hj : ∀ i, i ≠ 0 → i ≠ 26 → J' i = J i) (ha : ∀ j, j ≠ 241 → A' j = A j) : LX cy ad Z J' A' nm mem' := h.of (fun f q => q.fr (fun i hi => e i (by omega))) (fun _ _ _ q => q.ki hK e) (hj 4 (by decide) (by decide)) (hj 7 (by decide) (by decide)) (ha 225 (by decide)) (ha 227 (by decide))
/-- the input's cells are new -/
theorem LX.inp (h : LX cy ad Z J A nm mem) (e : ∀ i, i < 223 → i ≠ 3 → i ≠ 4 → mem' i = mem i) (h4 : J' 4 = J 4) (h7 : J' 7 = J 7) (a5 : A' 225 = A 225) (a7 : A' 227 = A 227) : LX cy ad Z J' A' nm mem' := h.of (fun f q => q.fr (fun i hi => e i (by omega) (by omega) (by omega))) (fun _ _ _ q => q.gi (fun _ _ _ _ z => z.frame (fun i _ _ => e i (by omega) (by omega) (by omega))) (fun i _ _ => e i (by omega) (by omega) (by omega))) h4 h7 a5 a7
/-- the text's cells are new -/
theorem LX.txt {Z' : Nat} {f' : Nat → Int32} (h : LX cy ad Z J A nm mem) (ht : TX cy ad Z' f' mem') (hf : ∀ k, k < Z' → f' k = A' 225 k) (hp : ∀ k, k < Z' → ¬ A' 225 k < 0) (e : ∀ i, i < 224 → i ≠ 1 → i ≠ 2 → mem' i = mem i) (h4 : J' 4 = J 4) (h7 : J' 7 = J 7) (a7 : A' 227 = A 227) : LX cy ad Z' J' A' nm mem' := by
  obtain ⟨-, -, R, E, g4, g7, hG⟩ := h
  exact ⟨⟨f', ht, hf⟩, hp, R, E, h4.trans g4, h7.trans g7, by rw [a7]; exact hG.gi (fun _ _ _ _ z => z.frame (fun i _ _ => e i (by omega) (by omega) (by omega))) (fun i _ _ => e i (by omega) (by omega) (by omega))⟩
end LXL
theorem okT_cN {c : Int32} (h : okT c = true) : cN c = c ∧ ¬ c < 0 := by
  have h2 : c = 10 ∨ (¬ c < 32 ∧ c ≤ 126) := by
    unfold okT at h
    simp only [Bool.or_eq_true, Bool.and_eq_true, decide_eq_true_eq] at h
    exact h
  have h3 : ¬ c < 0 := by
    rcases h2 with rfl | ⟨q1, _⟩
    · decide
    · intro z
      exact q1 (Int32.lt_of_lt_of_le z (by decide))
  refine ⟨?_, h3⟩
  obtain ⟨j, hj, rfl⟩ := nI_of h3
  have hj2 : j ≤ 126 := by
    rcases h2 with q | ⟨_, q⟩
    · have := (nI_eq (b := 10) hj (by omega)).mp q; omega
    · exact (nI_leI (b := 126) hj (by omega)).mp q
  clear h h2 h3 hj
  revert hj2
  revert j
  decide
theorem allB_at {P : Nat → Bool} {N i : Nat} (h : allB P N = true) (hi : i < N) : P i = true := by
  cases q : P i with
  | true => rfl
  | false => rw [allB_no hi q] at h; cases h
theorem updL0 {ou : Nat → Int64} {v : Int64} : vp_updL ou 0 v 0 = v := by unfold vp_updL; rw [if_pos rfl]
set_option maxHeartbeats 4000000 in
set_option maxRecDepth 100000 in
theorem m_Lw_count (l : Launch) {D : va_G} {cy : Nat → ClassId} {sz n : Nat} {ad : Nat → Nat} {mem : Nat → va_E} {ou : Nat → Int64} {R Ec : Nat} {to : Nat → Int32} {nm : Nat → Int64} {x : Int32} (hlt : l.stackTraces = false) (hn : 243 ≤ n) (ho : mem 242 = .inl (cy 2, 1, .inr (.inl ou))) (h0 : mem 0 = abC ad) (hX : GX cy ad R Ec to nm mem) : ML l D cy sz n ad y_Lw_count c_Lw_count 4 (some .int) [(0, 9, 12, 34)] ({ frames := 66, cells := 1, slots := 6, locals := 1700 } : Room) mem [.ref (ad 0), .int (x), .ref (ad 242)] (fun r mem' => (r = 0 ∧ ∃ (v : Int32) (ou' : Nat → Int64), ((x = 0 ∧ v = nI R) ∨ (x = 1 ∧ v = nI Ec) ∨ (x = 2 ∧ v = tlN to R)) ∧ ou' 0 = v.toInt64 ∧ mem' = va_up mem 242 (.inl (cy 2, 1, .inr (.inl ou')))) ∨ (r = 1 ∧ (¬ x = 0 ∧ ¬ x = 1 ∧ ¬ x = 2) ∧ mem' = mem)) := by
  refine va_MetW (cc := c_Lw_count) (maxL := 4) (ret := (some .int)) (hh := [(0, 9, 12, 34)]) (by decide) rfl ?_
  intro p e s m args below meth c s₁ B hml hv
  obtain ⟨rfl, E, hP, hD⟩ := hv
  have hx := B.exec
  have hb := B.bytes
  have hr := B.returns
  have hlocks := B.notSynchronized
  have Bx : MB p s m [.ref (ad 0), .int (x), .ref (ad 242)].toArray c c_Lw_count "AbnfChartLaw" D cy := ⟨hx, hb, tb_all (atoms_spec B.pre) E.2.1, findClass_of_methodNamed B.named, E.1⟩
  have hT : c.exceptionTable.toList = tableOf [(0, 9, 12, 34)] := vx_table (x := y_Lw_count) B (atoms_spec B.pre _ List.mem_cons_self)
  have hS : va_S (Az sz) s.heap s.heap [] := va_S.rf
  have hl := lv_entry ([.ref (ad 0), .int (x), .ref (ad 242)]) (n := 4) (Nat.le_of_ble_eq_true rfl)
  rw [lg_entry_eq]
  generalize (lg_sl ([.ref (ad 0), .int (x), .ref (ad 242)]) ++ List.replicate (4 - (lg_sl ([.ref (ad 0), .int (x), .ref (ad 242)])).length) Slot.unset).toArray = ls at hl ⊢
  have hl : lv_has ls 4 [(0, .ref (ad 0)), (1, .int (x)), (2, .ref (ad 242))] := hl
  refine lv_aload_n Bx.1 Bx.2.1 d_Lw_count_0 rfl (lv_at hl 2 rfl) ?_
  refine lv_iconst (v := 0) Bx.1 Bx.2.1 d_Lw_count_1 (by decide) ?_
  refine lv_aload_n Bx.1 Bx.2.1 d_Lw_count_2 rfl (lv_at hl 0 rfl) ?_
  refine lv_iload_n Bx.1 Bx.2.1 d_Lw_count_3 rfl (lv_at hl 1 rfl) ?_
  refine f_xVi (na := 1) (As := [.int (x)]) (rest := [.int (0), .ref (ad 242)]) Bx hml E hP hD hS (by omega) h0 rfl (m_Ab_countX l hlt h0 (by omega) hX) kw_636 kw_637 kw_638 kw_1 kw_639 (by decide +kernel) ⟨rfl, rfl⟩ ⟨Nat.le_of_ble_eq_true rfl, Nat.le_of_ble_eq_true rfl⟩ rfl hl.1 (Nat.le_of_ble_eq_true rfl) d_Lw_count_4 ⟨Nat.le_of_ble_eq_true rfl, Nat.le_of_ble_eq_true rfl⟩ (fun X ce q9 memx H locs hx1 hP hS g1 g2 g3 => ?_) (fun r9 mem9 H locs hq hP hS => ?_)
  · obtain ⟨hX9, hm9, hfn⟩ := hx1
    subst hX9
    refine f_catch1 Bx hT ⟨by decide, by decide⟩ (by decide) kw_543 kw_554 g1 g2 g3 ?_
    refine lv_astore_n (lv' := [(3, .ref (q9)), (0, .ref (ad 0)), (1, .int (x)), (2, .ref (ad 242))]) Bx.1 Bx.2.1 d_Lw_count_12 rfl hl (by decide) rfl (fun ls hl => ?_)
    refine lv_iconst (v := 1) Bx.1 Bx.2.1 d_Lw_count_13 (by decide) ?_
    exact W.iret (v := 1) hx hb hr (fun t ht hW => ⟨⟨1, memx, rfl, Or.inr ⟨rfl, hfn, hm9⟩, by show va_P _ _ _ t.heap; rw [ht]; exact hP⟩, hS.F ht⟩) hS.2.2 d_Lw_count_14
  · have hD : va_D (Az sz) (fw n ad mem9) := fw_D hD
    refine W.widen (k := 1) (n := 6) (by decide) (by decide) ?_
    obtain ⟨hm9, hcv⟩ := hq
    have ho9 : mem9 242 = .inl (cy 2, 1, .inr (.inl ou)) := by rw [hm9]; exact ho
    refine lv_i2l Bx.1 Bx.2.1 d_Lw_count_7 rfl ?_
    refine f_last (x := (r9).toInt64) (i := 0) Bx hP hD hS (by omega) ho9 (vp_in_nI (n := 0) (by decide) (by decide)) d_Lw_count_8 (fun H locs hP hS => ?_)
    refine lv_goto Bx.1 Bx.2.1 d_Lw_count_9 rfl ?_
    refine lv_iconst (v := 0) Bx.1 Bx.2.1 d_Lw_count_15 (by decide) ?_
    exact W.iret (v := 0) hx hb hr (fun t ht hW => ⟨⟨0, (va_up mem9 242 (.inl (cy 2, 1, .inr (.inl (vp_updL ou (0 : Int32).toNatClampNeg ((r9).toInt64)))))), rfl, Or.inl ⟨rfl, r9, _, hcv, updL0, by rw [hm9]; rfl⟩, by show va_P _ _ _ t.heap; rw [ht]; exact hP⟩, hS.F ht⟩) hS.2.2 d_Lw_count_16
set_option maxHeartbeats 4000000 in
set_option maxRecDepth 100000 in
theorem m_Lw_matches (l : Launch) {D : va_G} {cy : Nat → ClassId} {sz n : Nat} {ad : Nat → Nat} {mem : Nat → va_E} {ou : Nat → Int64} {R Eb I : Nat} {Bw : Ro} {inp : Nat → Int32} {i1 i2 i3 : Int32} (hlt : l.stackTraces = false) (hn : 243 ≤ n) (ho : mem 242 = .inl (cy 2, 1, .inr (.inl ou))) (h0 : mem 0 = abC ad) (hY : IY cy ad I inp mem) (hQ : QY cy ad R Eb I Bw inp mem) : ML l D cy sz n ad y_Lw_matches c_Lw_matches 6 (some .int) [(0, 19, 22, 25), (0, 19, 26, 34)] ({ frames := 66, cells := 1, slots := 6, locals := 1700 } : Room) mem [.ref (ad 0), .int (i1), .int (i2), .int (i3), .ref (ad 242)] (fun r mem' => (r = 0 ∧ ∃ (r0 i0 j0 : Nat) (ou' : Nat → Int64), CY cy ad R Eb I Bw inp mem' ∧ (∀ i, i ≠ 223 → i ≠ 242 → i < 20 ∨ 222 ≤ i → mem' i = mem i) ∧ mem' 242 = .inl (cy 2, 1, .inr (.inl ou')) ∧ (r0 < R ∧ i0 ≤ j0 ∧ j0 ≤ I ∧ i1 = nI r0 ∧ i2 = nI i0 ∧ i3 = nI j0) ∧ ou' 0 = (if (VV Bw inp I Eb r0 i0 >>> (nI j0 &&& 31)) &&& 1 = 1 then 1 else 0)) ∨ (r = 1 ∧ mem' = mem ∧ ¬ RK R (i1)) ∨ (r = 2 ∧ mem' = mem ∧ RK R (i1) ∧ ¬ PK I (i2) (i3))) := by
  refine va_MetW (cc := c_Lw_matches) (maxL := 6) (ret := (some .int)) (hh := [(0, 19, 22, 25), (0, 19, 26, 34)]) (by decide) rfl ?_
  intro p e s m args below meth c s₁ B hml hv
  obtain ⟨rfl, E, hP, hD⟩ := hv
  have hx := B.exec
  have hb := B.bytes
  have hr := B.returns
  have hlocks := B.notSynchronized
  have Bx : MB p s m [.ref (ad 0), .int (i1), .int (i2), .int (i3), .ref (ad 242)].toArray c c_Lw_matches "AbnfChartLaw" D cy := ⟨hx, hb, tb_all (atoms_spec B.pre) E.2.1, findClass_of_methodNamed B.named, E.1⟩
  have hT : c.exceptionTable.toList = tableOf [(0, 19, 22, 25), (0, 19, 26, 34)] := vx_table (x := y_Lw_matches) B (atoms_spec B.pre _ List.mem_cons_self)
  have hS : va_S (Az sz) s.heap s.heap [] := va_S.rf
  have hl := lv_entry ([.ref (ad 0), .int (i1), .int (i2), .int (i3), .ref (ad 242)]) (n := 6) (Nat.le_of_ble_eq_true rfl)
  rw [lg_entry_eq]
  generalize (lg_sl ([.ref (ad 0), .int (i1), .int (i2), .int (i3), .ref (ad 242)]) ++ List.replicate (6 - (lg_sl ([.ref (ad 0), .int (i1), .int (i2), .int (i3), .ref (ad 242)])).length) Slot.unset).toArray = ls at hl ⊢
  have hl : lv_has ls 6 [(0, .ref (ad 0)), (1, .int (i1)), (2, .int (i2)), (3, .int (i3)), (4, .ref (ad 242))] := hl
  refine lv_aload Bx.1 Bx.2.1 d_Lw_matches_0 (lv_at hl 4 rfl) ?_
  refine lv_iconst (v := 0) Bx.1 Bx.2.1 d_Lw_matches_2 (by decide) ?_
  refine lv_aload_n Bx.1 Bx.2.1 d_Lw_matches_3 rfl (lv_at hl 0 rfl) ?_
  refine lv_iload_n Bx.1 Bx.2.1 d_Lw_matches_4 rfl (lv_at hl 1 rfl) ?_
  refine lv_iload_n Bx.1 Bx.2.1 d_Lw_matches_5 rfl (lv_at hl 2 rfl) ?_
  refine lv_iload_n Bx.1 Bx.2.1 d_Lw_matches_6 rfl (lv_at hl 3 rfl) ?_
  refine f_xVi (na := 3) (As := [.int (i1), .int (i2), .int (i3)]) (rest := [.int (0), .ref (ad 242)]) Bx hml E hP hD hS (by omega) h0 rfl (m_Ab_matchesY l hlt (by omega) h0 hY hQ) kw_544 kw_545 kw_546 kw_1 kw_547 (by decide +kernel) ⟨rfl, rfl⟩ ⟨Nat.le_of_ble_eq_true rfl, Nat.le_of_ble_eq_true rfl⟩ rfl hl.1 (Nat.le_of_ble_eq_true rfl) d_Lw_matches_7 ⟨Nat.le_of_ble_eq_true rfl, Nat.le_of_ble_eq_true rfl⟩ (fun X ce q9 memx H locs hx1 hP hS g1 g2 g3 => ?_) (fun r9 mem9 H locs hq hP hS => ?_)
  · obtain ⟨hm9, hX⟩ := hx1
    rcases hX with ⟨hX, hk9⟩ | ⟨hX, hk9, hp9⟩
    · subst hX
      refine f_catch1 Bx hT ⟨by decide, by decide⟩ (by decide) kw_505 kw_517 g1 g2 g3 ?_
      refine lv_astore (lv' := [(5, .ref (q9)), (0, .ref (ad 0)), (1, .int (i1)), (2, .int (i2)), (3, .int (i3)), (4, .ref (ad 242))]) Bx.1 Bx.2.1 d_Lw_matches_22 hl (by decide) rfl (fun ls hl => ?_)
      refine lv_iconst (v := 1) Bx.1 Bx.2.1 d_Lw_matches_24 (by decide) ?_
      exact W.iret (v := 1) hx hb hr (fun t ht hW => ⟨⟨1, memx, rfl, Or.inr (Or.inl ⟨rfl, hm9, hk9⟩), by show va_P _ _ _ t.heap; rw [ht]; exact hP⟩, hS.F ht⟩) hS.2.2 d_Lw_matches_25
    · subst hX
      refine f_catch2 Bx hT ⟨by decide, by decide⟩ (by decide) kw_543 kw_554 (by decide) kw_505 E.2.2.2.2.2.2 g1 g2 g3 ?_
      refine lv_astore (lv' := [(5, .ref (q9)), (0, .ref (ad 0)), (1, .int (i1)), (2, .int (i2)), (3, .int (i3)), (4, .ref (ad 242))]) Bx.1 Bx.2.1 d_Lw_matches_26 hl (by decide) rfl (fun ls hl => ?_)
      refine lv_iconst (v := 2) Bx.1 Bx.2.1 d_Lw_matches_28 (by decide) ?_
      exact W.iret (v := 2) hx hb hr (fun t ht hW => ⟨⟨2, memx, rfl, Or.inr (Or.inr ⟨rfl, hm9, hk9, hp9⟩), by show va_P _ _ _ t.heap; rw [ht]; exact hP⟩, hS.F ht⟩) hS.2.2 d_Lw_matches_29
  · have hD : va_D (Az sz) (fw n ad mem9) := fw_D hD
    refine W.widen (k := 1) (n := 6) (by decide) (by decide) ?_
    obtain ⟨hC9, hf9, hq⟩ := hq
    have ho9 : mem9 242 = .inl (cy 2, 1, .inr (.inl ou)) := (hf9 242 (by omega) (by omega)).trans ho
    obtain ⟨r0, i0, j0, a1, a2, a3, a4, a5, a6, hr9⟩ := hq
    by_cases hbt : (VV Bw inp I Eb r0 i0 >>> (nI j0 &&& 31)) &&& 1 = 1
    · rw [if_pos hbt] at hr9
      subst hr9
      refine lv_if_eq Bx.1 Bx.2.1 d_Lw_matches_10 rfl (fun h => ?_) (fun h => ?_)
      · exact absurd h (by decide)
      · refine lv_lconst (v := 1) Bx.1 Bx.2.1 d_Lw_matches_13 (by decide) ?_
        refine lv_goto Bx.1 Bx.2.1 d_Lw_matches_14 rfl ?_
        refine f_last (x := 1) (i := 0) Bx hP hD hS (by omega) ho9 (vp_in_nI (n := 0) (by decide) (by decide)) d_Lw_matches_18 (fun H locs hP hS => ?_)
        refine lv_goto Bx.1 Bx.2.1 d_Lw_matches_19 rfl ?_
        refine lv_iconst (v := 0) Bx.1 Bx.2.1 d_Lw_matches_30 (by decide) ?_
        exact W.iret (v := 0) hx hb hr (fun t ht hW => ⟨⟨0, (va_up mem9 242 (.inl (cy 2, 1, .inr (.inl (vp_updL ou (0 : Int32).toNatClampNeg (1)))))), rfl, Or.inl ⟨rfl, r0, i0, j0, _, hC9.fr (fun i _ _ => va_up_ne _ _ (by omega)), fun i q1 q2 q3 => (va_up_ne _ _ q2).trans (hf9 i q1 q3), by rw [va_up_self], ⟨a1, a2, a3, a4, a5, a6⟩, by rw [if_pos hbt]; exact updL0⟩, by show va_P _ _ _ t.heap; rw [ht]; exact hP⟩, hS.F ht⟩) hS.2.2 d_Lw_matches_31
    · rw [if_neg hbt] at hr9
      subst hr9
      refine lv_if_eq Bx.1 Bx.2.1 d_Lw_matches_10 rfl (fun h => ?_) (fun h => ?_)
      · refine lv_lconst (v := 0) Bx.1 Bx.2.1 d_Lw_matches_17 (by decide) ?_
        refine f_last (x := 0) (i := 0) Bx hP hD hS (by omega) ho9 (vp_in_nI (n := 0) (by decide) (by decide)) d_Lw_matches_18 (fun H locs hP hS => ?_)
        refine lv_goto Bx.1 Bx.2.1 d_Lw_matches_19 rfl ?_
        refine lv_iconst (v := 0) Bx.1 Bx.2.1 d_Lw_matches_30 (by decide) ?_
        exact W.iret (v := 0) hx hb hr (fun t ht hW => ⟨⟨0, (va_up mem9 242 (.inl (cy 2, 1, .inr (.inl (vp_updL ou (0 : Int32).toNatClampNeg (0)))))), rfl, Or.inl ⟨rfl, r0, i0, j0, _, hC9.fr (fun i _ _ => va_up_ne _ _ (by omega)), fun i q1 q2 q3 => (va_up_ne _ _ q2).trans (hf9 i q1 q3), by rw [va_up_self], ⟨a1, a2, a3, a4, a5, a6⟩, by rw [if_neg hbt]; exact updL0⟩, by show va_P _ _ _ t.heap; rw [ht]; exact hP⟩, hS.F ht⟩) hS.2.2 d_Lw_matches_31
      · exact absurd h (by decide)
set_option maxHeartbeats 4000000 in
set_option maxRecDepth 100000 in
theorem m_Lw_longest (l : Launch) {D : va_G} {cy : Nat → ClassId} {sz n : Nat} {ad : Nat → Nat} {mem : Nat → va_E} {ou : Nat → Int64} {R Eb I : Nat} {Bw : Ro} {inp : Nat → Int32} {i1 i2 : Int32} (hlt : l.stackTraces = false) (hn : 243 ≤ n) (ho : mem 242 = .inl (cy 2, 1, .inr (.inl ou))) (h0 : mem 0 = abC ad) (hY : IY cy ad I inp mem) (hQ : QY cy ad R Eb I Bw inp mem) : ML l D cy sz n ad y_Lw_longest c_Lw_longest 5 (some .int) [(0, 10, 13, 25), (0, 10, 17, 34)] ({ frames := 66, cells := 1, slots := 6, locals := 1700 } : Room) mem [.ref (ad 0), .int (i1), .int (i2), .ref (ad 242)] (fun r mem' => (r = 0 ∧ ∃ (r0 i0 : Nat) (ou' : Nat → Int64), CY cy ad R Eb I Bw inp mem' ∧ (∀ i, i ≠ 223 → i ≠ 242 → i < 20 ∨ 222 ≤ i → mem' i = mem i) ∧ mem' 242 = .inl (cy 2, 1, .inr (.inl ou')) ∧ (r0 < R ∧ i0 ≤ I ∧ i1 = nI r0 ∧ i2 = nI i0) ∧ ∃ v : Int32, MX (VV Bw inp I Eb r0 i0) i0 I v ∧ ou' 0 = v.toInt64) ∨ (r = 1 ∧ mem' = mem ∧ ¬ RK R (i1)) ∨ (r = 2 ∧ mem' = mem ∧ RK R (i1) ∧ ¬ PK I (i2) (i2))) := by
  refine va_MetW (cc := c_Lw_longest) (maxL := 5) (ret := (some .int)) (hh := [(0, 10, 13, 25), (0, 10, 17, 34)]) (by decide) rfl ?_
  intro p e s m args below meth c s₁ B hml hv
  obtain ⟨rfl, E, hP, hD⟩ := hv
  have hx := B.exec
  have hb := B.bytes
  have hr := B.returns
  have hlocks := B.notSynchronized
  have Bx : MB p s m [.ref (ad 0), .int (i1), .int (i2), .ref (ad 242)].toArray c c_Lw_longest "AbnfChartLaw" D cy := ⟨hx, hb, tb_all (atoms_spec B.pre) E.2.1, findClass_of_methodNamed B.named, E.1⟩
  have hT : c.exceptionTable.toList = tableOf [(0, 10, 13, 25), (0, 10, 17, 34)] := vx_table (x := y_Lw_longest) B (atoms_spec B.pre _ List.mem_cons_self)
  have hS : va_S (Az sz) s.heap s.heap [] := va_S.rf
  have hl := lv_entry ([.ref (ad 0), .int (i1), .int (i2), .ref (ad 242)]) (n := 5) (Nat.le_of_ble_eq_true rfl)
  rw [lg_entry_eq]
  generalize (lg_sl ([.ref (ad 0), .int (i1), .int (i2), .ref (ad 242)]) ++ List.replicate (5 - (lg_sl ([.ref (ad 0), .int (i1), .int (i2), .ref (ad 242)])).length) Slot.unset).toArray = ls at hl ⊢
  have hl : lv_has ls 5 [(0, .ref (ad 0)), (1, .int (i1)), (2, .int (i2)), (3, .ref (ad 242))] := hl
  refine lv_aload_n Bx.1 Bx.2.1 d_Lw_longest_0 rfl (lv_at hl 3 rfl) ?_
  refine lv_iconst (v := 0) Bx.1 Bx.2.1 d_Lw_longest_1 (by decide) ?_
  refine lv_aload_n Bx.1 Bx.2.1 d_Lw_longest_2 rfl (lv_at hl 0 rfl) ?_
  refine lv_iload_n Bx.1 Bx.2.1 d_Lw_longest_3 rfl (lv_at hl 1 rfl) ?_
  refine lv_iload_n Bx.1 Bx.2.1 d_Lw_longest_4 rfl (lv_at hl 2 rfl) ?_
  refine f_xVi (na := 2) (As := [.int (i1), .int (i2)]) (rest := [.int (0), .ref (ad 242)]) Bx hml E hP hD hS (by omega) h0 rfl (m_Ab_longestY l hlt (by omega) h0 hY hQ) kw_616 kw_617 kw_618 kw_1 kw_619 (by decide +kernel) ⟨rfl, rfl⟩ ⟨Nat.le_of_ble_eq_true rfl, Nat.le_of_ble_eq_true rfl⟩ rfl hl.1 (Nat.le_of_ble_eq_true rfl) d_Lw_longest_5 ⟨Nat.le_of_ble_eq_true rfl, Nat.le_of_ble_eq_true rfl⟩ (fun X ce q9 memx H locs hx1 hP hS g1 g2 g3 => ?_) (fun r9 mem9 H locs hq hP hS => ?_)
  · obtain ⟨hm9, hX⟩ := hx1
    rcases hX with ⟨hX, hk9⟩ | ⟨hX, hk9, hp9⟩
    · subst hX
      refine f_catch1 Bx hT ⟨by decide, by decide⟩ (by decide) kw_505 kw_517 g1 g2 g3 ?_
      refine lv_astore (lv' := [(4, .ref (q9)), (0, .ref (ad 0)), (1, .int (i1)), (2, .int (i2)), (3, .ref (ad 242))]) Bx.1 Bx.2.1 d_Lw_longest_13 hl (by decide) rfl (fun ls hl => ?_)
      refine lv_iconst (v := 1) Bx.1 Bx.2.1 d_Lw_longest_15 (by decide) ?_
      exact W.iret (v := 1) hx hb hr (fun t ht hW => ⟨⟨1, memx, rfl, Or.inr (Or.inl ⟨rfl, hm9, hk9⟩), by show va_P _ _ _ t.heap; rw [ht]; exact hP⟩, hS.F ht⟩) hS.2.2 d_Lw_longest_16
    · subst hX
      refine f_catch2 Bx hT ⟨by decide, by decide⟩ (by decide) kw_543 kw_554 (by decide) kw_505 E.2.2.2.2.2.2 g1 g2 g3 ?_
      refine lv_astore (lv' := [(4, .ref (q9)), (0, .ref (ad 0)), (1, .int (i1)), (2, .int (i2)), (3, .ref (ad 242))]) Bx.1 Bx.2.1 d_Lw_longest_17 hl (by decide) rfl (fun ls hl => ?_)
      refine lv_iconst (v := 2) Bx.1 Bx.2.1 d_Lw_longest_19 (by decide) ?_
      exact W.iret (v := 2) hx hb hr (fun t ht hW => ⟨⟨2, memx, rfl, Or.inr (Or.inr ⟨rfl, hm9, hk9, hp9⟩), by show va_P _ _ _ t.heap; rw [ht]; exact hP⟩, hS.F ht⟩) hS.2.2 d_Lw_longest_20
  · have hD : va_D (Az sz) (fw n ad mem9) := fw_D hD
    refine W.widen (k := 1) (n := 6) (by decide) (by decide) ?_
    obtain ⟨hC9, hf9, hq⟩ := hq
    have ho9 : mem9 242 = .inl (cy 2, 1, .inr (.inl ou)) := (hf9 242 (by omega) (by omega)).trans ho
    obtain ⟨r0, i0, a1, a2, a3, a4, hmx⟩ := hq
    refine lv_i2l Bx.1 Bx.2.1 d_Lw_longest_8 rfl ?_
    refine f_last (x := (r9).toInt64) (i := 0) Bx hP hD hS (by omega) ho9 (vp_in_nI (n := 0) (by decide) (by decide)) d_Lw_longest_9 (fun H locs hP hS => ?_)
    refine lv_goto Bx.1 Bx.2.1 d_Lw_longest_10 rfl ?_
    refine lv_iconst (v := 0) Bx.1 Bx.2.1 d_Lw_longest_21 (by decide) ?_
    exact W.iret (v := 0) hx hb hr (fun t ht hW => ⟨⟨0, (va_up mem9 242 (.inl (cy 2, 1, .inr (.inl (vp_updL ou (0 : Int32).toNatClampNeg ((r9).toInt64)))))), rfl, Or.inl ⟨rfl, r0, i0, _, hC9.fr (fun i _ _ => va_up_ne _ _ (by omega)), fun i q1 q2 q3 => (va_up_ne _ _ q2).trans (hf9 i q1 q3), by rw [va_up_self], ⟨a1, a2, a3, a4⟩, r9, hmx, by exact updL0⟩, by show va_P _ _ _ t.heap; rw [ht]; exact hP⟩, hS.F ht⟩) hS.2.2 d_Lw_longest_22
set_option maxHeartbeats 4000000 in
set_option maxRecDepth 100000 in
theorem m_Lw_pieces (l : Launch) {D : va_G} {cy : Nat → ClassId} {sz n : Nat} {ad : Nat → Nat} {mem : Nat → va_E} {ou : Nat → Int64} {R Eb I : Nat} {Bw : Ro} {inp : Nat → Int32} {i1 : Int32} (hlt : l.stackTraces = false) (hn : 243 ≤ n) (ho : mem 242 = .inl (cy 2, 1, .inr (.inl ou))) (h0 : mem 0 = abC ad) (hY : IY cy ad I inp mem) (hQ : QY cy ad R Eb I Bw inp mem) : ML l D cy sz n ad y_Lw_pieces c_Lw_pieces 4 (some .int) [(0, 9, 12, 25)] ({ frames := 66, cells := 1, slots := 6, locals := 1700 } : Room) mem [.ref (ad 0), .int (i1), .ref (ad 242)] (fun r mem' => (r = 0 ∧ ∃ (r0 : Nat) (ou' : Nat → Int64), CY cy ad R Eb I Bw inp mem' ∧ (∀ i, i ≠ 223 → i ≠ 242 → i < 20 ∨ 222 ≤ i → mem' i = mem i) ∧ mem' 242 = .inl (cy 2, 1, .inr (.inl ou')) ∧ (r0 < R ∧ i1 = nI r0) ∧ ∃ v : Int32, v = sumC (VV Bw inp I Eb r0) (I + 1) ∧ ou' 0 = v.toInt64) ∨ (r = 1 ∧ mem' = mem ∧ ¬ RK R (i1))) := by
  refine va_MetW (cc := c_Lw_pieces) (maxL := 4) (ret := (some .int)) (hh := [(0, 9, 12, 25)]) (by decide) rfl ?_
  intro p e s m args below meth c s₁ B hml hv
  obtain ⟨rfl, E, hP, hD⟩ := hv
  have hx := B.exec
  have hb := B.bytes
  have hr := B.returns
  have hlocks := B.notSynchronized
  have Bx : MB p s m [.ref (ad 0), .int (i1), .ref (ad 242)].toArray c c_Lw_pieces "AbnfChartLaw" D cy := ⟨hx, hb, tb_all (atoms_spec B.pre) E.2.1, findClass_of_methodNamed B.named, E.1⟩
  have hT : c.exceptionTable.toList = tableOf [(0, 9, 12, 25)] := vx_table (x := y_Lw_pieces) B (atoms_spec B.pre _ List.mem_cons_self)
  have hS : va_S (Az sz) s.heap s.heap [] := va_S.rf
  have hl := lv_entry ([.ref (ad 0), .int (i1), .ref (ad 242)]) (n := 4) (Nat.le_of_ble_eq_true rfl)
  rw [lg_entry_eq]
  generalize (lg_sl ([.ref (ad 0), .int (i1), .ref (ad 242)]) ++ List.replicate (4 - (lg_sl ([.ref (ad 0), .int (i1), .ref (ad 242)])).length) Slot.unset).toArray = ls at hl ⊢
  have hl : lv_has ls 4 [(0, .ref (ad 0)), (1, .int (i1)), (2, .ref (ad 242))] := hl
  refine lv_aload_n Bx.1 Bx.2.1 d_Lw_pieces_0 rfl (lv_at hl 2 rfl) ?_
  refine lv_iconst (v := 0) Bx.1 Bx.2.1 d_Lw_pieces_1 (by decide) ?_
  refine lv_aload_n Bx.1 Bx.2.1 d_Lw_pieces_2 rfl (lv_at hl 0 rfl) ?_
  refine lv_iload_n Bx.1 Bx.2.1 d_Lw_pieces_3 rfl (lv_at hl 1 rfl) ?_
  refine f_xVi (na := 1) (As := [.int (i1)]) (rest := [.int (0), .ref (ad 242)]) Bx hml E hP hD hS (by omega) h0 rfl (m_Ab_piecesYz l hlt (by omega) h0 hY hQ) kw_623 kw_624 kw_625 kw_1 kw_626 (by decide +kernel) ⟨rfl, rfl⟩ ⟨Nat.le_of_ble_eq_true rfl, Nat.le_of_ble_eq_true rfl⟩ rfl hl.1 (Nat.le_of_ble_eq_true rfl) d_Lw_pieces_4 ⟨Nat.le_of_ble_eq_true rfl, Nat.le_of_ble_eq_true rfl⟩ (fun X ce q9 memx H locs hx1 hP hS g1 g2 g3 => ?_) (fun r9 mem9 H locs hq hP hS => ?_)
  · obtain ⟨hm9, hX, hk9⟩ := hx1
    subst hX
    refine f_catch1 Bx hT ⟨by decide, by decide⟩ (by decide) kw_505 kw_517 g1 g2 g3 ?_
    refine lv_astore_n (lv' := [(3, .ref (q9)), (0, .ref (ad 0)), (1, .int (i1)), (2, .ref (ad 242))]) Bx.1 Bx.2.1 d_Lw_pieces_12 rfl hl (by decide) rfl (fun ls hl => ?_)
    refine lv_iconst (v := 1) Bx.1 Bx.2.1 d_Lw_pieces_13 (by decide) ?_
    exact W.iret (v := 1) hx hb hr (fun t ht hW => ⟨⟨1, memx, rfl, Or.inr ⟨rfl, hm9, hk9⟩, by show va_P _ _ _ t.heap; rw [ht]; exact hP⟩, hS.F ht⟩) hS.2.2 d_Lw_pieces_14
  · have hD : va_D (Az sz) (fw n ad mem9) := fw_D hD
    refine W.widen (k := 1) (n := 6) (by decide) (by decide) ?_
    obtain ⟨hC9, hf9, hq⟩ := hq
    have ho9 : mem9 242 = .inl (cy 2, 1, .inr (.inl ou)) := (hf9 242 (by omega) (by omega)).trans ho
    obtain ⟨r0, a1, a2, hsm⟩ := hq
    refine lv_i2l Bx.1 Bx.2.1 d_Lw_pieces_7 rfl ?_
    refine f_last (x := (r9).toInt64) (i := 0) Bx hP hD hS (by omega) ho9 (vp_in_nI (n := 0) (by decide) (by decide)) d_Lw_pieces_8 (fun H locs hP hS => ?_)
    refine lv_goto Bx.1 Bx.2.1 d_Lw_pieces_9 rfl ?_
    refine lv_iconst (v := 0) Bx.1 Bx.2.1 d_Lw_pieces_15 (by decide) ?_
    exact W.iret (v := 0) hx hb hr (fun t ht hW => ⟨⟨0, (va_up mem9 242 (.inl (cy 2, 1, .inr (.inl (vp_updL ou (0 : Int32).toNatClampNeg ((r9).toInt64)))))), rfl, Or.inl ⟨rfl, r0, _, hC9.fr (fun i _ _ => va_up_ne _ _ (by omega)), fun i q1 q2 q3 => (va_up_ne _ _ q2).trans (hf9 i q1 q3), by rw [va_up_self], ⟨a1, a2⟩, r9, hsm, by exact updL0⟩, by show va_P _ _ _ t.heap; rw [ht]; exact hP⟩, hS.F ht⟩) hS.2.2 d_Lw_pieces_16
set_option maxHeartbeats 4000000 in
set_option maxRecDepth 100000 in
theorem m_Lw_read (l : Launch) {D : va_G} {cy : Nat → ClassId} {sz n : Nat} {ad : Nat → Nat} {mem : Nat → va_E} {ou : Nat → Int64} {Z : Nat} {f T : Nat → Int32} {A : Ro} {nm : Nat → Int64} (hlt : l.stackTraces = false) (hn : 243 ≤ n) (ho : mem 242 = .inl (cy 2, 1, .inr (.inl ou))) (hK : KI cy ad Z mem) (hTf : TX cy ad Z f mem) (hf : ∀ k, k < Z → f k = T k) (hT0 : ∀ k, k < Z → ¬ T k < 0) : ML l D cy sz n ad y_Lw_read c_Lw_read 3 (some .int) [(0, 8, 11, 13), (0, 8, 14, 15)] ({ frames := 66, cells := 1, slots := 6, locals := 1700 } : Room) mem [.ref (ad 0), .ref (ad 242)] (fun r mem' => KI cy ad Z mem' ∧ LO cy mem' ∧ (∀ i, (224 ≤ i ∧ i ≠ 242) ∨ i < 5 → mem' i = mem i) ∧ mem' 223 = ctC ad 0 ∧ ((RdR T Z (lineF T Z 0) 0 0 0 A nm none ∧ ∃ lim rc ec, GI cy ad lim rc ec 0 mem') ∨ RY cy ad T Z A nm mem')) := by
  refine va_MetW (cc := c_Lw_read) (maxL := 3) (ret := (some .int)) (hh := [(0, 8, 11, 13), (0, 8, 14, 15)]) (by decide) rfl ?_
  intro p e s m args below meth c s₁ B hml hv
  obtain ⟨rfl, E, hP, hD⟩ := hv
  have hx := B.exec
  have hb := B.bytes
  have hr := B.returns
  have hlocks := B.notSynchronized
  have Bx : MB p s m [.ref (ad 0), .ref (ad 242)].toArray c c_Lw_read "AbnfChartLaw" D cy := ⟨hx, hb, tb_all (atoms_spec B.pre) E.2.1, findClass_of_methodNamed B.named, E.1⟩
  have hT : c.exceptionTable.toList = tableOf [(0, 8, 11, 13), (0, 8, 14, 15)] := vx_table (x := y_Lw_read) B (atoms_spec B.pre _ List.mem_cons_self)
  have hS : va_S (Az sz) s.heap s.heap [] := va_S.rf
  have hl := lv_entry ([.ref (ad 0), .ref (ad 242)]) (n := 3) (Nat.le_of_ble_eq_true rfl)
  rw [lg_entry_eq]
  generalize (lg_sl ([.ref (ad 0), .ref (ad 242)]) ++ List.replicate (3 - (lg_sl ([.ref (ad 0), .ref (ad 242)])).length) Slot.unset).toArray = ls at hl ⊢
  have hl : lv_has ls 3 [(0, .ref (ad 0)), (1, .ref (ad 242))] := hl
  obtain ⟨h0, -, ⟨I, hIx⟩, ⟨lim, rc, ec, wh, hG⟩, ⟨at0, ft, h9⟩, fl, hc⟩ := id hK
  refine lv_aload_n Bx.1 Bx.2.1 d_Lw_read_0 rfl (lv_at hl 1 rfl) ?_
  refine lv_iconst (v := 0) Bx.1 Bx.2.1 d_Lw_read_1 (by decide) ?_
  refine lv_aload_n Bx.1 Bx.2.1 d_Lw_read_2 rfl (lv_at hl 0 rfl) ?_
  refine f_xVi (na := 0) (As := []) (rest := [.int (0), .ref (ad 242)]) Bx hml E hP hD hS (by omega) h0 rfl (m_Ab_readY l (A := A) (nm := nm) hlt (by omega) hTf hf hT0 hG h9 h0 hc) kw_324 kw_325 kw_326 kw_1 kw_327 (by decide +kernel) ⟨rfl, rfl⟩ ⟨Nat.le_of_ble_eq_true rfl, Nat.le_of_ble_eq_true rfl⟩ rfl hl.1 (Nat.le_of_ble_eq_true rfl) d_Lw_read_3 ⟨Nat.le_of_ble_eq_true rfl, Nat.le_of_ble_eq_true rfl⟩ (fun X ce q9 memx H locs hx1 hP hS g1 g2 g3 => ?_) (fun r9 mem9 H locs hq hP hS => ?_)
  · obtain ⟨hX, hrd, ⟨lim9, rc9, ec9, hG9⟩, ⟨a9, t9, h99⟩, hc9, hf9⟩ := hx1
    have hpost : KI cy ad Z memx ∧ LO cy memx ∧ (∀ i, (224 ≤ i ∧ i ≠ 242) ∨ i < 5 → memx i = mem i) ∧ memx 223 = ctC ad 0 ∧ ((RdR T Z (lineF T Z 0) 0 0 0 A nm none ∧ ∃ lim rc ec, GI cy ad lim rc ec 0 memx) ∨ RY cy ad T Z A nm memx) := ⟨hK.reader hG9 h99 hc9 (fun i hi => hf9 i (by omega)), ⟨ou, (hf9 242 (by omega)).trans ho⟩, fun i q1 => hf9 i (by omega), hc9, Or.inl ⟨hrd, _, _, _, hG9⟩⟩
    rcases hX with hX | hX
    · subst hX
      refine f_catch1 Bx hT ⟨by decide, by decide⟩ (by decide) kw_213 kw_231 g1 g2 g3 ?_
      refine lv_astore_n (lv' := [(2, .ref (q9)), (0, .ref (ad 0)), (1, .ref (ad 242))]) Bx.1 Bx.2.1 d_Lw_read_11 rfl hl (by decide) rfl (fun ls hl => ?_)
      refine lv_iconst (v := 1) Bx.1 Bx.2.1 d_Lw_read_12 (by decide) ?_
      exact W.iret (v := 1) hx hb hr (fun t ht hW => ⟨⟨1, memx, rfl, hpost, by show va_P _ _ _ t.heap; rw [ht]; exact hP⟩, hS.F ht⟩) hS.2.2 d_Lw_read_13
    · subst hX
      refine f_catch2 Bx hT ⟨by decide, by decide⟩ (by decide) kw_214 kw_299 (by decide) kw_213 E.2.2.2.2.2.1 g1 g2 g3 ?_
      refine lv_astore_n (lv' := [(2, .ref (q9)), (0, .ref (ad 0)), (1, .ref (ad 242))]) Bx.1 Bx.2.1 d_Lw_read_14 rfl hl (by decide) rfl (fun ls hl => ?_)
      refine lv_iconst (v := 2) Bx.1 Bx.2.1 d_Lw_read_15 (by decide) ?_
      exact W.iret (v := 2) hx hb hr (fun t ht hW => ⟨⟨2, memx, rfl, hpost, by show va_P _ _ _ t.heap; rw [ht]; exact hP⟩, hS.F ht⟩) hS.2.2 d_Lw_read_16
  · have hD : va_D (Az sz) (fw n ad mem9) := fw_D hD
    refine W.widen (k := 1) (n := 6) (by decide) (by decide) ?_
    obtain ⟨hRY, ⟨x2, t2, h92⟩, hc2, hf2⟩ := hq
    have hRY9 : RY cy ad T Z A nm mem9 := hRY
    obtain ⟨a2, u2, R2, E2, lim2, S2, A2, B2, fi2, la2, n2, hrd2, hG2, -⟩ := hRY
    have hk9 : KI cy ad Z mem9 := hK.reader hG2 h92 hc2 (fun i hi => hf2 i (by omega))
    have ho9 : mem9 242 = .inl (cy 2, 1, .inr (.inl ou)) := (hf2 242 (by omega)).trans ho
    refine lv_i2l Bx.1 Bx.2.1 d_Lw_read_6 rfl ?_
    refine f_last (x := (r9).toInt64) (i := 0) Bx hP hD hS (by omega) ho9 (vp_in_nI (n := 0) (by decide) (by decide)) d_Lw_read_7 (fun H locs hP hS => ?_)
    refine lv_goto Bx.1 Bx.2.1 d_Lw_read_8 rfl ?_
    refine lv_iconst (v := 0) Bx.1 Bx.2.1 d_Lw_read_17 (by decide) ?_
    exact W.iret (v := 0) hx hb hr (fun t ht hW => ⟨⟨0, (va_up mem9 242 (.inl (cy 2, 1, .inr (.inl (vp_updL ou (0 : Int32).toNatClampNeg ((r9).toInt64)))))), rfl, ⟨hk9.out, ⟨_, by rw [va_up_self]⟩, fun i h1 => by rw [va_up_ne _ _ (by omega)]; exact hf2 i (by omega), by rw [va_up_ne _ _ (by omega)]; exact hc2, Or.inr hRY9.out⟩, by show va_P _ _ _ t.heap; rw [ht]; exact hP⟩, hS.F ht⟩) hS.2.2 d_Lw_read_18
set_option maxHeartbeats 4000000 in
set_option maxRecDepth 100000 in
theorem m_Lw_rule (l : Launch) {D : va_G} {cy : Nat → ClassId} {sz n : Nat} {ad : Nat → Nat} {mem : Nat → va_E} {ou : Nat → Int64} {R Ec : Nat} {to : Nat → Int32} {nm : Nat → Int64} {x : Int64} (hlt : l.stackTraces = false) (hn : 243 ≤ n) (ho : mem 242 = .inl (cy 2, 1, .inr (.inl ou))) (h0 : mem 0 = abC ad) (hX : GX cy ad R Ec to nm mem) : ML l D cy sz n ad y_Lw_rule c_Lw_rule 5 (some .int) [(0, 9, 12, 25)] ({ frames := 66, cells := 1, slots := 6, locals := 1700 } : Room) mem [.ref (ad 0), .long (x), .ref (ad 242)] (fun r mem' => (r = 0 ∧ ∃ (i : Nat) (ou' : Nat → Int64), fdF nm x R = some i ∧ ou' 0 = (nI i).toInt64 ∧ mem' = va_up mem 242 (.inl (cy 2, 1, .inr (.inl ou')))) ∨ (r = 1 ∧ fdF nm x R = none ∧ mem' = mem)) := by
  refine va_MetW (cc := c_Lw_rule) (maxL := 5) (ret := (some .int)) (hh := [(0, 9, 12, 25)]) (by decide) rfl ?_
  intro p e s m args below meth c s₁ B hml hv
  obtain ⟨rfl, E, hP, hD⟩ := hv
  have hx := B.exec
  have hb := B.bytes
  have hr := B.returns
  have hlocks := B.notSynchronized
  have Bx : MB p s m [.ref (ad 0), .long (x), .ref (ad 242)].toArray c c_Lw_rule "AbnfChartLaw" D cy := ⟨hx, hb, tb_all (atoms_spec B.pre) E.2.1, findClass_of_methodNamed B.named, E.1⟩
  have hT : c.exceptionTable.toList = tableOf [(0, 9, 12, 25)] := vx_table (x := y_Lw_rule) B (atoms_spec B.pre _ List.mem_cons_self)
  have hS : va_S (Az sz) s.heap s.heap [] := va_S.rf
  have hl := lv_entry ([.ref (ad 0), .long (x), .ref (ad 242)]) (n := 5) (Nat.le_of_ble_eq_true rfl)
  rw [lg_entry_eq]
  generalize (lg_sl ([.ref (ad 0), .long (x), .ref (ad 242)]) ++ List.replicate (5 - (lg_sl ([.ref (ad 0), .long (x), .ref (ad 242)])).length) Slot.unset).toArray = ls at hl ⊢
  have hl : lv_has ls 5 [(0, .ref (ad 0)), (1, .long (x)), (3, .ref (ad 242))] := hl
  refine lv_aload_n Bx.1 Bx.2.1 d_Lw_rule_0 rfl (lv_at hl 2 rfl) ?_
  refine lv_iconst (v := 0) Bx.1 Bx.2.1 d_Lw_rule_1 (by decide) ?_
  refine lv_aload_n Bx.1 Bx.2.1 d_Lw_rule_2 rfl (lv_at hl 0 rfl) ?_
  refine lv_lload_n Bx.1 Bx.2.1 d_Lw_rule_3 rfl (lv_at hl 1 rfl) ?_
  refine f_xVi (na := 1) (As := [.long (x)]) (rest := [.int (0), .ref (ad 242)]) Bx hml E hP hD hS (by omega) h0 rfl (m_Ab_ruleX l hlt (by omega) h0 hX) kw_506 kw_507 kw_508 kw_1 kw_509 (by decide +kernel) ⟨rfl, rfl⟩ ⟨Nat.le_of_ble_eq_true rfl, Nat.le_of_ble_eq_true rfl⟩ rfl hl.1 (Nat.le_of_ble_eq_true rfl) d_Lw_rule_4 ⟨Nat.le_of_ble_eq_true rfl, Nat.le_of_ble_eq_true rfl⟩ (fun X ce q9 memx H locs hx1 hP hS g1 g2 g3 => ?_) (fun r9 mem9 H locs hq hP hS => ?_)
  · obtain ⟨hX9, hm9, hfn⟩ := hx1
    subst hX9
    refine f_catch1 Bx hT ⟨by decide, by decide⟩ (by decide) kw_505 kw_517 g1 g2 g3 ?_
    refine lv_astore (lv' := [(4, .ref (q9)), (0, .ref (ad 0)), (1, .long (x)), (3, .ref (ad 242))]) Bx.1 Bx.2.1 d_Lw_rule_12 hl (by decide) rfl (fun ls hl => ?_)
    refine lv_iconst (v := 1) Bx.1 Bx.2.1 d_Lw_rule_14 (by decide) ?_
    exact W.iret (v := 1) hx hb hr (fun t ht hW => ⟨⟨1, memx, rfl, Or.inr ⟨rfl, hfn, hm9⟩, by show va_P _ _ _ t.heap; rw [ht]; exact hP⟩, hS.F ht⟩) hS.2.2 d_Lw_rule_15
  · have hD : va_D (Az sz) (fw n ad mem9) := fw_D hD
    refine W.widen (k := 1) (n := 6) (by decide) (by decide) ?_
    obtain ⟨hm9, i, hfs, hr9⟩ := hq
    subst hr9
    have ho9 : mem9 242 = .inl (cy 2, 1, .inr (.inl ou)) := by rw [hm9]; exact ho
    refine lv_i2l Bx.1 Bx.2.1 d_Lw_rule_7 rfl ?_
    refine f_last (x := (nI i).toInt64) (i := 0) Bx hP hD hS (by omega) ho9 (vp_in_nI (n := 0) (by decide) (by decide)) d_Lw_rule_8 (fun H locs hP hS => ?_)
    refine lv_goto Bx.1 Bx.2.1 d_Lw_rule_9 rfl ?_
    refine lv_iconst (v := 0) Bx.1 Bx.2.1 d_Lw_rule_16 (by decide) ?_
    exact W.iret (v := 0) hx hb hr (fun t ht hW => ⟨⟨0, (va_up mem9 242 (.inl (cy 2, 1, .inr (.inl (vp_updL ou (0 : Int32).toNatClampNeg ((nI i).toInt64)))))), rfl, Or.inl ⟨rfl, i, _, hfs, updL0, by rw [hm9]; rfl⟩, by show va_P _ _ _ t.heap; rw [ht]; exact hP⟩, hS.F ht⟩) hS.2.2 d_Lw_rule_17
