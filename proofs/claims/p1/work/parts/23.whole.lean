/-! THE CLAIM OUT OF ONE WALK OF THE LAW'S BODY. Your part is whole_start (and what it stands on); all else here is the same for every law, but numbers. -/
def R_law : String := "AbnfChartLaw"
def lw_P (b : Addr) (xs : List Int32) (args : Array Value) (s : State) : Prop := args = #[.ref b] ∧ s.IntsAt b xs ∧ xs.length ≤ 4 ∧ (Jvm.Cond.and given_1 narrow_1).before args s = true
def lw_Q (_ : Array Value) (s : State) (o : Outcome) (t : State) : Prop := o = .returned (some (.int 1)) ∧ Framed s o t [] 600002 7302232
def lw_Z (below : List Frame) (a : Array Value) (s : State) : State → Prop := fun t => ∃ o, t.status = .running ∧ Ended t below o ∧ lw_Q a s o t
/-- the law's own end, with 1 on the stack, nothing written that was there before, its room as the claim has it -/
theorem lw_ret {p : Program} {l : Launch} {e : Env} {s : State} {m : MethodId} {below : List Frame} {meth : Method} {c : Code} {b : Nat} (hx : p.tables.exec = Jvm.exec) (hb : c.code = code) (hr : meth.sig.returnType = ret) (hlocks : meth.locks = false) {pc : Nat} {H : Heap} {ls : Array Slot} (hdg : decode code pc = .ok (.ireturn, 1)) : W p l e room_1 s m #[Value.ref b] below meth c H [] 600002 7302232 (lw_Z below #[Value.ref b] s) (F0 m pc ls [.int 1]) := by
  intro T hT X
  obtain ⟨fs, hret, hrun, hended, hW, hframe⟩ := X.leave (v := some (.int 1)) (hlocks := hlocks) (fun h => by rw [hr] at h; cases h)
  have hmeth' : T.vm.method? m = some meth := X.method'
  refine ⟨T.setFrames fs, ?_, .returned (some (.int 1)), hrun, hended, rfl, ⟨_, rfl⟩, hW, hframe⟩
  jvm_step X.here [X.here.top, hx, hb, hdg, hmeth', hr, ret, narrow_b1]
  (try refine ⟨rfl, ?_⟩); (try refine ⟨rfl, ?_⟩)
  first | (intro acts; rw [hret _ acts rfl rfl rfl]) | rw [hret _ _ rfl rfl rfl]
  exact Steps.refl _
/-- what holds at the law's entry: the machine, the code, the tables' words (any of lw_tbl by 'hts w (by decide +kernel)'), the script of L ints xs at the cell b, what the Statement gives of the start (any of its parts by flat_of_before) -/
def lw_At (p : Program) (s : State) (m : MethodId) (meth : Method) (c : Code) (b L : Nat) (xs : Nat → Int32) : Prop :=
  p.tables.exec = Jvm.exec ∧ c.code = code ∧ meth.sig.returnType = ret ∧ c.maxLocals = 7 ∧ s.vm.findClass R_law = some m.cls ∧ (∀ w ∈ lw_tbl, w.before #[Value.ref b] s = true) ∧ va_X b L xs s s.heap ∧ b < s.heap.size ∧ meth.locks = false ∧ (Jvm.Cond.and given_1 narrow_1).before #[Value.ref b] s = true
theorem sw_out {v : Int32} (h0 : ¬ v = 0) (h1 : ¬ v = 1) (h2 : ¬ v = 2) (h3 : ¬ v = 3) (h4 : ¬ v = 4) (h5 : ¬ v = 5) (h6 : ¬ v = 6) (h7 : ¬ v = 7) (h8 : ¬ v = 8) (h9 : ¬ v = 9) (h10 : ¬ v = 10) : v.toInt < 0 ∨ 10 < v.toInt := by
  by_cases h : v < 0
  · exact Or.inl (by have := Int32.lt_iff_toInt_lt.mp h; have e0 : (0 : Int32).toInt = 0 := by decide
                     omega)
  · obtain ⟨j, hj, rfl⟩ := nI_of h
    refine Or.inr ?_
    rw [nI_toInt hj]
    have g0 : j ≠ 0 := fun e => h0 (by rw [e]; rfl)
    have g1 : j ≠ 1 := fun e => h1 (by rw [e]; rfl)
    have g2 : j ≠ 2 := fun e => h2 (by rw [e]; rfl)
    have g3 : j ≠ 3 := fun e => h3 (by rw [e]; rfl)
    have g4 : j ≠ 4 := fun e => h4 (by rw [e]; rfl)
    have g5 : j ≠ 5 := fun e => h5 (by rw [e]; rfl)
    have g6 : j ≠ 6 := fun e => h6 (by rw [e]; rfl)
    have g7 : j ≠ 7 := fun e => h7 (by rw [e]; rfl)
    have g8 : j ≠ 8 := fun e => h8 (by rw [e]; rfl)
    have g9 : j ≠ 9 := fun e => h9 (by rw [e]; rfl)
    have g10 : j ≠ 10 := fun e => h10 (by rw [e]; rfl)
    omega
set_option maxHeartbeats 4000000 in
set_option maxRecDepth 100000 in
theorem whole_start {p : Program} {e : Env} {s : State} {m : MethodId} {below : List Frame} {meth : Method} {c : Code} (l : Launch) (hlt : l.stackTraces = false) {b L : Nat} {xs : Nat → Int32} (hL : L ≤ 4) (C0 : lw_At p s m meth c b L xs) : W p l e room_1 s m #[Value.ref b] below meth c s.heap [] 0 0 (lw_Z below #[Value.ref b] s) (entryFrame m ([Value.ref b] : List Value).toArray 7) := by
  obtain ⟨hx, hb, hr, hml, hown, hts, hX, hbl, hlocks, hgv⟩ := C0
  obtain ⟨D, cy, E⟩ := EV_start hts hgv
  have Bx : MB p s m #[Value.ref b] c c_Lw_law "AbnfChartLaw" D cy := ⟨hx, hb, fun w hw => hts w (List.mem_filter.mp hw).1, hown, E.1⟩
  obtain ⟨sz, hsz⟩ : ∃ z, z = s.heap.size := ⟨_, rfl⟩
  rw [← hsz] at E
  have hbA : ¬ Az sz b := by
    show ¬ sz ≤ b
    omega
  have hbz : sz ≤ sz := Nat.le_refl _
  obtain ⟨mem, e_mem⟩ : ∃ z : Nat → va_E, z = fun _ => .inr (0, []) := ⟨_, rfl⟩
  have hP : va_P D vcl (fw 0 (adB sz) mem) s.heap := fun k q h => absurd (fw_get h).1 (Nat.not_lt_zero _)
  have hS : va_S (Az sz) s.heap s.heap [] := va_S.rf
  have hz : s.heap.size = sz + 0 := by omega
  have hl := lv_entry ([Value.ref b]) (n := 7) (Nat.le_of_ble_eq_true rfl)
  rw [lg_entry_eq]
  generalize (lg_sl ([Value.ref b]) ++ List.replicate (7 - (lg_sl ([Value.ref b])).length) Slot.unset).toArray = ls at hl ⊢
  have hl : lv_has ls 7 [(0, .ref (b))] := hl
  refine f_new (ci := 6) (n := 0) Bx hP hS hz rfl inAb tyAb okAb kw_17 kw_18 kw_1 [.null, .null, .null, .null, .null] (by intro j hj; match j, hj with | 0, _ => rfl | 1, _ => rfl | 2, _ => rfl | 3, _ => rfl | 4, _ => rfl) (Nat.le_of_ble_eq_true rfl) (Nat.le_of_ble_eq_true rfl) d_Lw_law_0 (fun H hP hS hz => ?_)
  obtain ⟨mem1, e_mem1⟩ : ∃ z, z = va_up mem (0) (.inr (6, [.null, .null, .null, .null, .null])) := ⟨_, rfl⟩
  have hP : va_P D vcl (fw 1 (adB sz) mem1) H := by rw [e_mem1]; exact hP
  have h_mem1 : mem1 (0) = .inr (6, [.null, .null, .null, .null, .null]) := by rw [e_mem1, va_up_self]
  refine lv_dup Bx.1 Bx.2.1 d_Lw_law_3 rfl ?_
  refine c_size (n := 1) hP (by omega) (by omega) (fun hz => ?_)
  refine f_callI (na := 0) (n := 1) (j := 0) (As := []) (rest := [.ref ((adB sz) 0)]) Bx hml E hP hS hbz hz (m_Ab_init l hbz h_mem1) kw_19 kw_20 kw_1 kw_21 rfl (by decide +kernel) ⟨rfl, rfl⟩ ⟨Nat.le_of_ble_eq_true rfl, Nat.le_of_ble_eq_true rfl⟩ rfl hl.1 (Nat.le_of_ble_eq_true rfl) d_Lw_law_4 ⟨Nat.le_of_ble_eq_true rfl, Nat.le_of_ble_eq_true rfl⟩ (fun mem2 H locs hXI hP hS hz => ?_)
  refine lv_astore_n (lv' := [(1, .ref ((adB sz) 0)), (0, .ref (b))]) Bx.1 Bx.2.1 d_Lw_law_7 rfl hl (by decide) rfl (fun ls hl => ?_)
  refine c_size (n := 224) hP (by omega) (by omega) (fun hz => ?_)
  refine f_new (ci := 7) (n := 224) Bx hP hS hz rfl inMo tyMo okMo kw_650 kw_651 kw_8 [.int (0), .int (0), .null, .int (0), .int (0), .null, .null, .int (0), .null, .null, .null, .null, .null, .null, .int (0), .null, .int (0), .int (0), .int (0), .null, .null, .null, .null, .null, .int (0), .null, .int (0), .null, .int (0)] (by intro j hj; match j, hj with | 0, _ => rfl | 1, _ => rfl | 2, _ => rfl | 3, _ => rfl | 4, _ => rfl | 5, _ => rfl | 6, _ => rfl | 7, _ => rfl | 8, _ => rfl | 9, _ => rfl | 10, _ => rfl | 11, _ => rfl | 12, _ => rfl | 13, _ => rfl | 14, _ => rfl | 15, _ => rfl | 16, _ => rfl | 17, _ => rfl | 18, _ => rfl | 19, _ => rfl | 20, _ => rfl | 21, _ => rfl | 22, _ => rfl | 23, _ => rfl | 24, _ => rfl | 25, _ => rfl | 26, _ => rfl | 27, _ => rfl | 28, _ => rfl | j + 29, hj => exact absurd hj (by omega)) (Nat.le_of_ble_eq_true rfl) (Nat.le_of_ble_eq_true rfl) d_Lw_law_8 (fun H hP hS hz => ?_)
  obtain ⟨mem3, e_mem3⟩ : ∃ z, z = va_up mem2 (224) (.inr (7, [.int (0), .int (0), .null, .int (0), .int (0), .null, .null, .int (0), .null, .null, .null, .null, .null, .null, .int (0), .null, .int (0), .int (0), .int (0), .null, .null, .null, .null, .null, .int (0), .null, .int (0), .null, .int (0)])) := ⟨_, rfl⟩
  have hP : va_P D vcl (fw 225 (adB sz) mem3) H := by rw [e_mem3]; exact hP
  have h_mem3 : mem3 (224) = .inr (7, [.int (0), .int (0), .null, .int (0), .int (0), .null, .null, .int (0), .null, .null, .null, .null, .null, .null, .int (0), .null, .int (0), .int (0), .int (0), .null, .null, .null, .null, .null, .int (0), .null, .int (0), .null, .int (0)]) := by rw [e_mem3, va_up_self]
  refine lv_dup Bx.1 Bx.2.1 d_Lw_law_11 rfl ?_
  refine c_size (n := 225) hP (by omega) (by omega) (fun hz => ?_)
  refine f_callI (na := 0) (n := 225) (j := 224) (As := []) (rest := [.ref ((adB sz) 224)]) Bx hml E hP hS hbz hz (m_Mo_init l hbz h_mem3) kw_652 kw_653 kw_8 kw_654 rfl (by decide +kernel) ⟨rfl, rfl⟩ ⟨Nat.le_of_ble_eq_true rfl, Nat.le_of_ble_eq_true rfl⟩ rfl hl.1 (Nat.le_of_ble_eq_true rfl) d_Lw_law_12 ⟨Nat.le_of_ble_eq_true rfl, Nat.le_of_ble_eq_true rfl⟩ (fun mem4 H locs hYI hP hS hz => ?_)
  obtain ⟨hYI, hKp⟩ := hYI
  refine lv_astore_n (lv' := [(2, .ref ((adB sz) 224)), (1, .ref ((adB sz) 0)), (0, .ref (b))]) Bx.1 Bx.2.1 d_Lw_law_15 rfl hl (by decide) rfl (fun ls hl => ?_)
  refine lv_iconst (v := 1) Bx.1 Bx.2.1 d_Lw_law_16 (by decide) ?_
  refine c_size (n := 242) hP (by omega) (by omega) (fun hz => ?_)
  refine f_newa (atype := .long) (n := 242) (t0 := 2) (N' := 1) Bx hP hS hz kw_744 (Bx.2.2.2.2.2 2 _ rfl).2 (1, .inr (.inl (fun _ => 0))) (fun _ => rfl) (by decide) (by decide) (by decide) (Nat.le_of_ble_eq_true rfl) (Nat.le_of_ble_eq_true rfl) d_Lw_law_17 (fun H hP hS hz => ?_)
  obtain ⟨mem5, e_mem5⟩ : ∃ z, z = va_up mem4 (242) (.inl (cy 2, (1, .inr (.inl (fun _ => 0))))) := ⟨_, rfl⟩
  have hP : va_P D vcl (fw 243 (adB sz) mem5) H := by rw [e_mem5]; exact hP
  have h_mem5 : mem5 (242) = .inl (cy 2, (1, .inr (.inl (fun _ => 0)))) := by rw [e_mem5, va_up_self]
  obtain ⟨y0, y1, y2, y3, y4, y5, y6, y7, y8, y9, y10, y11, y12, y13⟩ := hXI
  obtain ⟨z0, z1, z2, z3, z4, z5, z6, z7, z8, z9, z10, z11, z12, z13, z14, z15, z16, z17⟩ := hYI
  have hI : LI cy (adB sz) mem5 := ⟨by rw [e_mem5, va_up_ne _ _ (by decide), hKp _ (by decide), e_mem3, va_up_ne _ _ (by decide)]; exact y0, by rw [e_mem5, va_up_ne _ _ (by decide), hKp _ (by decide), e_mem3, va_up_ne _ _ (by decide)]; exact y1, by rw [e_mem5, va_up_ne _ _ (by decide), hKp _ (by decide), e_mem3, va_up_ne _ _ (by decide)]; exact y2, by rw [e_mem5, va_up_ne _ _ (by decide), hKp _ (by decide), e_mem3, va_up_ne _ _ (by decide)]; exact y3, by rw [e_mem5, va_up_ne _ _ (by decide), hKp _ (by decide), e_mem3, va_up_ne _ _ (by decide)]; exact y4, by rw [e_mem5, va_up_ne _ _ (by decide), hKp _ (by decide), e_mem3, va_up_ne _ _ (by decide)]; exact y5, by rw [e_mem5, va_up_ne _ _ (by decide), hKp _ (by decide), e_mem3, va_up_ne _ _ (by decide)]; exact y10, by rw [e_mem5, va_up_ne _ _ (by decide), hKp _ (by decide), e_mem3, va_up_ne _ _ (by decide)]; exact y12, by rw [e_mem5, va_up_ne _ _ (by decide), hKp _ (by decide), e_mem3, va_up_ne _ _ (by decide)]; exact y13, by rw [e_mem5, va_up_ne _ _ (by decide)]; exact z0, by rw [e_mem5, va_up_ne _ _ (by decide)]; exact z1, by rw [e_mem5, va_up_ne _ _ (by decide)]; exact z16, h_mem5⟩
  refine W.widen (k := 243) (n := 7734) (Nat.le_of_ble_eq_true rfl) (Nat.le_of_ble_eq_true rfl) ?_
  refine lv_astore_n (lv' := [(3, .ref ((adB sz) 242)), (2, .ref ((adB sz) 224)), (1, .ref ((adB sz) 0)), (0, .ref (b))]) Bx.1 Bx.2.1 d_Lw_law_19 rfl hl (by decide) rfl (fun ls hl => ?_)
  refine lv_iconst (v := 0) Bx.1 Bx.2.1 d_Lw_law_20 (by decide) ?_
  refine lv_istore (lv' := [(4, .int (0)), (3, .ref ((adB sz) 242)), (2, .ref ((adB sz) 224)), (1, .ref ((adB sz) 0)), (0, .ref (b))]) Bx.1 Bx.2.1 d_Lw_law_21 hl (by decide) rfl (fun ls hl => ?_)
  refine lv_iload Bx.1 Bx.2.1 d_Lw_law_23 (lv_at hl 0 rfl) ?_
  refine lv_aload_n Bx.1 Bx.2.1 d_Lw_law_25 rfl (lv_at hl 4 rfl) ?_
  refine va_slen Bx.1 Bx.2.1 hX hbl hbA hS d_Lw_law_26 ?_
  refine lv_iconst (v := 4) Bx.1 Bx.2.1 d_Lw_law_27 (by decide) ?_
  refine lv_isub Bx.1 Bx.2.1 d_Lw_law_28 ?_
  refine lv_icmp_gt Bx.1 Bx.2.1 d_Lw_law_29 rfl (fun h => ?_) (fun h => ?_)
  · refine lv_iconst (v := 1) Bx.1 Bx.2.1 d_Lw_law_740 (by decide) ?_
    refine va_forget (fun q hq => by have := hS.2.2 q hq; rw [← hsz]; exact this) ?_
    refine W.widen (k := 600002) (n := 7302232) (Nat.le_of_ble_eq_true rfl) (Nat.le_of_ble_eq_true rfl) ?_
    exact lw_ret hx hb hr hlocks d_Lw_law_741
  · have hL4 : L = 4 := by
      have : L = 0 ∨ L = 1 ∨ L = 2 ∨ L = 3 ∨ L = 4 := by omega
      rcases this with rfl | rfl | rfl | rfl | rfl
      · exact absurd (by decide) h
      · exact absurd (by decide) h
      · exact absurd (by decide) h
      · exact absurd (by decide) h
      · rfl
    subst hL4
    have K : ∀ (ls : Array Slot) (H : Heap) (locs : List Loc), va_S (Az sz) s.heap H locs → lv_has ls 7 [(4, .int 0), (0, .ref b)] → W p l e room_1 s m #[Value.ref b] below meth c H locs 600002 7302232 (lw_Z below #[Value.ref b] s) (F0 m 734 ls []) := by
      intro ls H locs hS hl
      refine lv_iinc (lv' := [(4, .int ((0 + (4)))), (0, .ref (b))]) Bx.1 Bx.2.1 d_Lw_law_734 hl (k := 0) rfl rfl (by decide) rfl (fun ls hl => ?_)
      refine lv_goto Bx.1 Bx.2.1 d_Lw_law_737 rfl ?_
      refine lv_iload Bx.1 Bx.2.1 d_Lw_law_23 (lv_at hl 0 rfl) ?_
      refine lv_aload_n Bx.1 Bx.2.1 d_Lw_law_25 rfl (lv_at hl 1 rfl) ?_
      refine va_slen Bx.1 Bx.2.1 hX hbl hbA hS d_Lw_law_26 ?_
      refine lv_iconst (v := 4) Bx.1 Bx.2.1 d_Lw_law_27 (by decide) ?_
      refine lv_isub Bx.1 Bx.2.1 d_Lw_law_28 ?_
      refine lv_icmp_gt Bx.1 Bx.2.1 d_Lw_law_29 rfl (fun h => ?_) (fun h => ?_)
      · refine lv_iconst (v := 1) Bx.1 Bx.2.1 d_Lw_law_740 (by decide) ?_
        refine va_forget (fun q hq => by have := hS.2.2 q hq; rw [← hsz]; exact this) ?_
        refine W.widen (k := 600002) (n := 7302232) (Nat.le_of_ble_eq_true rfl) (Nat.le_of_ble_eq_true rfl) ?_
        exact lw_ret hx hb hr hlocks d_Lw_law_741
      · exact absurd (by decide) h
    refine lv_aload_n Bx.1 Bx.2.1 d_Lw_law_32 rfl (lv_at hl 4 rfl) ?_
    refine lv_iload Bx.1 Bx.2.1 d_Lw_law_33 (lv_at hl 0 rfl) ?_
    refine f_sld Bx.1 Bx.2.1 hX hbl hbA hS 0 (by decide) (by decide) (by decide) d_Lw_law_35 ?_
    refine lv_bipush (v := 15) Bx.1 Bx.2.1 d_Lw_law_36 (by decide) ?_
    refine lv_iand Bx.1 Bx.2.1 d_Lw_law_38 ?_
    refine lv_topi (fun v6 e_v6 => ?_)
    by_cases h0 : v6 = 0
    · rw [h0]
      refine lv_tableIn (off := 57) (tgt := 96) Bx.1 Bx.2.1 d_Lw_law_39 (by decide) (by decide) (by decide) rfl ?_
      exact k_write l hlt Bx hml E (by decide) hX hbl hbA hI hP (adB_D hbz) hS hl K
    by_cases h1 : v6 = 1
    · rw [h1]
      refine lv_tableIn (off := 157) (tgt := 196) Bx.1 Bx.2.1 d_Lw_law_39 (by decide) (by decide) (by decide) rfl ?_
      exact k_erase l hlt Bx hml E (by decide) hX hbl hbA hI hP (adB_D hbz) hS hl K
    by_cases h2 : v6 = 2
    · rw [h2]
      refine lv_tableIn (off := 170) (tgt := 209) Bx.1 Bx.2.1 d_Lw_law_39 (by decide) (by decide) (by decide) rfl ?_
      exact k_read l hlt Bx hml E (by decide) hX hbl hbA hI hP (adB_D hbz) hS hl K
    by_cases h3 : v6 = 3
    · rw [h3]
      refine lv_tableIn (off := 214) (tgt := 253) Bx.1 Bx.2.1 d_Lw_law_39 (by decide) (by decide) (by decide) rfl ?_
      exact k_place l hlt Bx hml E (by decide) hX hbl hbA hI hP (adB_D hbz) hS hl K
    by_cases h4 : v6 = 4
    · rw [h4]
      refine lv_tableIn (off := 227) (tgt := 266) Bx.1 Bx.2.1 d_Lw_law_39 (by decide) (by decide) (by decide) rfl ?_
      exact k_rule l hlt Bx hml E (by decide) hX hbl hbA hI hP (adB_D hbz) hS hl K
    by_cases h5 : v6 = 5
    · rw [h5]
      refine lv_tableIn (off := 315) (tgt := 354) Bx.1 Bx.2.1 d_Lw_law_39 (by decide) (by decide) (by decide) rfl ?_
      exact k_give l hlt Bx hml E (by decide) hX hbl hbA hI hP (adB_D hbz) hS hl K
    by_cases h6 : v6 = 6
    · rw [h6]
      refine lv_tableIn (off := 415) (tgt := 454) Bx.1 Bx.2.1 d_Lw_law_39 (by decide) (by decide) (by decide) rfl ?_
      exact k_drop l hlt Bx hml E (by decide) hX hbl hbA hI hP (adB_D hbz) hS hl K
    by_cases h7 : v6 = 7
    · rw [h7]
      refine lv_tableIn (off := 428) (tgt := 467) Bx.1 Bx.2.1 d_Lw_law_39 (by decide) (by decide) (by decide) rfl ?_
      exact k_matches l hlt Bx hml E (by decide) hX hbl hbA hI hP (adB_D hbz) hS hl K
    by_cases h8 : v6 = 8
    · rw [h8]
      refine lv_tableIn (off := 515) (tgt := 554) Bx.1 Bx.2.1 d_Lw_law_39 (by decide) (by decide) (by decide) rfl ?_
      exact k_longest l hlt Bx hml E (by decide) hX hbl hbA hI hP (adB_D hbz) hS hl K
    by_cases h9 : v6 = 9
    · rw [h9]
      refine lv_tableIn (off := 583) (tgt := 622) Bx.1 Bx.2.1 d_Lw_law_39 (by decide) (by decide) (by decide) rfl ?_
      exact k_pieces l hlt Bx hml E (by decide) hX hbl hbA hI hP (adB_D hbz) hS hl K
    by_cases h10 : v6 = 10
    · rw [h10]
      refine lv_tableIn (off := 639) (tgt := 678) Bx.1 Bx.2.1 d_Lw_law_39 (by decide) (by decide) (by decide) rfl ?_
      exact k_count l hlt Bx hml E (by decide) hX hbl hbA hI hP (adB_D hbz) hS hl K
    refine lv_tableOut (tgt := 734) Bx.1 Bx.2.1 d_Lw_law_39 (sw_out h0 h1 h2 h3 h4 h5 h6 h7 h8 h9 h10) rfl ?_
    exact W.widen (Nat.le_of_ble_eq_true rfl) (Nat.le_of_ble_eq_true rfl) (K _ _ _ hS (lv_sub hl [0, 4] rfl))
set_option maxHeartbeats 4000000 in
theorem lw_walk (l : Launch) (hlt : l.stackTraces = false) (b : Addr) (xs : List Int32) : MetFree l x (headSpec (Jvm.Cond.code x code maxLocals ret :: tables_1) room_1) (lw_P b xs) (fun _ _ _ _ _ => True) lw_Q := by
  refine MetFree.of_bodyS (code := code) (maxLocals := maxLocals) (ret := ret) (by decide) ?_ ?_
  · intro args s m h hn
    obtain ⟨meth, c, h1, h2, h3, h4, h5, h6, -, -⟩ := Cond.code_spec hn (atoms_spec (ws := Jvm.Cond.code x code maxLocals ret :: tables_1) h _ List.mem_cons_self)
    exact ⟨meth, c, h1, h2, h3, h4, h5, h6⟩
  · intro p e s m args below meth c s₁ B hml0 hP _
    obtain ⟨rfl, hx, hbd, hgv⟩ := hP
    obtain ⟨scr, harrAt, hlist, hof, hsmall⟩ := hx
    obtain ⟨hcb, hkn, -, -⟩ := State.arrayAt?_spec harrAt
    have hown : s.vm.findClass R_law = some m.cls := findClass_of_methodNamed B.named
    have hts0 : ∀ c ∈ (Jvm.Cond.code x code maxLocals ret :: tables_1), c.before #[Value.ref b] s = true := atoms_spec (ws := Jvm.Cond.code x code maxLocals ret :: tables_1) B.pre
    have hts : ∀ w ∈ lw_tbl, w.before #[Value.ref b] s = true := k2_hts_sels lw_privs (fun w hw => hts0 w (List.mem_cons_of_mem _ hw)) lw_privs_ok
    have hml : c.maxLocals = 7 := B.maxLocals_eq (hts0 _ List.mem_cons_self)
    have X₀ : Stand p l e room_1 s m #[Value.ref b] below meth c s₁ [] 0 0 := Stand.of_body B
    have hh0 : s₁.heap = s.heap := by rw [B.state]; rfl
    have hsz : scr.slots.size = xs.length := by rw [← Array.length_toList, hlist, List.length_map]
    have hval : ∀ j : Nat, j < xs.length → scr.slots[j]? = some (.int (xs.getD j 0)) := fun j hj => by
      rw [← Array.getElem?_toList, hlist]
      simp [hj]
    have hbl : b < s.heap.size := (Array.getElem?_eq_some_iff.mp hcb).1
    have hX : va_X b xs.length (fun j => xs.getD j 0) s s.heap := ⟨scr, hcb, hof, hkn, hsz, hval⟩
    have K : W p l e room_1 s m #[Value.ref b] below meth c s₁.heap [] 0 0 (lw_Z below #[Value.ref b] s) (entryFrame m ([Value.ref b] : List Value).toArray 7) := by
      rw [hh0]
      exact whole_start l hlt hbd ⟨B.exec, B.bytes, B.returns, hml, hown, hts, hX, hbl, B.notSynchronized, hgv⟩
    obtain ⟨t, a1, o, b1, b2, b3⟩ := K s₁ rfl X₀
    exact ⟨t, o, a1, b1, b2, b3⟩
theorem lw_pre_spec {args : Array Value} {s : State} (h : (Jvm.Cond.and given_1 narrow_1).before args s = true) (hr : rest_1_c.before args s = true) : ∃ (b : Addr) (xs : List Int32), lw_P b xs args s := by
  have hs := flat_of_before _ h
  have hq := flat_of_before _ hr
  have hc : (Cond.count 1).before args s = true := hs _ (by decide +kernel)
  have harr : (Cond.arrayOf (.arg 0) .int).before args s = true := hs _ (by decide +kernel)
  have hle : (Cond.le (.length (.arg 0)) (.int 4)).before args s = true := hs _ (by decide +kernel)
  have hlen : (Cond.isInt (.length (.arg 0))).before args s = true := hq _ (by decide +kernel)
  have hall : (Cond.all (.arg 0) (.isInt (.elem (.arg 0) (.index 0)))).before args s = true := hq _ (by decide +kernel)
  obtain ⟨b, xs, hb, hx⟩ := State.ints_of_pre rfl harr hlen hall
  have hsm : xs.length < 2 ^ 31 := hx.choose_spec.2.2.2
  have hev : (Term.length (.arg 0)).eval args s none [] s = some (.int xs.length.toInt32) := hx.length_eval hb
  have hv := Cond.le_ints hev (show (Term.int 4).eval args s none [] s = some (.int 4) from rfl)
  have hd : xs.length.toInt32 ≤ 4 := by
    simpa [Cond.before, Cond.holds, hv] using hle
  have hN : xs.length ≤ 4 := (Int32.ofNat_le_ofNat hsm (by decide)).mp (show Int32.ofNat xs.length ≤ Int32.ofNat 4 from hd)
  exact ⟨b, xs, Cond.one_arg hc (show args[0]? = some (.ref b) from hb), hx, hN, h⟩
theorem lw_comes (l : Launch) (hlt : l.stackTraces = false) : Comes l x (Jvm.Cond.code x code maxLocals ret :: tables_1) room_1 (fun tb e args s => Calls_1 tb e args s ∧ rest_1 tb e args s ∧ Pre_1 tb e args s)
    (fun _ _ args s o t => lw_Q args s o t) := by
  intro p e ha hc hk s m args below hf hfit hheap happ hpre
  obtain ⟨b, xs, hP⟩ := lw_pre_spec hpre.2.2 hpre.2.1
  obtain ⟨k, o, h1, h2, h3, hQ⟩ := lw_walk l hlt b xs p e ha hc hk s m args below hf ((Spec.applies_iff_loose hf).mp happ).1 hP trivial
  exact ⟨k, o, h1, h2, h3, hQ⟩
theorem lw_frame {s t : State} {o : Outcome} {args : Array Value} (h : Framed s o t [] 600002 7302232) :
    Framed s o t (fieldLocs frame_1_writes args s ++ arrayLocs frame_1_arrays args s ++ staticLocs frame_1_statics s) 600002 7302232 := h
theorem lw_limb (L : Cond) (hL : ∀ (args : Array Value) (s t : State), L.after args s (.returned (some (.int 1))) t = true) :
    ArmFor flags0 classFile x code maxLocals ret World_1 tables_1 room_1 Calls_1 rest_1 Pre_1
      (fun tb e a s o t => postC L tb e a s o t ∧ Framed s o t (fieldLocs frame_1_writes a s ++ arrayLocs frame_1_arrays a s ++ staticLocs frame_1_statics s) 600002 7302232) := by
  intro l hfl _ _ p e ha hc hk s m args below hf hfit hheap happ hpre
  obtain ⟨k, o, h1, h2, h3, rfl, hF⟩ := lw_comes l (by unfold Launch.stackTraces; rw [hfl]; decide) p e ha hc hk s m args below hf hfit hheap happ hpre
  exact ⟨k, _, h1, h2, h3, hL args s _, lw_frame hF⟩
theorem i_vc : Claimed_1_1 ∧ Claimed_1_2 := ⟨lw_limb limb_1_1 (fun args s t => by simp [limb_1_1, Cond.after, Cond.holds, Cond.value]), lw_limb limb_1_2 (fun args s t => Cond.after_iff.mpr (by
  first | (rw [show limb_1_2 = Cond.eq .result (.int 1) from rfl, Cond.eq_ints (x := 1) (y := 1) rfl rfl]; simp; done) | (simp [limb_1_2, Cond.value, Term.eval]; done)))⟩
