/-! THE CLAIM OUT OF ONE WALK OF THE LAW'S BODY. Your part is whole_start (and what it stands on); all else here is the same for every law, but numbers. -/
def R_law : String := "AbnfChartLaw"
def lw_P (b : Addr) (xs : List Int32) (args : Array Value) (s : State) : Prop := args = #[.ref b] ∧ s.IntsAt b xs ∧ xs.length ≤ 2048 ∧ (Jvm.Cond.and given_1 narrow_1).before args s = true
def lw_Q (_ : Array Value) (s : State) (o : Outcome) (t : State) : Prop := o = .returned (some (.int 1)) ∧ Framed s o t [] 601024 7293034
def lw_Z (below : List Frame) (a : Array Value) (s : State) : State → Prop := fun t => ∃ o, t.status = .running ∧ Ended t below o ∧ lw_Q a s o t
/-- the law's own end, with 1 on the stack, nothing written that was there before, its room as the claim has it -/
theorem lw_ret {p : Program} {l : Launch} {e : Env} {s : State} {m : MethodId} {below : List Frame} {meth : Method} {c : Code} {b : Nat} (hx : p.tables.exec = Jvm.exec) (hb : c.code = code) (hr : meth.sig.returnType = ret) (hlocks : meth.locks = false) {pc : Nat} {H : Heap} {ls : Array Slot} (hdg : decode code pc = .ok (.ireturn, 1)) : W p l e room_1 s m #[Value.ref b] below meth c H [] 601024 7293034 (lw_Z below #[Value.ref b] s) (F0 m pc ls [.int 1]) := by
  intro T hT X
  obtain ⟨fs, hret, hrun, hended, hW, hframe⟩ := X.leave (v := some (.int 1)) (hlocks := hlocks) (fun h => by rw [hr] at h; cases h)
  have hmeth' : T.vm.method? m = some meth := X.method'
  refine ⟨T.setFrames fs, ?_, .returned (some (.int 1)), hrun, hended, rfl, ⟨_, rfl⟩, hW, hframe⟩
  jvm_step X.here [X.here.top, hx, hb, hdg, hmeth', hr, ret, narrow_b1]
  (try refine ⟨rfl, ?_⟩); (try refine ⟨rfl, ?_⟩)
  first | (intro acts; rw [hret _ acts rfl rfl rfl]) | rw [hret _ _ rfl rfl rfl]
  exact Steps.refl _
/-- what holds at the law's entry: the machine, the code, the tables' words (any of lw_tbl by 'hts w (by decide +kernel)'), the script of L ints xs at the cell b, what the Statement gives of the start (any of its parts by flat_of_before) -/
def lw_At (p : Program) (s : State) (m : MethodId) (meth : Method) (c : Code) (b L : Nat) (xs : Nat → Int32) : Prop :=
  p.tables.exec = Jvm.exec ∧ c.code = code ∧ meth.sig.returnType = ret ∧ c.maxLocals = 7 ∧ s.vm.findClass R_law = some m.cls ∧ (∀ w ∈ lw_tbl, w.before #[Value.ref b] s = true) ∧ va_X b L xs s s.heap ∧ b < s.heap.size ∧ meth.locks = false ∧ (Jvm.Cond.and given_1 narrow_1).before #[Value.ref b] s = true
theorem sw_out {v : Int32} (h0 : ¬ v = 0) (h1 : ¬ v = 1) (h2 : ¬ v = 2) (h3 : ¬ v = 3) (h4 : ¬ v = 4) (h5 : ¬ v = 5) (h6 : ¬ v = 6) (h7 : ¬ v = 7) (h8 : ¬ v = 8) (h9 : ¬ v = 9) (h10 : ¬ v = 10) : v.toInt < 0 ∨ 10 < v.toInt := by
  by_cases h : v < 0
  · exact Or.inl (by have := Int32.lt_iff_toInt_lt.mp h; have e0 : (0 : Int32).toInt = 0 := by decide
                     omega)
  · obtain ⟨j, hj, rfl⟩ := nI_of h
    refine Or.inr ?_
    rw [nI_toInt hj]
    have g0 : j ≠ 0 := fun e => h0 (by rw [e]; rfl)
    have g1 : j ≠ 1 := fun e => h1 (by rw [e]; rfl)
    have g2 : j ≠ 2 := fun e => h2 (by rw [e]; rfl)
    have g3 : j ≠ 3 := fun e => h3 (by rw [e]; rfl)
    have g4 : j ≠ 4 := fun e => h4 (by rw [e]; rfl)
    have g5 : j ≠ 5 := fun e => h5 (by rw [e]; rfl)
    have g6 : j ≠ 6 := fun e => h6 (by rw [e]; rfl)
    have g7 : j ≠ 7 := fun e => h7 (by rw [e]; rfl)
    have g8 : j ≠ 8 := fun e => h8 (by rw [e]; rfl)
    have g9 : j ≠ 9 := fun e => h9 (by rw [e]; rfl)
    have g10 : j ≠ 10 := fun e => h10 (by rw [e]; rfl)
    omega
theorem turn_in {L k : Nat} (hL : L ≤ 2048) (hk : k < 2 ^ 31) (h : ¬ Int32.ofNat L - 4 < nI k) : k + 4 ≤ L := by
  rcases Nat.lt_or_ge L 4 with q | q
  · exfalso
    apply h
    have h0 : (Int32.ofNat L - 4) < 0 := by
      have : L = 0 ∨ L = 1 ∨ L = 2 ∨ L = 3 := by omega
      rcases this with rfl | rfl | rfl | rfl <;> decide
    rw [Int32.lt_iff_toInt_lt] at h0 ⊢
    rw [nI_toInt hk]
    have e0 : (0 : Int32).toInt = 0 := by decide
    omega
  · obtain ⟨M, rfl⟩ : ∃ M, L = M + 4 := ⟨L - 4, by omega⟩
    have e : Int32.ofNat (M + 4) - 4 = nI M := by
      show nI (M + 4) - 4 = nI M
      rw [← nI_add M 4, Int32.sub_eq_add_neg, Int32.add_assoc, show nI 4 + -4 = (0 : Int32) from by decide, Int32.add_zero]
    rw [e] at h
    rcases Nat.lt_or_ge M k with q2 | q2
    · exact absurd ((nI_ltI (by omega) hk).mpr q2) h
    · omega
theorem rfB_A {base off k : Nat} : rfB base off k = rfA (adB base) off 1 k := by
  funext i
  unfold rfB rfA
  rw [Nat.one_mul]
theorem LIv_start {cy : Nat → ClassId} {sz : Nat} {m2 m3 m4 m5 : Nat → va_E} (hXI : XI cy sz m2) (e3 : ∀ i, i < 224 → m3 i = m2 i) (hYI : YI cy sz m4) (hKp : ∀ i, i < 224 → m4 i = m3 i) (e5 : ∀ i, i < 242 → m5 i = m4 i) (ho : LO cy m5) : LIv cy (adB sz) 0 0 m5 := by
  obtain ⟨y0, y1, y2, y3, y4, y5, y6, y7, y8, y9, y10, y11, y12, y13⟩ := hXI
  obtain ⟨z0, z1, z2, z3, z4, z5, z6, z7, z8, z9, z10, z11, z12, z13, z14, z15, z16, z17⟩ := hYI
  have e : ∀ i, i < 224 → m5 i = m2 i := fun i hi => (e5 i (by omega)).trans ((hKp i hi).trans (e3 i hi))
  have hG : GI cy (adB sz) 0 0 0 0 m5 := by
    refine ⟨⟨by omega, by omega, by omega⟩, (e 5 (by omega)).trans y5, (e 6 (by omega)).trans (y6.trans (by rw [rfB_A])), (e 19 (by omega)).trans y8, fun i hi => ⟨0, .null, .null, (e (7 + i) (by omega)).trans (y7 i hi), fun q => by omega⟩, fun k hk => ⟨⟨0, 0, 0, .null, .null, .null, (e (20 + 2 * k) (by omega)).trans (y9 k hk).1, fun q => by omega⟩, _, (e (21 + 2 * k) (by omega)).trans (y9 k hk).2⟩, 0, _, by omega, (e 220 (by omega)).trans y10, (e 221 (by omega)).trans y11⟩
  refine ⟨⟨(e 0 (by omega)).trans y0, ⟨_, (e 1 (by omega)).trans y1, by omega, (e 2 (by omega)).trans y2⟩, ⟨0, (e 3 (by omega)).trans y3, by omega, _, (e 4 (by omega)).trans y4⟩, ⟨0, 0, 0, 0, hG⟩, ⟨0, -1, (e 222 (by omega)).trans y12⟩, 0, (e 223 (by omega)).trans y13⟩, (e 3 (by omega)).trans y3, ho, J0, fun _ _ => 0, fun _ => 0, ⟨(e5 224 (by omega)).trans z0, (e5 226 (by omega)).trans z2, fun j h1 h2 h3 => (e5 j (by omega)).trans ?_, fun _ _ => rfl, fun v _ e1 _ => absurd e1 (NoG.of (ad := adB sz) (J := J0) ((e5 224 (by omega)).trans z0) v)⟩, ⟨rfl, rfl, 0, 0, 0, rfl, rfl, by omega, by omega, by omega, Gd.zero⟩, by omega, ⟨⟨_, ⟨(e 1 (by omega)).trans y1, by omega, (e 2 (by omega)).trans y2⟩, fun k hk => by omega⟩, fun k hk => by omega, 0, 0, rfl, rfl, Or.inr ⟨rfl, rfl, 0, 0, 0, hG⟩⟩, ⟨_, ⟨(e 3 (by omega)).trans y3, by omega, (e 4 (by omega)).trans y4⟩, fun m hm => by omega, Or.inl rfl⟩⟩
  have hj : j = 225 ∨ j = 227 ∨ j = 228 ∨ j = 229 ∨ j = 230 ∨ j = 231 ∨ j = 232 ∨ j = 233 ∨ j = 234 ∨ j = 235 ∨ j = 236 ∨ j = 237 ∨ j = 238 ∨ j = 239 ∨ j = 240 ∨ j = 241 := by omega
  rcases hj with rfl | rfl | rfl | rfl | rfl | rfl | rfl | rfl | rfl | rfl | rfl | rfl | rfl | rfl | rfl | rfl
  · exact z1
  · exact z3
  · exact z4
  · exact z5
  · exact z6
  · exact z7
  · exact z8
  · exact z9
  · exact z10
  · exact z11
  · exact z12
  · exact z13
  · exact z14
  · exact z15
  · exact z16
  · exact z17
set_option maxHeartbeats 4000000 in
set_option maxRecDepth 100000 in
theorem whole_start {p : Program} {e : Env} {s : State} {m : MethodId} {below : List Frame} {meth : Method} {c : Code} (l : Launch) (hlt : l.stackTraces = false) {b L : Nat} {xs : Nat → Int32} (hL : L ≤ 2048) (C0 : lw_At p s m meth c b L xs) : W p l e room_1 s m #[Value.ref b] below meth c s.heap [] 0 0 (lw_Z below #[Value.ref b] s) (entryFrame m ([Value.ref b] : List Value).toArray 7) := by
  obtain ⟨hx, hb, hr, hml, hown, hts, hX, hbl, hlocks, hgv⟩ := C0
  obtain ⟨D, cy, E⟩ := EV_start hts hgv
  have Bx : MB p s m #[Value.ref b] c c_Lw_law "AbnfChartLaw" D cy := ⟨hx, hb, fun w hw => hts w (List.mem_filter.mp hw).1, hown, E.1⟩
  obtain ⟨sz, hsz⟩ : ∃ z, z = s.heap.size := ⟨_, rfl⟩
  rw [← hsz] at E
  have hbA : ¬ Az sz b := by
    show ¬ sz ≤ b
    omega
  have hbz : sz ≤ sz := Nat.le_refl _
  obtain ⟨mem, e_mem⟩ : ∃ z : Nat → va_E, z = fun _ => .inr (0, []) := ⟨_, rfl⟩
  have hP : va_P D vcl (fw 0 (adB sz) mem) s.heap := fun k q h => absurd (fw_get h).1 (Nat.not_lt_zero _)
  have hS : va_S (Az sz) s.heap s.heap [] := va_S.rf
  have hz : s.heap.size = sz + 0 := by omega
  have loop : ∀ (d t Z G : Nat) (mem : Nat → va_E) (ls : Array Slot) (H : Heap) (locs : List Loc), 512 - t < d → t ≤ 512 → LIv cy (adB sz) Z G mem → va_P D vcl (fw 243 (adB sz) mem) H → va_D (Az sz) (fw 243 (adB sz) mem) → va_S (Az sz) s.heap H locs → lv_has ls 7 [(4, .int (nI (4 * t))), (3, .ref (adB sz 242)), (2, .ref (adB sz 224)), (1, .ref (adB sz 0)), (0, .ref (b))] → W p l e room_1 s m #[Value.ref b] below meth c H locs (243 + t) (7734 + 6 * t) (lw_Z below #[Value.ref b] s) (F0 m 23 ls []) := by
    intro d
    induction d with
    | zero => intro t Z G mem ls H locs hd; exact absurd hd (Nat.not_lt_zero _)
    | succ d ih =>
      intro t Z G mem ls H locs hd ht hI hP hD hS hl
      refine lv_iload Bx.1 Bx.2.1 d_Lw_law_23 (lv_at hl 0 rfl) ?_
      refine lv_aload_n Bx.1 Bx.2.1 d_Lw_law_25 rfl (lv_at hl 4 rfl) ?_
      refine va_slen Bx.1 Bx.2.1 hX hbl hbA hS d_Lw_law_26 ?_
      refine lv_iconst (v := 4) Bx.1 Bx.2.1 d_Lw_law_27 (by decide) ?_
      refine lv_isub Bx.1 Bx.2.1 d_Lw_law_28 ?_
      refine lv_icmp_gt Bx.1 Bx.2.1 d_Lw_law_29 rfl (fun h => ?_) (fun h => ?_)
      · refine lv_iconst (v := 1) Bx.1 Bx.2.1 d_Lw_law_537 (by decide) ?_
        refine va_forget (fun q hq => by have := hS.2.2 q hq; rw [← hsz]; exact this) ?_
        refine W.widen (k := 601024) (n := 7293034) (by omega) (by omega) ?_
        exact lw_ret hx hb hr hlocks d_Lw_law_538
      · have htl := turn_in hL (by omega) h
        have htt : t < 512 := by omega
        have K : ∀ (Z G : Nat) (mem : Nat → va_E) (ls : Array Slot) (H : Heap) (locs : List Loc), LIv cy (adB sz) Z G mem → va_P D vcl (fw 243 (adB sz) mem) H → va_D (Az sz) (fw 243 (adB sz) mem) → va_S (Az sz) s.heap H locs → lv_has ls 7 [(4, .int (nI (4 * t))), (3, .ref (adB sz 242)), (2, .ref (adB sz 224)), (1, .ref (adB sz 0)), (0, .ref (b))] → W p l e room_1 s m #[Value.ref b] below meth c H locs (243 + t + 1) (7734 + 6 * t + 6) (lw_Z below #[Value.ref b] s) (F0 m 531 ls []) := by
          intro Z G mem ls H locs hI hP hD hS hl
          refine lv_iinc (lv' := [(4, .int ((nI (4 * t) + (4)))), (3, .ref (adB sz 242)), (2, .ref (adB sz 224)), (1, .ref (adB sz 0)), (0, .ref (b))]) Bx.1 Bx.2.1 d_Lw_law_531 hl (k := 0) rfl rfl (by decide) rfl (fun ls hl => ?_)
          refine lv_goto Bx.1 Bx.2.1 d_Lw_law_534 rfl ?_
          exact ih (t + 1) Z G mem _ _ _ (by omega) (by omega) hI hP hD hS (by rw [show nI (4 * (t + 1)) = nI (4 * t) + 4 from (nI_add (4 * t) 4).symm]; exact (lv_sub hl [0, 1, 2, 3, 4] rfl))
        refine lv_aload_n Bx.1 Bx.2.1 d_Lw_law_32 rfl (lv_at hl 4 rfl) ?_
        refine lv_iload Bx.1 Bx.2.1 d_Lw_law_33 (lv_at hl 0 rfl) ?_
        refine f_sld Bx.1 Bx.2.1 hX hbl hbA hS (4 * t) rfl (by omega) (by omega) d_Lw_law_35 ?_
        refine lv_bipush (v := 15) Bx.1 Bx.2.1 d_Lw_law_36 (by decide) ?_
        refine lv_iand Bx.1 Bx.2.1 d_Lw_law_38 ?_
        refine lv_topi (fun v1 e_v1 => ?_)
        by_cases h0 : v1 = 0
        · rw [h0]
          refine lv_tableIn (off := 57) (tgt := 96) Bx.1 Bx.2.1 d_Lw_law_39 (by decide) (by decide) (by decide) rfl ?_
          exact k_write l hlt Bx hml E (by decide) hX hbl hbA htt ⟨htl, hL⟩ hI hP hD hS hl K
        by_cases h1 : v1 = 1
        · rw [h1]
          refine lv_tableIn (off := 129) (tgt := 168) Bx.1 Bx.2.1 d_Lw_law_39 (by decide) (by decide) (by decide) rfl ?_
          exact k_erase l hlt Bx hml E (by decide) hX hbl hbA htt ⟨htl, hL⟩ hI hP hD hS hl K
        by_cases h2 : v1 = 2
        · rw [h2]
          refine lv_tableIn (off := 142) (tgt := 181) Bx.1 Bx.2.1 d_Lw_law_39 (by decide) (by decide) (by decide) rfl ?_
          exact k_read l hlt Bx hml E (by decide) hX hbl hbA htt ⟨htl, hL⟩ hI hP hD hS hl K
        by_cases h3 : v1 = 3
        · rw [h3]
          refine lv_tableIn (off := 158) (tgt := 197) Bx.1 Bx.2.1 d_Lw_law_39 (by decide) (by decide) (by decide) rfl ?_
          exact k_place l hlt Bx hml E (by decide) hX hbl hbA htt ⟨htl, hL⟩ hI hP hD hS hl K
        by_cases h4 : v1 = 4
        · rw [h4]
          refine lv_tableIn (off := 171) (tgt := 210) Bx.1 Bx.2.1 d_Lw_law_39 (by decide) (by decide) (by decide) rfl ?_
          exact k_rule l hlt Bx hml E (by decide) hX hbl hbA htt ⟨htl, hL⟩ hI hP hD hS hl K
        by_cases h5 : v1 = 5
        · rw [h5]
          refine lv_tableIn (off := 231) (tgt := 270) Bx.1 Bx.2.1 d_Lw_law_39 (by decide) (by decide) (by decide) rfl ?_
          exact k_give l hlt Bx hml E (by decide) hX hbl hbA htt ⟨htl, hL⟩ hI hP hD hS hl K
        by_cases h6 : v1 = 6
        · rw [h6]
          refine lv_tableIn (off := 303) (tgt := 342) Bx.1 Bx.2.1 d_Lw_law_39 (by decide) (by decide) (by decide) rfl ?_
          exact k_drop l hlt Bx hml E (by decide) hX hbl hbA htt ⟨htl, hL⟩ hI hP hD hS hl K
        by_cases h7 : v1 = 7
        · rw [h7]
          refine lv_tableIn (off := 316) (tgt := 355) Bx.1 Bx.2.1 d_Lw_law_39 (by decide) (by decide) (by decide) rfl ?_
          exact k_matches l hlt Bx hml E (by decide) hX hbl hbA htt ⟨htl, hL⟩ hI hP hD hS hl K
        by_cases h8 : v1 = 8
        · rw [h8]
          refine lv_tableIn (off := 368) (tgt := 407) Bx.1 Bx.2.1 d_Lw_law_39 (by decide) (by decide) (by decide) rfl ?_
          exact k_longest l hlt Bx hml E (by decide) hX hbl hbA htt ⟨htl, hL⟩ hI hP hD hS hl K
        by_cases h9 : v1 = 9
        · rw [h9]
          refine lv_tableIn (off := 408) (tgt := 447) Bx.1 Bx.2.1 d_Lw_law_39 (by decide) (by decide) (by decide) rfl ?_
          exact k_pieces l hlt Bx hml E (by decide) hX hbl hbA htt ⟨htl, hL⟩ hI hP hD hS hl K
        by_cases h10 : v1 = 10
        · rw [h10]
          refine lv_tableIn (off := 464) (tgt := 503) Bx.1 Bx.2.1 d_Lw_law_39 (by decide) (by decide) (by decide) rfl ?_
          exact k_count l hlt Bx hml E (by decide) hX hbl hbA htt ⟨htl, hL⟩ hI hP hD hS hl K
        refine lv_tableOut (tgt := 531) Bx.1 Bx.2.1 d_Lw_law_39 (sw_out h0 h1 h2 h3 h4 h5 h6 h7 h8 h9 h10) rfl ?_
        exact W.widen (by omega) (by omega) (K Z G mem _ _ _ hI hP hD hS (lv_sub hl [0, 1, 2, 3, 4] rfl))
  have hl := lv_entry ([Value.ref b]) (n := 7) (Nat.le_of_ble_eq_true rfl)
  rw [lg_entry_eq]
  generalize (lg_sl ([Value.ref b]) ++ List.replicate (7 - (lg_sl ([Value.ref b])).length) Slot.unset).toArray = ls at hl ⊢
  have hl : lv_has ls 7 [(0, .ref (b))] := hl
  refine f_new (ci := 6) (n := 0) Bx hP hS hz rfl inAb tyAb okAb kw_17 kw_18 kw_1 [.null, .null, .null, .null, .null] (by intro j hj; match j, hj with | 0, _ => rfl | 1, _ => rfl | 2, _ => rfl | 3, _ => rfl | 4, _ => rfl) (Nat.le_of_ble_eq_true rfl) (Nat.le_of_ble_eq_true rfl) d_Lw_law_0 (fun H hP hS hz => ?_)
  obtain ⟨mem1, e_mem1⟩ : ∃ z, z = va_up mem (0) (.inr (6, [.null, .null, .null, .null, .null])) := ⟨_, rfl⟩
  have hP : va_P D vcl (fw 1 (adB sz) mem1) H := by rw [e_mem1]; exact hP
  have h_mem1 : mem1 (0) = .inr (6, [.null, .null, .null, .null, .null]) := by rw [e_mem1, va_up_self]
  refine lv_dup Bx.1 Bx.2.1 d_Lw_law_3 rfl ?_
  refine c_size (n := 1) hP (by omega) (by omega) (fun hz => ?_)
  refine f_callI (na := 0) (n := 1) (j := 0) (As := []) (rest := [.ref ((adB sz) 0)]) Bx hml E hP hS hbz hz (m_Ab_init l hbz h_mem1) kw_19 kw_20 kw_1 kw_21 rfl (by decide +kernel) ⟨rfl, rfl⟩ ⟨Nat.le_of_ble_eq_true rfl, Nat.le_of_ble_eq_true rfl⟩ rfl hl.1 (Nat.le_of_ble_eq_true rfl) d_Lw_law_4 ⟨Nat.le_of_ble_eq_true rfl, Nat.le_of_ble_eq_true rfl⟩ (fun mem2 H locs hXI hP hS hz => ?_)
  refine lv_astore_n (lv' := [(1, .ref ((adB sz) 0)), (0, .ref (b))]) Bx.1 Bx.2.1 d_Lw_law_7 rfl hl (by decide) rfl (fun ls hl => ?_)
  refine c_size (n := 224) hP (by omega) (by omega) (fun hz => ?_)
  refine f_new (ci := 7) (n := 224) Bx hP hS hz rfl inMo tyMo okMo kw_650 kw_651 kw_8 [.int (0), .int (0), .null, .int (0), .int (0), .null, .null, .int (0), .null, .null, .null, .null, .null, .null, .int (0), .null, .int (0), .int (0), .int (0), .null, .null, .null, .null, .null, .int (0), .null, .int (0), .null, .int (0)] (by intro j hj; match j, hj with | 0, _ => rfl | 1, _ => rfl | 2, _ => rfl | 3, _ => rfl | 4, _ => rfl | 5, _ => rfl | 6, _ => rfl | 7, _ => rfl | 8, _ => rfl | 9, _ => rfl | 10, _ => rfl | 11, _ => rfl | 12, _ => rfl | 13, _ => rfl | 14, _ => rfl | 15, _ => rfl | 16, _ => rfl | 17, _ => rfl | 18, _ => rfl | 19, _ => rfl | 20, _ => rfl | 21, _ => rfl | 22, _ => rfl | 23, _ => rfl | 24, _ => rfl | 25, _ => rfl | 26, _ => rfl | 27, _ => rfl | 28, _ => rfl | j + 29, hj => exact absurd hj (by omega)) (Nat.le_of_ble_eq_true rfl) (Nat.le_of_ble_eq_true rfl) d_Lw_law_8 (fun H hP hS hz => ?_)
  obtain ⟨mem3, e_mem3⟩ : ∃ z, z = va_up mem2 (224) (.inr (7, [.int (0), .int (0), .null, .int (0), .int (0), .null, .null, .int (0), .null, .null, .null, .null, .null, .null, .int (0), .null, .int (0), .int (0), .int (0), .null, .null, .null, .null, .null, .int (0), .null, .int (0), .null, .int (0)])) := ⟨_, rfl⟩
  have hP : va_P D vcl (fw 225 (adB sz) mem3) H := by rw [e_mem3]; exact hP
  have h_mem3 : mem3 (224) = .inr (7, [.int (0), .int (0), .null, .int (0), .int (0), .null, .null, .int (0), .null, .null, .null, .null, .null, .null, .int (0), .null, .int (0), .int (0), .int (0), .null, .null, .null, .null, .null, .int (0), .null, .int (0), .null, .int (0)]) := by rw [e_mem3, va_up_self]
  refine lv_dup Bx.1 Bx.2.1 d_Lw_law_11 rfl ?_
  refine c_size (n := 225) hP (by omega) (by omega) (fun hz => ?_)
  refine f_callI (na := 0) (n := 225) (j := 224) (As := []) (rest := [.ref ((adB sz) 224)]) Bx hml E hP hS hbz hz (m_Mo_init l hbz h_mem3) kw_652 kw_653 kw_8 kw_654 rfl (by decide +kernel) ⟨rfl, rfl⟩ ⟨Nat.le_of_ble_eq_true rfl, Nat.le_of_ble_eq_true rfl⟩ rfl hl.1 (Nat.le_of_ble_eq_true rfl) d_Lw_law_12 ⟨Nat.le_of_ble_eq_true rfl, Nat.le_of_ble_eq_true rfl⟩ (fun mem4 H locs hYI hP hS hz => ?_)
  obtain ⟨hYI, hKp⟩ := hYI
  refine lv_astore_n (lv' := [(2, .ref ((adB sz) 224)), (1, .ref ((adB sz) 0)), (0, .ref (b))]) Bx.1 Bx.2.1 d_Lw_law_15 rfl hl (by decide) rfl (fun ls hl => ?_)
  refine lv_iconst (v := 1) Bx.1 Bx.2.1 d_Lw_law_16 (by decide) ?_
  refine c_size (n := 242) hP (by omega) (by omega) (fun hz => ?_)
  refine f_newa (atype := .long) (n := 242) (t0 := 2) (N' := 1) Bx hP hS hz kw_744 (Bx.2.2.2.2.2 2 _ rfl).2 (1, .inr (.inl (fun _ => 0))) (fun _ => rfl) (by decide) (by decide) (by decide) (Nat.le_of_ble_eq_true rfl) (Nat.le_of_ble_eq_true rfl) d_Lw_law_17 (fun H hP hS hz => ?_)
  obtain ⟨mem5, e_mem5⟩ : ∃ z, z = va_up mem4 (242) (.inl (cy 2, (1, .inr (.inl (fun _ => 0))))) := ⟨_, rfl⟩
  have hP : va_P D vcl (fw 243 (adB sz) mem5) H := by rw [e_mem5]; exact hP
  have h_mem5 : mem5 (242) = .inl (cy 2, (1, .inr (.inl (fun _ => 0)))) := by rw [e_mem5, va_up_self]
  have hI : LIv cy (adB sz) 0 0 mem5 := LIv_start hXI (fun i hi => by rw [e_mem3, va_up_ne _ _ (by omega)]) hYI hKp (fun i hi => by rw [e_mem5, va_up_ne _ _ (by omega)]) ⟨_, h_mem5⟩
  refine lv_astore_n (lv' := [(3, .ref ((adB sz) 242)), (2, .ref ((adB sz) 224)), (1, .ref ((adB sz) 0)), (0, .ref (b))]) Bx.1 Bx.2.1 d_Lw_law_19 rfl hl (by decide) rfl (fun ls hl => ?_)
  refine lv_iconst (v := 0) Bx.1 Bx.2.1 d_Lw_law_20 (by decide) ?_
  refine lv_istore (lv' := [(4, .int (0)), (3, .ref ((adB sz) 242)), (2, .ref ((adB sz) 224)), (1, .ref ((adB sz) 0)), (0, .ref (b))]) Bx.1 Bx.2.1 d_Lw_law_21 hl (by decide) rfl (fun ls hl => ?_)
  refine W.widen (k := 243 + 0) (n := 7734 + 6 * 0) (Nat.le_of_ble_eq_true rfl) (Nat.le_of_ble_eq_true rfl) ?_
  exact loop _ 0 0 0 mem5 _ _ _ (Nat.lt_succ_self _) (by omega) hI hP (adB_D hbz) hS (lv_sub hl [0, 1, 2, 3, 4] rfl)
set_option maxHeartbeats 4000000 in
theorem lw_walk (l : Launch) (hlt : l.stackTraces = false) (b : Addr) (xs : List Int32) : MetFree l x (headSpec (Jvm.Cond.code x code maxLocals ret :: tables_1) room_1) (lw_P b xs) (fun _ _ _ _ _ => True) lw_Q := by
  refine MetFree.of_bodyS (code := code) (maxLocals := maxLocals) (ret := ret) (by decide) ?_ ?_
  · intro args s m h hn
    obtain ⟨meth, c, h1, h2, h3, h4, h5, h6, -, -⟩ := Cond.code_spec hn (atoms_spec (ws := Jvm.Cond.code x code maxLocals ret :: tables_1) h _ List.mem_cons_self)
    exact ⟨meth, c, h1, h2, h3, h4, h5, h6⟩
  · intro p e s m args below meth c s₁ B hml0 hP _
    obtain ⟨rfl, hx, hbd, hgv⟩ := hP
    obtain ⟨scr, harrAt, hlist, hof, hsmall⟩ := hx
    obtain ⟨hcb, hkn, -, -⟩ := State.arrayAt?_spec harrAt
    have hown : s.vm.findClass R_law = some m.cls := findClass_of_methodNamed B.named
    have hts0 : ∀ c ∈ (Jvm.Cond.code x code maxLocals ret :: tables_1), c.before #[Value.ref b] s = true := atoms_spec (ws := Jvm.Cond.code x code maxLocals ret :: tables_1) B.pre
    have hts : ∀ w ∈ lw_tbl, w.before #[Value.ref b] s = true := k2_hts_sels lw_privs (fun w hw => hts0 w (List.mem_cons_of_mem _ hw)) lw_privs_ok
    have hml : c.maxLocals = 7 := B.maxLocals_eq (hts0 _ List.mem_cons_self)
    have X₀ : Stand p l e room_1 s m #[Value.ref b] below meth c s₁ [] 0 0 := Stand.of_body B
    have hh0 : s₁.heap = s.heap := by rw [B.state]; rfl
    have hsz : scr.slots.size = xs.length := by rw [← Array.length_toList, hlist, List.length_map]
    have hval : ∀ j : Nat, j < xs.length → scr.slots[j]? = some (.int (xs.getD j 0)) := fun j hj => by
      rw [← Array.getElem?_toList, hlist]
      simp [hj]
    have hbl : b < s.heap.size := (Array.getElem?_eq_some_iff.mp hcb).1
    have hX : va_X b xs.length (fun j => xs.getD j 0) s s.heap := ⟨scr, hcb, hof, hkn, hsz, hval⟩
    have K : W p l e room_1 s m #[Value.ref b] below meth c s₁.heap [] 0 0 (lw_Z below #[Value.ref b] s) (entryFrame m ([Value.ref b] : List Value).toArray 7) := by
      rw [hh0]
      exact whole_start l hlt hbd ⟨B.exec, B.bytes, B.returns, hml, hown, hts, hX, hbl, B.notSynchronized, hgv⟩
    obtain ⟨t, a1, o, b1, b2, b3⟩ := K s₁ rfl X₀
    exact ⟨t, o, a1, b1, b2, b3⟩
theorem lw_pre_spec {args : Array Value} {s : State} (h : (Jvm.Cond.and given_1 narrow_1).before args s = true) (hr : rest_1_c.before args s = true) : ∃ (b : Addr) (xs : List Int32), lw_P b xs args s := by
  have hs := flat_of_before _ h
  have hq := flat_of_before _ hr
  have hc : (Cond.count 1).before args s = true := hs _ (by decide +kernel)
  have harr : (Cond.arrayOf (.arg 0) .int).before args s = true := hs _ (by decide +kernel)
  have hle : (Cond.le (.length (.arg 0)) (.int 2048)).before args s = true := hs _ (by decide +kernel)
  have hlen : (Cond.isInt (.length (.arg 0))).before args s = true := hq _ (by decide +kernel)
  have hall : (Cond.all (.arg 0) (.isInt (.elem (.arg 0) (.index 0)))).before args s = true := hq _ (by decide +kernel)
  obtain ⟨b, xs, hb, hx⟩ := State.ints_of_pre rfl harr hlen hall
  have hsm : xs.length < 2 ^ 31 := hx.choose_spec.2.2.2
  have hev : (Term.length (.arg 0)).eval args s none [] s = some (.int xs.length.toInt32) := hx.length_eval hb
  have hv := Cond.le_ints hev (show (Term.int 2048).eval args s none [] s = some (.int 2048) from rfl)
  have hd : xs.length.toInt32 ≤ 2048 := by
    simpa [Cond.before, Cond.holds, hv] using hle
  have hN : xs.length ≤ 2048 := (Int32.ofNat_le_ofNat hsm (by decide)).mp (show Int32.ofNat xs.length ≤ Int32.ofNat 2048 from hd)
  exact ⟨b, xs, Cond.one_arg hc (show args[0]? = some (.ref b) from hb), hx, hN, h⟩
theorem lw_comes (l : Launch) (hlt : l.stackTraces = false) : Comes l x (Jvm.Cond.code x code maxLocals ret :: tables_1) room_1 (fun tb e args s => Calls_1 tb e args s ∧ rest_1 tb e args s ∧ Pre_1 tb e args s)
    (fun _ _ args s o t => lw_Q args s o t) := by
  intro p e ha hc hk s m args below hf hfit hheap happ hpre
  obtain ⟨b, xs, hP⟩ := lw_pre_spec hpre.2.2 hpre.2.1
  obtain ⟨k, o, h1, h2, h3, hQ⟩ := lw_walk l hlt b xs p e ha hc hk s m args below hf ((Spec.applies_iff_loose hf).mp happ).1 hP trivial
  exact ⟨k, o, h1, h2, h3, hQ⟩
theorem lw_frame {s t : State} {o : Outcome} {args : Array Value} (h : Framed s o t [] 601024 7293034) :
    Framed s o t (fieldLocs frame_1_writes args s ++ arrayLocs frame_1_arrays args s ++ staticLocs frame_1_statics s) 601024 7293034 := h
theorem lw_limb (L : Cond) (hL : ∀ (args : Array Value) (s t : State), L.after args s (.returned (some (.int 1))) t = true) :
    ArmFor flags0 classFile x code maxLocals ret World_1 tables_1 room_1 Calls_1 rest_1 Pre_1
      (fun tb e a s o t => postC L tb e a s o t ∧ Framed s o t (fieldLocs frame_1_writes a s ++ arrayLocs frame_1_arrays a s ++ staticLocs frame_1_statics s) 601024 7293034) := by
  intro l hfl _ _ p e ha hc hk s m args below hf hfit hheap happ hpre
  obtain ⟨k, o, h1, h2, h3, rfl, hF⟩ := lw_comes l (by unfold Launch.stackTraces; rw [hfl]; decide) p e ha hc hk s m args below hf hfit hheap happ hpre
  exact ⟨k, _, h1, h2, h3, hL args s _, lw_frame hF⟩
theorem i_vc : Claimed_1_1 ∧ Claimed_1_2 := ⟨lw_limb limb_1_1 (fun args s t => by simp [limb_1_1, Cond.after, Cond.holds, Cond.value]), lw_limb limb_1_2 (fun args s t => Cond.after_iff.mpr (by
  first | (rw [show limb_1_2 = Cond.eq .result (.int 1) from rfl, Cond.eq_ints (x := 1) (y := 1) rfl rfl]; simp; done) | (simp [limb_1_2, Cond.value, Term.eval]; done)))⟩
