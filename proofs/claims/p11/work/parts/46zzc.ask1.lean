/-- a rule's number; a piece's places -/
def RK (R : Nat) (k : Int32) : Prop := ∃ r0 : Nat, r0 < R ∧ k = nI r0
def PK (I : Nat) (i j : Int32) : Prop := ∃ i0 j0 : Nat, i0 ≤ j0 ∧ j0 ≤ I ∧ i = nI i0 ∧ j = nI j0
theorem RK.no {R : Nat} {k wh : Int32} (hR : R ≤ 12) (hw : ¬ wh = 0) (h : ¬ (¬ k < 0 ∧ k < (if wh = 0 then 0 else nI R))) : ¬ RK R k := by
  rintro ⟨r0, h1, rfl⟩
  refine h ⟨nI_pos (by omega), ?_⟩
  rw [if_neg hw]
  exact (nI_ltI (by omega) (by omega)).mpr h1
theorem RK.zero {k : Int32} : ¬ RK 0 k := fun ⟨r0, h1, _⟩ => by omega
theorem PK.no {I : Nat} {i j : Int32} (hI : I ≤ 24) (h : ¬ (¬ i < 0 ∧ ¬ j < i ∧ j ≤ nI I)) : ¬ PK I i j := by
  rintro ⟨i0, j0, h1, h2, rfl, rfl⟩
  refine h ⟨nI_pos (by omega), fun z => ?_, (nI_leI (by omega) (by omega)).mpr h2⟩
  have := (nI_ltI (by omega) (by omega)).mp z
  omega
theorem PK.yes {I : Nat} {i j : Int32} (hI : I ≤ 24) (h1 : ¬ i < 0) (h2 : ¬ j < i) (h3 : j ≤ nI I) : ∃ i0 j0 : Nat, i0 ≤ j0 ∧ j0 ≤ I ∧ i = nI i0 ∧ j = nI j0 := by
  obtain ⟨a, ha, rfl⟩ := nI_of h1
  have h4 : ¬ j < 0 := fun z => h2 (Int32.lt_of_lt_of_le z (Int32.not_lt.mp h1))
  obtain ⟨b, hb, rfl⟩ := nI_of h4
  have h5 := (nI_leI hb (by omega)).mp h3
  refine ⟨a, b, ?_, h5, rfl, rfl⟩
  rcases Nat.lt_or_ge b a with q | q
  · exact absurd ((nI_ltI hb ha).mpr q) h2
  · exact q
theorem no_rul9 {k wh : Int32} {rc : Nat} (hz : wh = 0 ∨ rc = 0) (h1 : ¬ k < 0) (h2 : k < (if wh = 0 then 0 else nI rc)) : False := by
  rcases hz with h | h
  · rw [if_pos h] at h2; exact h1 h2
  · subst h
    by_cases q : wh = 0
    · rw [if_pos q] at h2; exact h1 h2
    · rw [if_neg q] at h2; exact h1 h2
/-- what the class can be asked: nothing, or a chart -/
def QY (cy : Nat → ClassId) (ad : Nat → Nat) (R E I : Nat) (Bw : Ro) (inp : Nat → Int32) (mem : Nat → va_E) : Prop := (R = 0 ∧ ∃ (lim rc ec : Nat) (wh : Int32), GI cy ad lim rc ec wh mem ∧ (wh = 0 ∨ rc = 0)) ∨ (CW R E I Bw inp ∧ CY cy ad R E I Bw inp mem)
/-- the greatest place with a bit -/
def MX (v : Int32) (i G : Nat) (r : Int32) : Prop := (r = -1 ∧ ∀ j, i ≤ j → j ≤ G → ¬ tbit v j) ∨ ∃ j, i ≤ j ∧ j ≤ G ∧ r = nI j ∧ tbit v j ∧ ∀ k, j < k → k ≤ G → ¬ tbit v k
theorem MX.one {v r r' : Int32} {i G : Nat} (h : MX v i G r) (h' : MX v i G r') : r = r' := by
  rcases h with ⟨e, h⟩ | ⟨j, j1, j2, e, j3, j4⟩
  · rcases h' with ⟨e', _⟩ | ⟨k, k1, k2, _, k3, _⟩
    · rw [e, e']
    · exact absurd k3 (h k k1 k2)
  · rcases h' with ⟨_, h'⟩ | ⟨k, k1, k2, e', k3, k4⟩
    · exact absurd j3 (h' j j1 j2)
    · rcases Nat.lt_trichotomy j k with q | q | q
      · exact absurd k3 (j4 k q k2)
      · rw [e, e', q]
      · exact absurd j3 (k4 j q j2)
set_option maxHeartbeats 4000000 in
set_option maxRecDepth 100000 in
theorem m_Ab_checkRuleY (l : Launch) {D : va_G} {cy : Nat → ClassId} {sz n : Nat} {ad : Nat → Nat} {mem : Nat → va_E} {lim rc ec : Nat} {wh : Int32} {k : Int32} (hlt : l.stackTraces = false) (hn : 224 ≤ n) (h0 : mem 0 = abC ad) (hG : GI cy ad lim rc ec wh mem) : NXv l D cy sz n ad y_Ab_checkRule c_Ab_checkRule 2 ({ frames := 6, cells := 1, slots := 6, locals := 90 } : Room) mem [.ref (ad 0), .int (k)] (fun mem' => mem' = mem ∧ ¬ k < 0 ∧ k < (if wh = 0 then 0 else nI rc)) (fun X mem' => X = cNS ∧ mem' = mem ∧ ¬ (¬ k < 0 ∧ k < (if wh = 0 then 0 else nI rc))) := by
  refine vx_ofW (cc := c_Ab_checkRule) (maxL := 2) (ret := none) (by decide) rfl ?_
  intro p e s m args below meth c s₁ B hml hno hv
  obtain ⟨rfl, E, hP, hD⟩ := hv
  have hx := B.exec
  have hb := B.bytes
  have hr := B.returns
  have hlocks := B.notSynchronized
  have Bx : MB p s m [.ref (ad 0), .int (k)].toArray c c_Ab_checkRule "AbnfChart" D cy := ⟨hx, hb, tb_all (atoms_spec B.pre) E.2.1, findClass_of_methodNamed B.named, E.1⟩
  have hS : va_S (Az sz) s.heap s.heap [] := va_S.rf
  have hl := lv_entry ([.ref (ad 0), .int (k)]) (n := 2) (Nat.le_of_ble_eq_true rfl)
  rw [lg_entry_eq]
  generalize (lg_sl ([.ref (ad 0), .int (k)]) ++ List.replicate (2 - (lg_sl ([.ref (ad 0), .int (k)])).length) Slot.unset).toArray = ls at hl ⊢
  have hl : lv_has ls 2 [(0, .ref (ad 0)), (1, .int (k))] := hl
  have hbd := hG.1
  refine lv_iload_n Bx.1 Bx.2.1 d_Ab_checkRule_0 rfl (lv_at hl 1 rfl) ?_
  refine lv_if_lt Bx.1 Bx.2.1 d_Ab_checkRule_1 rfl (fun h8 => ?_) (fun h8 => ?_)
  · exact f_throw (rest := []) hlt Bx hml hlocks hno E hP hS (by decide +kernel) kw_515 kw_14 at_Ab_NS hl.1 d_Ab_checkRule_15 d_Ab_checkRule_18 d_Ab_checkRule_19 d_Ab_checkRule_22 ⟨Nat.le_of_ble_eq_true rfl, Nat.le_of_ble_eq_true rfl, Nat.le_of_ble_eq_true rfl, Nat.le_of_ble_eq_true rfl⟩ ⟨Nat.le_of_ble_eq_true rfl, Nat.le_of_ble_eq_true rfl⟩ ⟨rfl, rfl, fun z => z.1 h8⟩
  · refine lv_iload_n Bx.1 Bx.2.1 d_Ab_checkRule_4 rfl (lv_at hl 1 rfl) ?_
    refine lv_aload_n Bx.1 Bx.2.1 d_Ab_checkRule_5 rfl (lv_at hl 0 rfl) ?_
    refine f_get Bx hP (by omega) h0 rfl inAb 2 (by decide) kw_176 rfl rfl d_Ab_checkRule_6 ?_
    refine f_callVi (na := 0) (As := []) (rest := [.int (k)]) Bx hml E hP hD hS (by omega) hG.2.1 rfl (m_Gr_ruleTotal l (by omega) hG.2.1) kw_498 kw_499 kw_500 kw_3 kw_501 (by decide +kernel) ⟨rfl, rfl⟩ ⟨Nat.le_of_ble_eq_true rfl, Nat.le_of_ble_eq_true rfl⟩ rfl hl.1 (Nat.le_of_ble_eq_true rfl) d_Ab_checkRule_9 ⟨Nat.le_of_ble_eq_true rfl, Nat.le_of_ble_eq_true rfl⟩ (fun r1 mem2 H locs hq hP hS => ?_)
    have hD : va_D (Az sz) (fw n ad mem2) := fw_D hD
    obtain ⟨hq0, hq⟩ := hq
    rw [hq] at hP hD
    subst hq0
    refine lv_icmp_lt Bx.1 Bx.2.1 d_Ab_checkRule_12 rfl (fun h7 => ?_) (fun h7 => ?_)
    · exact x_vret hx hb hlocks hr (⟨rfl, h8, h7⟩) hP hS d_Ab_checkRule_23
    · exact f_throw (rest := []) hlt Bx hml hlocks hno E hP hS (by decide +kernel) kw_515 kw_14 at_Ab_NS hl.1 d_Ab_checkRule_15 d_Ab_checkRule_18 d_Ab_checkRule_19 d_Ab_checkRule_22 ⟨Nat.le_of_ble_eq_true rfl, Nat.le_of_ble_eq_true rfl, Nat.le_of_ble_eq_true rfl, Nat.le_of_ble_eq_true rfl⟩ ⟨Nat.le_of_ble_eq_true rfl, Nat.le_of_ble_eq_true rfl⟩ ⟨rfl, rfl, fun z => h7 z.2⟩
set_option maxHeartbeats 4000000 in
set_option maxRecDepth 100000 in
theorem m_Ab_checkPieceY (l : Launch) {D : va_G} {cy : Nat → ClassId} {sz n : Nat} {ad : Nat → Nat} {mem : Nat → va_E} {I : Nat} {i j : Int32} {inp : Nat → Int32} (hlt : l.stackTraces = false) (hn : 224 ≤ n) (h0 : mem 0 = abC ad) (hY : IY cy ad I inp mem) : NXv l D cy sz n ad y_Ab_checkPiece c_Ab_checkPiece 3 ({ frames := 6, cells := 1, slots := 6, locals := 90 } : Room) mem [.ref (ad 0), .int (i), .int (j)] (fun mem' => mem' = mem ∧ ¬ i < 0 ∧ ¬ j < i ∧ j ≤ nI I) (fun X mem' => X = cIO ∧ mem' = mem ∧ ¬ (¬ i < 0 ∧ ¬ j < i ∧ j ≤ nI I)) := by
  refine vx_ofW (cc := c_Ab_checkPiece) (maxL := 3) (ret := none) (by decide) rfl ?_
  intro p e s m args below meth c s₁ B hml hno hv
  obtain ⟨rfl, E, hP, hD⟩ := hv
  have hx := B.exec
  have hb := B.bytes
  have hr := B.returns
  have hlocks := B.notSynchronized
  have Bx : MB p s m [.ref (ad 0), .int (i), .int (j)].toArray c c_Ab_checkPiece "AbnfChart" D cy := ⟨hx, hb, tb_all (atoms_spec B.pre) E.2.1, findClass_of_methodNamed B.named, E.1⟩
  have hS : va_S (Az sz) s.heap s.heap [] := va_S.rf
  have hl := lv_entry ([.ref (ad 0), .int (i), .int (j)]) (n := 3) (Nat.le_of_ble_eq_true rfl)
  rw [lg_entry_eq]
  generalize (lg_sl ([.ref (ad 0), .int (i), .int (j)]) ++ List.replicate (3 - (lg_sl ([.ref (ad 0), .int (i), .int (j)])).length) Slot.unset).toArray = ls at hl ⊢
  have hl : lv_has ls 3 [(0, .ref (ad 0)), (1, .int (i)), (2, .int (j))] := hl
  refine lv_iload_n Bx.1 Bx.2.1 d_Ab_checkPiece_0 rfl (lv_at hl 1 rfl) ?_
  refine lv_if_lt Bx.1 Bx.2.1 d_Ab_checkPiece_1 rfl (fun h8 => ?_) (fun h8 => ?_)
  · exact f_throw (rest := []) hlt Bx hml hlocks hno E hP hS (by decide +kernel) kw_552 kw_15 at_Ab_IO hl.1 d_Ab_checkPiece_20 d_Ab_checkPiece_23 d_Ab_checkPiece_24 d_Ab_checkPiece_27 ⟨Nat.le_of_ble_eq_true rfl, Nat.le_of_ble_eq_true rfl, Nat.le_of_ble_eq_true rfl, Nat.le_of_ble_eq_true rfl⟩ ⟨Nat.le_of_ble_eq_true rfl, Nat.le_of_ble_eq_true rfl⟩ ⟨rfl, rfl, fun z => z.1 h8⟩
  · refine lv_iload_n Bx.1 Bx.2.1 d_Ab_checkPiece_4 rfl (lv_at hl 2 rfl) ?_
    refine lv_iload_n Bx.1 Bx.2.1 d_Ab_checkPiece_5 rfl (lv_at hl 1 rfl) ?_
    refine lv_icmp_lt Bx.1 Bx.2.1 d_Ab_checkPiece_6 rfl (fun h7 => ?_) (fun h7 => ?_)
    · exact f_throw (rest := []) hlt Bx hml hlocks hno E hP hS (by decide +kernel) kw_552 kw_15 at_Ab_IO hl.1 d_Ab_checkPiece_20 d_Ab_checkPiece_23 d_Ab_checkPiece_24 d_Ab_checkPiece_27 ⟨Nat.le_of_ble_eq_true rfl, Nat.le_of_ble_eq_true rfl, Nat.le_of_ble_eq_true rfl, Nat.le_of_ble_eq_true rfl⟩ ⟨Nat.le_of_ble_eq_true rfl, Nat.le_of_ble_eq_true rfl⟩ ⟨rfl, rfl, fun z => z.2.1 h7⟩
    · refine lv_iload_n Bx.1 Bx.2.1 d_Ab_checkPiece_9 rfl (lv_at hl 2 rfl) ?_
      refine lv_aload_n Bx.1 Bx.2.1 d_Ab_checkPiece_10 rfl (lv_at hl 0 rfl) ?_
      refine f_get Bx hP (by omega) h0 rfl inAb 1 (by decide) kw_175 rfl rfl d_Ab_checkPiece_11 ?_
      refine f_getN Bx hP (by omega) hY.1 rfl inCh 1 (by decide) kw_34 rfl rfl d_Ab_checkPiece_14 ?_
      refine lv_icmp_le Bx.1 Bx.2.1 d_Ab_checkPiece_17 rfl (fun h6 => ?_) (fun h6 => ?_)
      · exact x_vret hx hb hlocks hr (⟨rfl, h8, h7, h6⟩) hP hS d_Ab_checkPiece_28
      · exact f_throw (rest := []) hlt Bx hml hlocks hno E hP hS (by decide +kernel) kw_552 kw_15 at_Ab_IO hl.1 d_Ab_checkPiece_20 d_Ab_checkPiece_23 d_Ab_checkPiece_24 d_Ab_checkPiece_27 ⟨Nat.le_of_ble_eq_true rfl, Nat.le_of_ble_eq_true rfl, Nat.le_of_ble_eq_true rfl, Nat.le_of_ble_eq_true rfl⟩ ⟨Nat.le_of_ble_eq_true rfl, Nat.le_of_ble_eq_true rfl⟩ ⟨rfl, rfl, fun z => h6 z.2.2⟩
set_option maxHeartbeats 4000000 in
set_option maxRecDepth 100000 in
theorem m_Ab_matchesN (l : Launch) {D : va_G} {cy : Nat → ClassId} {sz n : Nat} {ad : Nat → Nat} {mem : Nat → va_E} {R Eb I : Nat} {Bw : Ro} {inp : Nat → Int32} {lim rc ec : Nat} {wh : Int32} {i1 i2 i3 : Int32} (hlt : l.stackTraces = false) (hn : 224 ≤ n) (h0 : mem 0 = abC ad) (hY : IY cy ad I inp mem) (hR0 : R = 0) (hG : GI cy ad lim rc ec wh mem) (hz : wh = 0 ∨ rc = 0) : NXi l D cy sz n ad y_Ab_matches c_Ab_matches 4 (some .boolean) ({ frames := 8, cells := 1, slots := 6, locals := 260 } : Room) mem [.ref (ad 0), .int (i1), .int (i2), .int (i3)] (fun r mem' => CY cy ad R Eb I Bw inp mem' ∧ (∀ i, i ≠ 223 → i < 20 ∨ 222 ≤ i → mem' i = mem i) ∧ ∃ ra ia ja : Nat, ra < R ∧ ia ≤ ja ∧ ja ≤ I ∧ i1 = nI ra ∧ i2 = nI ia ∧ i3 = nI ja ∧ r = (if (VV Bw inp I Eb ra ia >>> (nI ja &&& 31)) &&& 1 = 1 then 1 else 0)) (fun X mem' => mem' = mem ∧ ((X = cNS ∧ ¬ RK R (i1)) ∨ (X = cIO ∧ RK R (i1) ∧ ¬ PK I (i2) (i3)))) := by
  refine vx_ofW (cc := c_Ab_matches) (maxL := 4) (ret := (some .boolean)) (by decide) rfl ?_
  intro p e s m args below meth c s₁ B hml hno hv
  obtain ⟨rfl, E, hP, hD⟩ := hv
  have hx := B.exec
  have hb := B.bytes
  have hr := B.returns
  have hlocks := B.notSynchronized
  have Bx : MB p s m [.ref (ad 0), .int (i1), .int (i2), .int (i3)].toArray c c_Ab_matches "AbnfChart" D cy := ⟨hx, hb, tb_all (atoms_spec B.pre) E.2.1, findClass_of_methodNamed B.named, E.1⟩
  have hS : va_S (Az sz) s.heap s.heap [] := va_S.rf
  have hl := lv_entry ([.ref (ad 0), .int (i1), .int (i2), .int (i3)]) (n := 4) (Nat.le_of_ble_eq_true rfl)
  rw [lg_entry_eq]
  generalize (lg_sl ([.ref (ad 0), .int (i1), .int (i2), .int (i3)]) ++ List.replicate (4 - (lg_sl ([.ref (ad 0), .int (i1), .int (i2), .int (i3)])).length) Slot.unset).toArray = ls at hl ⊢
  have hl : lv_has ls 4 [(0, .ref (ad 0)), (1, .int (i1)), (2, .int (i2)), (3, .int (i3))] := hl
  have hbd := hG.1
  refine lv_aload_n Bx.1 Bx.2.1 d_Ab_matches_0 rfl (lv_at hl 0 rfl) ?_
  refine lv_iload_n Bx.1 Bx.2.1 d_Ab_matches_1 rfl (lv_at hl 1 rfl) ?_
  refine f_xVv (na := 1) (As := [.int (i1)]) (rest := []) Bx hml E hP hD hS (by omega) h0 rfl (m_Ab_checkRuleY l hlt hn h0 hG) kw_511 kw_513 sel_Ab_checkRule kw_1 kw_514 (by decide +kernel) ⟨rfl, rfl⟩ ⟨Nat.le_of_ble_eq_true rfl, Nat.le_of_ble_eq_true rfl⟩ rfl hl.1 (Nat.le_of_ble_eq_true rfl) d_Ab_matches_2 ⟨Nat.le_of_ble_eq_true rfl, Nat.le_of_ble_eq_true rfl⟩ (fun X ce q9 memx H locs hx9 hP hS g1 g2 g3 => f_out hlocks hno hP hS g1 g2 g3 ⟨Nat.le_of_ble_eq_true rfl, Nat.le_of_ble_eq_true rfl⟩ ⟨hx9.2.1, Or.inl ⟨hx9.1, by rw [hR0]; exact RK.zero⟩⟩) (fun mem2 H locs hq hP hS => ?_)
  have hD : va_D (Az sz) (fw n ad mem2) := fw_D hD
  exact (no_rul9 hz hq.2.1 hq.2.2).elim
set_option maxHeartbeats 4000000 in
set_option maxRecDepth 100000 in
theorem m_Ab_matchesC (l : Launch) {D : va_G} {cy : Nat → ClassId} {sz n : Nat} {ad : Nat → Nat} {mem : Nat → va_E} {R Eb I : Nat} {Bw : Ro} {inp : Nat → Int32} {i1 i2 i3 : Int32} (hlt : l.stackTraces = false) (hn : 224 ≤ n) (h0 : mem 0 = abC ad) (hY : IY cy ad I inp mem) (hW : CW R Eb I Bw inp) (hC : CY cy ad R Eb I Bw inp mem) : NXi l D cy sz n ad y_Ab_matches c_Ab_matches 4 (some .boolean) ({ frames := 8, cells := 1, slots := 6, locals := 260 } : Room) mem [.ref (ad 0), .int (i1), .int (i2), .int (i3)] (fun r mem' => CY cy ad R Eb I Bw inp mem' ∧ (∀ i, i ≠ 223 → i < 20 ∨ 222 ≤ i → mem' i = mem i) ∧ ∃ ra ia ja : Nat, ra < R ∧ ia ≤ ja ∧ ja ≤ I ∧ i1 = nI ra ∧ i2 = nI ia ∧ i3 = nI ja ∧ r = (if (VV Bw inp I Eb ra ia >>> (nI ja &&& 31)) &&& 1 = 1 then 1 else 0)) (fun X mem' => mem' = mem ∧ ((X = cNS ∧ ¬ RK R (i1)) ∨ (X = cIO ∧ RK R (i1) ∧ ¬ PK I (i2) (i3)))) := by
  refine vx_ofW (cc := c_Ab_matches) (maxL := 4) (ret := (some .boolean)) (by decide) rfl ?_
  intro p e s m args below meth c s₁ B hml hno hv
  obtain ⟨rfl, E, hP, hD⟩ := hv
  have hx := B.exec
  have hb := B.bytes
  have hr := B.returns
  have hlocks := B.notSynchronized
  have Bx : MB p s m [.ref (ad 0), .int (i1), .int (i2), .int (i3)].toArray c c_Ab_matches "AbnfChart" D cy := ⟨hx, hb, tb_all (atoms_spec B.pre) E.2.1, findClass_of_methodNamed B.named, E.1⟩
  have hS : va_S (Az sz) s.heap s.heap [] := va_S.rf
  have hl := lv_entry ([.ref (ad 0), .int (i1), .int (i2), .int (i3)]) (n := 4) (Nat.le_of_ble_eq_true rfl)
  rw [lg_entry_eq]
  generalize (lg_sl ([.ref (ad 0), .int (i1), .int (i2), .int (i3)]) ++ List.replicate (4 - (lg_sl ([.ref (ad 0), .int (i1), .int (i2), .int (i3)])).length) Slot.unset).toArray = ls at hl ⊢
  have hl : lv_has ls 4 [(0, .ref (ad 0)), (1, .int (i1)), (2, .int (i2)), (3, .int (i3))] := hl
  obtain ⟨lim, fl, g, hG, hE, -, hc, hf⟩ := id hC
  have hbd := hG.1
  have hbI := hY.2.1
  refine lv_aload_n Bx.1 Bx.2.1 d_Ab_matches_0 rfl (lv_at hl 0 rfl) ?_
  refine lv_iload_n Bx.1 Bx.2.1 d_Ab_matches_1 rfl (lv_at hl 1 rfl) ?_
  refine f_xVv (na := 1) (As := [.int (i1)]) (rest := []) Bx hml E hP hD hS (by omega) h0 rfl (m_Ab_checkRuleY l hlt hn h0 hG) kw_511 kw_513 sel_Ab_checkRule kw_1 kw_514 (by decide +kernel) ⟨rfl, rfl⟩ ⟨Nat.le_of_ble_eq_true rfl, Nat.le_of_ble_eq_true rfl⟩ rfl hl.1 (Nat.le_of_ble_eq_true rfl) d_Ab_matches_2 ⟨Nat.le_of_ble_eq_true rfl, Nat.le_of_ble_eq_true rfl⟩ (fun X ce q9 memx H locs hx9 hP hS g1 g2 g3 => f_out hlocks hno hP hS g1 g2 g3 ⟨Nat.le_of_ble_eq_true rfl, Nat.le_of_ble_eq_true rfl⟩ ⟨hx9.2.1, Or.inl ⟨hx9.1, RK.no hbd.1 (by decide) hx9.2.2⟩⟩) (fun mem2 H locs hq hP hS => ?_)
  have hD : va_D (Az sz) (fw n ad mem2) := fw_D hD
  obtain ⟨hq, hk1, hk2⟩ := hq
  rw [hq] at hP hD
  obtain ⟨r0, hr0, rfl⟩ := rl_ok hbd.1 hk1 hk2
  refine lv_aload_n Bx.1 Bx.2.1 d_Ab_matches_5 rfl (lv_at hl 0 rfl) ?_
  refine lv_iload_n Bx.1 Bx.2.1 d_Ab_matches_6 rfl (lv_at hl 2 rfl) ?_
  refine lv_iload_n Bx.1 Bx.2.1 d_Ab_matches_7 rfl (lv_at hl 3 rfl) ?_
  refine f_xVv (na := 2) (As := [.int (i2), .int (i3)]) (rest := []) Bx hml E hP hD hS (by omega) h0 rfl (m_Ab_checkPieceY l hlt hn h0 hY) kw_548 kw_550 sel_Ab_checkPiece kw_1 kw_551 (by decide +kernel) ⟨rfl, rfl⟩ ⟨Nat.le_of_ble_eq_true rfl, Nat.le_of_ble_eq_true rfl⟩ rfl hl.1 (Nat.le_of_ble_eq_true rfl) d_Ab_matches_8 ⟨Nat.le_of_ble_eq_true rfl, Nat.le_of_ble_eq_true rfl⟩ (fun X ce q9 memx H locs hx9 hP hS g1 g2 g3 => f_out hlocks hno hP hS g1 g2 g3 ⟨Nat.le_of_ble_eq_true rfl, Nat.le_of_ble_eq_true rfl⟩ ⟨hx9.2.1, Or.inr ⟨hx9.1, ⟨r0, hr0, rfl⟩, PK.no hbI hx9.2.2⟩⟩) (fun mem4 H locs hq hP hS => ?_)
  have hD : va_D (Az sz) (fw n ad mem4) := fw_D hD
  obtain ⟨hq, hp1, hp2, hp3⟩ := hq
  rw [hq] at hP hD
  obtain ⟨i0, j0, hij, hj0, rfl, rfl⟩ := PK.yes hbI hp1 hp2 hp3
  have hi0 : i0 ≤ I := by omega
  refine lv_aload_n Bx.1 Bx.2.1 d_Ab_matches_11 rfl (lv_at hl 0 rfl) ?_
  refine f_get Bx hP (by omega) h0 rfl inAb 4 (by decide) kw_178 rfl rfl d_Ab_matches_12 ?_
  refine lv_iload_n Bx.1 Bx.2.1 d_Ab_matches_15 rfl (lv_at hl 1 rfl) ?_
  refine lv_iload_n Bx.1 Bx.2.1 d_Ab_matches_16 rfl (lv_at hl 2 rfl) ?_
  refine f_callVi (na := 2) (As := [.int (nI r0), .int (nI i0)]) (rest := []) Bx hml E hP hD hS (by omega) hc rfl (m_Ct_endsOfX l (lim := lim) (wh := 1) (m0 := mem) hn hY ⟨hG, hc, fun _ _ => rfl⟩ hE hi0 hr0) kw_567 kw_568 kw_569 kw_7 kw_570 (by decide +kernel) ⟨rfl, rfl⟩ ⟨Nat.le_of_ble_eq_true rfl, Nat.le_of_ble_eq_true rfl⟩ rfl hl.1 (Nat.le_of_ble_eq_true rfl) d_Ab_matches_17 ⟨Nat.le_of_ble_eq_true rfl, Nat.le_of_ble_eq_true rfl⟩ (fun r5 mem6 H locs hqe hP hS => ?_)
  have hD : va_D (Az sz) (fw n ad mem6) := fw_D hD
  obtain ⟨fl2, g2, hq1, hq2, hq3, hq4, hq5⟩ := hqe
  obtain ⟨hCn7, hv, hFn8⟩ := CY.look hW hY hf hq1 hq2 hq3 hq4 hq5 hr0 hi0
  subst hv
  refine lv_iload_n Bx.1 Bx.2.1 d_Ab_matches_20 rfl (lv_at hl 3 rfl) ?_
  refine lv_ishr Bx.1 Bx.2.1 d_Ab_matches_21 ?_
  refine lv_iconst (v := 1) Bx.1 Bx.2.1 d_Ab_matches_22 (by decide) ?_
  refine lv_iand Bx.1 Bx.2.1 d_Ab_matches_23 ?_
  refine lv_iconst (v := 1) Bx.1 Bx.2.1 d_Ab_matches_24 (by decide) ?_
  refine lv_icmp_ne Bx.1 Bx.2.1 d_Ab_matches_25 rfl (fun hbt => ?_) (fun hbt => ?_)
  · refine lv_iconst (v := 0) Bx.1 Bx.2.1 d_Ab_matches_32 (by decide) ?_
    exact x_zret hx hb hlocks hr rfl (⟨hCn7, hFn8, r0, i0, j0, hr0, hij, hj0, rfl, rfl, rfl, by rw [if_neg hbt]⟩) hP hS d_Ab_matches_33
  · refine lv_iconst (v := 1) Bx.1 Bx.2.1 d_Ab_matches_28 (by decide) ?_
    refine lv_goto Bx.1 Bx.2.1 d_Ab_matches_29 rfl ?_
    exact x_zret hx hb hlocks hr rfl (⟨hCn7, hFn8, r0, i0, j0, hr0, hij, hj0, rfl, rfl, rfl, by rw [if_pos hbt]⟩) hP hS d_Ab_matches_33
theorem m_Ab_matchesY (l : Launch) {D : va_G} {cy : Nat → ClassId} {sz n : Nat} {ad : Nat → Nat} {mem : Nat → va_E} {R Eb I : Nat} {Bw : Ro} {inp : Nat → Int32} {i1 i2 i3 : Int32} (hlt : l.stackTraces = false) (hn : 224 ≤ n) (h0 : mem 0 = abC ad) (hY : IY cy ad I inp mem) (hQ : QY cy ad R Eb I Bw inp mem) : NXi l D cy sz n ad y_Ab_matches c_Ab_matches 4 (some .boolean) ({ frames := 8, cells := 1, slots := 6, locals := 260 } : Room) mem [.ref (ad 0), .int (i1), .int (i2), .int (i3)] (fun r mem' => CY cy ad R Eb I Bw inp mem' ∧ (∀ i, i ≠ 223 → i < 20 ∨ 222 ≤ i → mem' i = mem i) ∧ ∃ ra ia ja : Nat, ra < R ∧ ia ≤ ja ∧ ja ≤ I ∧ i1 = nI ra ∧ i2 = nI ia ∧ i3 = nI ja ∧ r = (if (VV Bw inp I Eb ra ia >>> (nI ja &&& 31)) &&& 1 = 1 then 1 else 0)) (fun X mem' => mem' = mem ∧ ((X = cNS ∧ ¬ RK R (i1)) ∨ (X = cIO ∧ RK R (i1) ∧ ¬ PK I (i2) (i3)))) := by
  rcases hQ with ⟨e, lim, rc, ec, wh, hG, hz⟩ | ⟨hW, hC⟩
  · exact m_Ab_matchesN l hlt hn h0 hY e hG hz
  · exact m_Ab_matchesC l hlt hn h0 hY hW hC
set_option maxHeartbeats 4000000 in
set_option maxRecDepth 100000 in
theorem m_Ab_longestN (l : Launch) {D : va_G} {cy : Nat → ClassId} {sz n : Nat} {ad : Nat → Nat} {mem : Nat → va_E} {R Eb I : Nat} {Bw : Ro} {inp : Nat → Int32} {lim rc ec : Nat} {wh : Int32} {i1 i2 : Int32} (hlt : l.stackTraces = false) (hn : 224 ≤ n) (h0 : mem 0 = abC ad) (hY : IY cy ad I inp mem) (hR0 : R = 0) (hG : GI cy ad lim rc ec wh mem) (hz : wh = 0 ∨ rc = 0) : NXi l D cy sz n ad y_Ab_longest c_Ab_longest 5 (some .int) ({ frames := 8, cells := 1, slots := 6, locals := 260 } : Room) mem [.ref (ad 0), .int (i1), .int (i2)] (fun r mem' => CY cy ad R Eb I Bw inp mem' ∧ (∀ i, i ≠ 223 → i < 20 ∨ 222 ≤ i → mem' i = mem i) ∧ ∃ ra ia : Nat, ra < R ∧ ia ≤ I ∧ i1 = nI ra ∧ i2 = nI ia ∧ MX (VV Bw inp I Eb ra ia) ia I r) (fun X mem' => mem' = mem ∧ ((X = cNS ∧ ¬ RK R (i1)) ∨ (X = cIO ∧ RK R (i1) ∧ ¬ PK I (i2) (i2)))) := by
  refine vx_ofW (cc := c_Ab_longest) (maxL := 5) (ret := (some .int)) (by decide) rfl ?_
  intro p e s m args below meth c s₁ B hml hno hv
  obtain ⟨rfl, E, hP, hD⟩ := hv
  have hx := B.exec
  have hb := B.bytes
  have hr := B.returns
  have hlocks := B.notSynchronized
  have Bx : MB p s m [.ref (ad 0), .int (i1), .int (i2)].toArray c c_Ab_longest "AbnfChart" D cy := ⟨hx, hb, tb_all (atoms_spec B.pre) E.2.1, findClass_of_methodNamed B.named, E.1⟩
  have hS : va_S (Az sz) s.heap s.heap [] := va_S.rf
  have hl := lv_entry ([.ref (ad 0), .int (i1), .int (i2)]) (n := 5) (Nat.le_of_ble_eq_true rfl)
  rw [lg_entry_eq]
  generalize (lg_sl ([.ref (ad 0), .int (i1), .int (i2)]) ++ List.replicate (5 - (lg_sl ([.ref (ad 0), .int (i1), .int (i2)])).length) Slot.unset).toArray = ls at hl ⊢
  have hl : lv_has ls 5 [(0, .ref (ad 0)), (1, .int (i1)), (2, .int (i2))] := hl
  have hbd := hG.1
  refine lv_aload_n Bx.1 Bx.2.1 d_Ab_longest_0 rfl (lv_at hl 0 rfl) ?_
  refine lv_iload_n Bx.1 Bx.2.1 d_Ab_longest_1 rfl (lv_at hl 1 rfl) ?_
  refine f_xVv (na := 1) (As := [.int (i1)]) (rest := []) Bx hml E hP hD hS (by omega) h0 rfl (m_Ab_checkRuleY l hlt hn h0 hG) kw_511 kw_513 sel_Ab_checkRule kw_1 kw_514 (by decide +kernel) ⟨rfl, rfl⟩ ⟨Nat.le_of_ble_eq_true rfl, Nat.le_of_ble_eq_true rfl⟩ rfl hl.1 (Nat.le_of_ble_eq_true rfl) d_Ab_longest_2 ⟨Nat.le_of_ble_eq_true rfl, Nat.le_of_ble_eq_true rfl⟩ (fun X ce q9 memx H locs hx9 hP hS g1 g2 g3 => f_out hlocks hno hP hS g1 g2 g3 ⟨Nat.le_of_ble_eq_true rfl, Nat.le_of_ble_eq_true rfl⟩ ⟨hx9.2.1, Or.inl ⟨hx9.1, by rw [hR0]; exact RK.zero⟩⟩) (fun mem2 H locs hq hP hS => ?_)
  have hD : va_D (Az sz) (fw n ad mem2) := fw_D hD
  exact (no_rul9 hz hq.2.1 hq.2.2).elim
set_option maxHeartbeats 4000000 in
set_option maxRecDepth 100000 in
theorem m_Ab_longestC (l : Launch) {D : va_G} {cy : Nat → ClassId} {sz n : Nat} {ad : Nat → Nat} {mem : Nat → va_E} {R Eb I : Nat} {Bw : Ro} {inp : Nat → Int32} {i1 i2 : Int32} (hlt : l.stackTraces = false) (hn : 224 ≤ n) (h0 : mem 0 = abC ad) (hY : IY cy ad I inp mem) (hW : CW R Eb I Bw inp) (hC : CY cy ad R Eb I Bw inp mem) : NXi l D cy sz n ad y_Ab_longest c_Ab_longest 5 (some .int) ({ frames := 8, cells := 1, slots := 6, locals := 260 } : Room) mem [.ref (ad 0), .int (i1), .int (i2)] (fun r mem' => CY cy ad R Eb I Bw inp mem' ∧ (∀ i, i ≠ 223 → i < 20 ∨ 222 ≤ i → mem' i = mem i) ∧ ∃ ra ia : Nat, ra < R ∧ ia ≤ I ∧ i1 = nI ra ∧ i2 = nI ia ∧ MX (VV Bw inp I Eb ra ia) ia I r) (fun X mem' => mem' = mem ∧ ((X = cNS ∧ ¬ RK R (i1)) ∨ (X = cIO ∧ RK R (i1) ∧ ¬ PK I (i2) (i2)))) := by
  refine vx_ofW (cc := c_Ab_longest) (maxL := 5) (ret := (some .int)) (by decide) rfl ?_
  intro p e s m args below meth c s₁ B hml hno hv
  obtain ⟨rfl, E, hP, hD⟩ := hv
  have hx := B.exec
  have hb := B.bytes
  have hr := B.returns
  have hlocks := B.notSynchronized
  have Bx : MB p s m [.ref (ad 0), .int (i1), .int (i2)].toArray c c_Ab_longest "AbnfChart" D cy := ⟨hx, hb, tb_all (atoms_spec B.pre) E.2.1, findClass_of_methodNamed B.named, E.1⟩
  have hS : va_S (Az sz) s.heap s.heap [] := va_S.rf
  have hl := lv_entry ([.ref (ad 0), .int (i1), .int (i2)]) (n := 5) (Nat.le_of_ble_eq_true rfl)
  rw [lg_entry_eq]
  generalize (lg_sl ([.ref (ad 0), .int (i1), .int (i2)]) ++ List.replicate (5 - (lg_sl ([.ref (ad 0), .int (i1), .int (i2)])).length) Slot.unset).toArray = ls at hl ⊢
  have hl : lv_has ls 5 [(0, .ref (ad 0)), (1, .int (i1)), (2, .int (i2))] := hl
  obtain ⟨lim, fl, g, hG, hE, -, hc, hf⟩ := id hC
  have hbd := hG.1
  have hbI := hY.2.1
  refine lv_aload_n Bx.1 Bx.2.1 d_Ab_longest_0 rfl (lv_at hl 0 rfl) ?_
  refine lv_iload_n Bx.1 Bx.2.1 d_Ab_longest_1 rfl (lv_at hl 1 rfl) ?_
  refine f_xVv (na := 1) (As := [.int (i1)]) (rest := []) Bx hml E hP hD hS (by omega) h0 rfl (m_Ab_checkRuleY l hlt hn h0 hG) kw_511 kw_513 sel_Ab_checkRule kw_1 kw_514 (by decide +kernel) ⟨rfl, rfl⟩ ⟨Nat.le_of_ble_eq_true rfl, Nat.le_of_ble_eq_true rfl⟩ rfl hl.1 (Nat.le_of_ble_eq_true rfl) d_Ab_longest_2 ⟨Nat.le_of_ble_eq_true rfl, Nat.le_of_ble_eq_true rfl⟩ (fun X ce q9 memx H locs hx9 hP hS g1 g2 g3 => f_out hlocks hno hP hS g1 g2 g3 ⟨Nat.le_of_ble_eq_true rfl, Nat.le_of_ble_eq_true rfl⟩ ⟨hx9.2.1, Or.inl ⟨hx9.1, RK.no hbd.1 (by decide) hx9.2.2⟩⟩) (fun mem2 H locs hq hP hS => ?_)
  have hD : va_D (Az sz) (fw n ad mem2) := fw_D hD
  obtain ⟨hq, hk1, hk2⟩ := hq
  rw [hq] at hP hD
  obtain ⟨r0, hr0, rfl⟩ := rl_ok hbd.1 hk1 hk2
  refine lv_aload_n Bx.1 Bx.2.1 d_Ab_longest_5 rfl (lv_at hl 0 rfl) ?_
  refine lv_iload_n Bx.1 Bx.2.1 d_Ab_longest_6 rfl (lv_at hl 2 rfl) ?_
  refine lv_iload_n Bx.1 Bx.2.1 d_Ab_longest_7 rfl (lv_at hl 2 rfl) ?_
  refine f_xVv (na := 2) (As := [.int (i2), .int (i2)]) (rest := []) Bx hml E hP hD hS (by omega) h0 rfl (m_Ab_checkPieceY l hlt hn h0 hY) kw_548 kw_550 sel_Ab_checkPiece kw_1 kw_551 (by decide +kernel) ⟨rfl, rfl⟩ ⟨Nat.le_of_ble_eq_true rfl, Nat.le_of_ble_eq_true rfl⟩ rfl hl.1 (Nat.le_of_ble_eq_true rfl) d_Ab_longest_8 ⟨Nat.le_of_ble_eq_true rfl, Nat.le_of_ble_eq_true rfl⟩ (fun X ce q9 memx H locs hx9 hP hS g1 g2 g3 => f_out hlocks hno hP hS g1 g2 g3 ⟨Nat.le_of_ble_eq_true rfl, Nat.le_of_ble_eq_true rfl⟩ ⟨hx9.2.1, Or.inr ⟨hx9.1, ⟨r0, hr0, rfl⟩, PK.no hbI hx9.2.2⟩⟩) (fun mem4 H locs hq hP hS => ?_)
  have hD : va_D (Az sz) (fw n ad mem4) := fw_D hD
  obtain ⟨hq, hp1, hp2, hp3⟩ := hq
  rw [hq] at hP hD
  obtain ⟨i0, j9, hij, hj9, rfl, -⟩ := PK.yes hbI hp1 hp2 hp3
  have hi0 : i0 ≤ I := by omega
  refine lv_aload_n Bx.1 Bx.2.1 d_Ab_longest_11 rfl (lv_at hl 0 rfl) ?_
  refine f_get Bx hP (by omega) h0 rfl inAb 4 (by decide) kw_178 rfl rfl d_Ab_longest_12 ?_
  refine lv_iload_n Bx.1 Bx.2.1 d_Ab_longest_15 rfl (lv_at hl 1 rfl) ?_
  refine lv_iload_n Bx.1 Bx.2.1 d_Ab_longest_16 rfl (lv_at hl 2 rfl) ?_
  refine f_callVi (na := 2) (As := [.int (nI r0), .int (nI i0)]) (rest := []) Bx hml E hP hD hS (by omega) hc rfl (m_Ct_endsOfX l (lim := lim) (wh := 1) (m0 := mem) hn hY ⟨hG, hc, fun _ _ => rfl⟩ hE hi0 hr0) kw_567 kw_568 kw_569 kw_7 kw_570 (by decide +kernel) ⟨rfl, rfl⟩ ⟨Nat.le_of_ble_eq_true rfl, Nat.le_of_ble_eq_true rfl⟩ rfl hl.1 (Nat.le_of_ble_eq_true rfl) d_Ab_longest_17 ⟨Nat.le_of_ble_eq_true rfl, Nat.le_of_ble_eq_true rfl⟩ (fun r5 mem6 H locs hqe hP hS => ?_)
  have hD : va_D (Az sz) (fw n ad mem6) := fw_D hD
  obtain ⟨fl2, g2, hq1, hq2, hq3, hq4, hq5⟩ := hqe
  obtain ⟨hCn7, hv, hFn8⟩ := CY.look hW hY hf hq1 hq2 hq3 hq4 hq5 hr0 hi0
  subst hv
  have e0 : mem6 0 = abC ad := (hFn8 0 (by omega) (by omega)).trans h0
  have e3 : mem6 3 = .inr (0, [.ref (ad 4), .int (nI I)]) := (hFn8 3 (by omega) (by omega)).trans hY.1
  refine lv_istore_n (lv' := [(3, .int (VV Bw inp I Eb r0 i0)), (0, .ref (ad 0)), (1, .int (nI r0)), (2, .int (nI i0))]) Bx.1 Bx.2.1 d_Ab_longest_20 rfl hl (by decide) rfl (fun ls hl => ?_)
  refine lv_aload_n Bx.1 Bx.2.1 d_Ab_longest_21 rfl (lv_at hl 1 rfl) ?_
  refine f_get Bx hP (by omega) e0 rfl inAb 1 (by decide) kw_175 rfl rfl d_Ab_longest_22 ?_
  refine f_getN Bx hP (by omega) e3 rfl inCh 1 (by decide) kw_34 rfl rfl d_Ab_longest_25 ?_
  refine lv_istore (lv' := [(4, .int (nI I)), (3, .int (VV Bw inp I Eb r0 i0)), (0, .ref (ad 0)), (1, .int (nI r0)), (2, .int (nI i0))]) Bx.1 Bx.2.1 d_Ab_longest_28 hl (by decide) rfl (fun ls hl => ?_)
  have loop9 : ∀ (d10 : Nat) (jj : Nat) (ls : Array Slot) (H : Heap) (locs : List Loc), (jj < d10) → (jj ≤ I + 1) → (∀ k, jj ≤ k → k ≤ I → ¬ tbit (VV Bw inp I Eb r0 i0) k) → (va_P D vcl (fw n ad mem6) H) → (va_D (Az sz) (fw n ad mem6)) → (va_S (Az sz) s.heap H locs) → (lv_has ls 5 [(4, .int (nI jj + (-1))), (3, .int (VV Bw inp I Eb r0 i0)), (0, .ref (ad 0)), (1, .int (nI r0)), (2, .int (nI i0))]) → W p l e (headSpec (Cond.code y_Ab_longest c_Ab_longest 5 (some .int) :: tg) ({ frames := 8, cells := 1, slots := 6, locals := 260 } : Room)).room s m [.ref (ad 0), .int (nI r0), .int (nI i0)].toArray below meth c H locs 0 0 (vx_MQ below (QX (va_Qi (fun r mem' => CY cy ad R Eb I Bw inp mem' ∧ (∀ i, i ≠ 223 → i < 20 ∨ 222 ≤ i → mem' i = mem i) ∧ ∃ ra ia : Nat, ra < R ∧ ia ≤ I ∧ nI r0 = nI ra ∧ nI i0 = nI ia ∧ MX (VV Bw inp I Eb ra ia) ia I r) (PP D n ad) (Az sz))) (XQ D sz n ad (fun X mem' => mem' = mem ∧ ((X = cNS ∧ ¬ RK R (nI r0)) ∨ (X = cIO ∧ RK R (nI r0) ∧ ¬ PK I (nI i0) (nI i0))))) [.ref (ad 0), .int (nI r0), .int (nI i0)].toArray s 1 6 (Az sz)) (F0 m 30 ls []) := by
    intro d10
    induction d10 with
    | zero => intro jj ls H locs hmeas14; exact absurd hmeas14 (Nat.not_lt_zero _)
    | succ d10 ih13 =>
      intro jj ls H locs hmeas14 hz11 hz12 hP hD hS hl
      refine lv_iload Bx.1 Bx.2.1 d_Ab_longest_30 (lv_at hl 0 rfl) ?_
      refine lv_iload_n Bx.1 Bx.2.1 d_Ab_longest_32 rfl (lv_at hl 4 rfl) ?_
      refine lv_icmp_lt Bx.1 Bx.2.1 d_Ab_longest_33 rfl (fun hk => ?_) (fun hk => ?_)
      · have hall : ∀ k, i0 ≤ k → k ≤ I → ¬ tbit (VV Bw inp I Eb r0 i0) k := by
          intro k k1 k2
          refine hz12 k ?_ k2
          rcases jj with _ | j
          · omega
          · rw [nI_m1] at hk
            have := (nI_ltI (by omega) (by omega)).mp hk
            omega
        refine lv_iconst (v := -1) Bx.1 Bx.2.1 d_Ab_longest_55 (by decide) ?_
        exact x_iret hx hb hlocks hr (⟨hCn7, hFn8, r0, i0, hr0, hi0, rfl, rfl, Or.inl ⟨rfl, hall⟩⟩) hP hS d_Ab_longest_56
      · obtain ⟨j, rfl⟩ : ∃ j, jj = j + 1 := by
          rcases jj with _ | j
          · exact absurd (by rw [nI_0m1]; exact m1_lt (by omega)) hk
          · exact ⟨j, rfl⟩
        rw [nI_m1] at hl hk
        have hij2 : i0 ≤ j := by rcases Nat.lt_or_ge j i0 with q | q; exact absurd ((nI_ltI (by omega) (by omega)).mpr q) hk; exact q
        refine lv_iload_n Bx.1 Bx.2.1 d_Ab_longest_36 rfl (lv_at hl 1 rfl) ?_
        refine lv_iload Bx.1 Bx.2.1 d_Ab_longest_37 (lv_at hl 0 rfl) ?_
        refine lv_ishr Bx.1 Bx.2.1 d_Ab_longest_39 ?_
        refine lv_iconst (v := 1) Bx.1 Bx.2.1 d_Ab_longest_40 (by decide) ?_
        refine lv_iand Bx.1 Bx.2.1 d_Ab_longest_41 ?_
        refine lv_iconst (v := 1) Bx.1 Bx.2.1 d_Ab_longest_42 (by decide) ?_
        refine lv_icmp_ne Bx.1 Bx.2.1 d_Ab_longest_43 rfl (fun hbt => ?_) (fun hbt => ?_)
        · refine lv_iinc (lv' := [(4, .int ((nI j + (-1)))), (3, .int (VV Bw inp I Eb r0 i0)), (0, .ref (ad 0)), (1, .int (nI r0)), (2, .int (nI i0))]) Bx.1 Bx.2.1 d_Ab_longest_49 hl (k := 0) rfl rfl (by decide) rfl (fun ls hl => ?_)
          refine lv_goto Bx.1 Bx.2.1 d_Ab_longest_52 rfl ?_
          exact ih13 (j) _ _ _ (by have := hmeas14; omega) (by omega) (fun k k1 k2 => by
            by_cases e9 : k = j
            · subst e9; exact hbt
            · exact hz12 k (by omega) k2) hP hD hS (lv_sub hl [0, 1, 2, 3, 4] rfl)
        · refine lv_iload Bx.1 Bx.2.1 d_Ab_longest_46 (lv_at hl 0 rfl) ?_
          exact x_iret hx hb hlocks hr (⟨hCn7, hFn8, r0, i0, hr0, hi0, rfl, rfl, Or.inr ⟨j, hij2, by omega, rfl, hbt, fun k k1 k2 => hz12 k (by omega) k2⟩⟩) hP hS d_Ab_longest_48
  exact loop9 _ (I + 1) _ _ _ (Nat.lt_succ_self _) (Nat.le_refl _) (fun k k1 k2 => by omega) hP hD hS (by rw [nI_m1]; exact (lv_sub hl [0, 1, 2, 3, 4] rfl))
theorem m_Ab_longestY (l : Launch) {D : va_G} {cy : Nat → ClassId} {sz n : Nat} {ad : Nat → Nat} {mem : Nat → va_E} {R Eb I : Nat} {Bw : Ro} {inp : Nat → Int32} {i1 i2 : Int32} (hlt : l.stackTraces = false) (hn : 224 ≤ n) (h0 : mem 0 = abC ad) (hY : IY cy ad I inp mem) (hQ : QY cy ad R Eb I Bw inp mem) : NXi l D cy sz n ad y_Ab_longest c_Ab_longest 5 (some .int) ({ frames := 8, cells := 1, slots := 6, locals := 260 } : Room) mem [.ref (ad 0), .int (i1), .int (i2)] (fun r mem' => CY cy ad R Eb I Bw inp mem' ∧ (∀ i, i ≠ 223 → i < 20 ∨ 222 ≤ i → mem' i = mem i) ∧ ∃ ra ia : Nat, ra < R ∧ ia ≤ I ∧ i1 = nI ra ∧ i2 = nI ia ∧ MX (VV Bw inp I Eb ra ia) ia I r) (fun X mem' => mem' = mem ∧ ((X = cNS ∧ ¬ RK R (i1)) ∨ (X = cIO ∧ RK R (i1) ∧ ¬ PK I (i2) (i2)))) := by
  rcases hQ with ⟨e, lim, rc, ec, wh, hG, hz⟩ | ⟨hW, hC⟩
  · exact m_Ab_longestN l hlt hn h0 hY e hG hz
  · exact m_Ab_longestC l hlt hn h0 hY hW hC
set_option maxHeartbeats 4000000 in
set_option maxRecDepth 100000 in
theorem m_Ab_piecesN (l : Launch) {D : va_G} {cy : Nat → ClassId} {sz n : Nat} {ad : Nat → Nat} {mem : Nat → va_E} {R Eb I : Nat} {Bw : Ro} {inp : Nat → Int32} {lim rc ec : Nat} {wh : Int32} {i1 : Int32} (hlt : l.stackTraces = false) (hn : 224 ≤ n) (h0 : mem 0 = abC ad) (hY : IY cy ad I inp mem) (hR0 : R = 0) (hG : GI cy ad lim rc ec wh mem) (hz : wh = 0 ∨ rc = 0) : NXi l D cy sz n ad y_Ab_pieces c_Ab_pieces 4 (some .int) ({ frames := 8, cells := 1, slots := 6, locals := 260 } : Room) mem [.ref (ad 0), .int (i1)] (fun r mem' => CY cy ad R Eb I Bw inp mem' ∧ (∀ i, i ≠ 223 → i < 20 ∨ 222 ≤ i → mem' i = mem i) ∧ ∃ ra : Nat, ra < R ∧ i1 = nI ra) (fun X mem' => mem' = mem ∧ X = cNS ∧ ¬ RK R (i1)) := by
  refine vx_ofW (cc := c_Ab_pieces) (maxL := 4) (ret := (some .int)) (by decide) rfl ?_
  intro p e s m args below meth c s₁ B hml hno hv
  obtain ⟨rfl, E, hP, hD⟩ := hv
  have hx := B.exec
  have hb := B.bytes
  have hr := B.returns
  have hlocks := B.notSynchronized
  have Bx : MB p s m [.ref (ad 0), .int (i1)].toArray c c_Ab_pieces "AbnfChart" D cy := ⟨hx, hb, tb_all (atoms_spec B.pre) E.2.1, findClass_of_methodNamed B.named, E.1⟩
  have hS : va_S (Az sz) s.heap s.heap [] := va_S.rf
  have hl := lv_entry ([.ref (ad 0), .int (i1)]) (n := 4) (Nat.le_of_ble_eq_true rfl)
  rw [lg_entry_eq]
  generalize (lg_sl ([.ref (ad 0), .int (i1)]) ++ List.replicate (4 - (lg_sl ([.ref (ad 0), .int (i1)])).length) Slot.unset).toArray = ls at hl ⊢
  have hl : lv_has ls 4 [(0, .ref (ad 0)), (1, .int (i1))] := hl
  have hbd := hG.1
  refine lv_aload_n Bx.1 Bx.2.1 d_Ab_pieces_0 rfl (lv_at hl 0 rfl) ?_
  refine lv_iload_n Bx.1 Bx.2.1 d_Ab_pieces_1 rfl (lv_at hl 1 rfl) ?_
  refine f_xVv (na := 1) (As := [.int (i1)]) (rest := []) Bx hml E hP hD hS (by omega) h0 rfl (m_Ab_checkRuleY l hlt hn h0 hG) kw_511 kw_513 sel_Ab_checkRule kw_1 kw_514 (by decide +kernel) ⟨rfl, rfl⟩ ⟨Nat.le_of_ble_eq_true rfl, Nat.le_of_ble_eq_true rfl⟩ rfl hl.1 (Nat.le_of_ble_eq_true rfl) d_Ab_pieces_2 ⟨Nat.le_of_ble_eq_true rfl, Nat.le_of_ble_eq_true rfl⟩ (fun X ce q9 memx H locs hx9 hP hS g1 g2 g3 => f_out hlocks hno hP hS g1 g2 g3 ⟨Nat.le_of_ble_eq_true rfl, Nat.le_of_ble_eq_true rfl⟩ ⟨hx9.2.1, hx9.1, by rw [hR0]; exact RK.zero⟩) (fun mem2 H locs hq hP hS => ?_)
  have hD : va_D (Az sz) (fw n ad mem2) := fw_D hD
  exact (no_rul9 hz hq.2.1 hq.2.2).elim
set_option maxHeartbeats 4000000 in
set_option maxRecDepth 100000 in
theorem m_Ab_piecesC (l : Launch) {D : va_G} {cy : Nat → ClassId} {sz n : Nat} {ad : Nat → Nat} {mem : Nat → va_E} {R Eb I : Nat} {Bw : Ro} {inp : Nat → Int32} {i1 : Int32} (hlt : l.stackTraces = false) (hn : 224 ≤ n) (h0 : mem 0 = abC ad) (hY : IY cy ad I inp mem) (hW : CW R Eb I Bw inp) (hC : CY cy ad R Eb I Bw inp mem) : NXi l D cy sz n ad y_Ab_pieces c_Ab_pieces 4 (some .int) ({ frames := 8, cells := 1, slots := 6, locals := 260 } : Room) mem [.ref (ad 0), .int (i1)] (fun r mem' => CY cy ad R Eb I Bw inp mem' ∧ (∀ i, i ≠ 223 → i < 20 ∨ 222 ≤ i → mem' i = mem i) ∧ ∃ ra : Nat, ra < R ∧ i1 = nI ra) (fun X mem' => mem' = mem ∧ X = cNS ∧ ¬ RK R (i1)) := by
  refine vx_ofW (cc := c_Ab_pieces) (maxL := 4) (ret := (some .int)) (by decide) rfl ?_
  intro p e s m args below meth c s₁ B hml hno hv
  obtain ⟨rfl, E, hP, hD⟩ := hv
  have hx := B.exec
  have hb := B.bytes
  have hr := B.returns
  have hlocks := B.notSynchronized
  have Bx : MB p s m [.ref (ad 0), .int (i1)].toArray c c_Ab_pieces "AbnfChart" D cy := ⟨hx, hb, tb_all (atoms_spec B.pre) E.2.1, findClass_of_methodNamed B.named, E.1⟩
  have hS : va_S (Az sz) s.heap s.heap [] := va_S.rf
  have hl := lv_entry ([.ref (ad 0), .int (i1)]) (n := 4) (Nat.le_of_ble_eq_true rfl)
  rw [lg_entry_eq]
  generalize (lg_sl ([.ref (ad 0), .int (i1)]) ++ List.replicate (4 - (lg_sl ([.ref (ad 0), .int (i1)])).length) Slot.unset).toArray = ls at hl ⊢
  have hl : lv_has ls 4 [(0, .ref (ad 0)), (1, .int (i1))] := hl
  obtain ⟨lim, fl, g, hG, hE, -, hc, hf⟩ := id hC
  have hbd := hG.1
  have hbI := hY.2.1
  refine lv_aload_n Bx.1 Bx.2.1 d_Ab_pieces_0 rfl (lv_at hl 0 rfl) ?_
  refine lv_iload_n Bx.1 Bx.2.1 d_Ab_pieces_1 rfl (lv_at hl 1 rfl) ?_
  refine f_xVv (na := 1) (As := [.int (i1)]) (rest := []) Bx hml E hP hD hS (by omega) h0 rfl (m_Ab_checkRuleY l hlt hn h0 hG) kw_511 kw_513 sel_Ab_checkRule kw_1 kw_514 (by decide +kernel) ⟨rfl, rfl⟩ ⟨Nat.le_of_ble_eq_true rfl, Nat.le_of_ble_eq_true rfl⟩ rfl hl.1 (Nat.le_of_ble_eq_true rfl) d_Ab_pieces_2 ⟨Nat.le_of_ble_eq_true rfl, Nat.le_of_ble_eq_true rfl⟩ (fun X ce q9 memx H locs hx9 hP hS g1 g2 g3 => f_out hlocks hno hP hS g1 g2 g3 ⟨Nat.le_of_ble_eq_true rfl, Nat.le_of_ble_eq_true rfl⟩ ⟨hx9.2.1, hx9.1, RK.no hbd.1 (by decide) hx9.2.2⟩) (fun mem2 H locs hq hP hS => ?_)
  have hD : va_D (Az sz) (fw n ad mem2) := fw_D hD
  obtain ⟨hq, hk1, hk2⟩ := hq
  rw [hq] at hP hD
  obtain ⟨r0, hr0, rfl⟩ := rl_ok hbd.1 hk1 hk2
  refine lv_iconst (v := 0) Bx.1 Bx.2.1 d_Ab_pieces_5 (by decide) ?_
  refine lv_istore_n (lv' := [(2, .int (0)), (0, .ref (ad 0)), (1, .int (nI r0))]) Bx.1 Bx.2.1 d_Ab_pieces_6 rfl hl (by decide) rfl (fun ls hl => ?_)
  refine lv_iconst (v := 0) Bx.1 Bx.2.1 d_Ab_pieces_7 (by decide) ?_
  refine lv_istore_n (lv' := [(3, .int (0)), (2, .int (0)), (0, .ref (ad 0)), (1, .int (nI r0))]) Bx.1 Bx.2.1 d_Ab_pieces_8 rfl hl (by decide) rfl (fun ls hl => ?_)
  have loop3 : ∀ (d4 : Nat) (mem9 : Nat → va_E) (k : Nat) (to : Int32) (ls : Array Slot) (H : Heap) (locs : List Loc), (I + 1 - k < d4) → (k ≤ I + 1) → (CY cy ad R Eb I Bw inp mem9) → (∀ i, i ≠ 223 → i < 20 ∨ 222 ≤ i → mem9 i = mem i) → (va_P D vcl (fw n ad mem9) H) → (va_D (Az sz) (fw n ad mem9)) → (va_S (Az sz) s.heap H locs) → (lv_has ls 4 [(3, .int (nI k)), (2, .int (to)), (0, .ref (ad 0)), (1, .int (nI r0))]) → W p l e (headSpec (Cond.code y_Ab_pieces c_Ab_pieces 4 (some .int) :: tg) ({ frames := 8, cells := 1, slots := 6, locals := 260 } : Room)).room s m [.ref (ad 0), .int (nI r0)].toArray below meth c H locs 0 0 (vx_MQ below (QX (va_Qi (fun r mem' => CY cy ad R Eb I Bw inp mem' ∧ (∀ i, i ≠ 223 → i < 20 ∨ 222 ≤ i → mem' i = mem i) ∧ ∃ ra : Nat, ra < R ∧ nI r0 = nI ra) (PP D n ad) (Az sz))) (XQ D sz n ad (fun X mem' => mem' = mem ∧ X = cNS ∧ ¬ RK R (nI r0))) [.ref (ad 0), .int (nI r0)].toArray s 1 6 (Az sz)) (F0 m 9 ls []) := by
    intro d4
    induction d4 with
    | zero => intro mem9 k to ls H locs hmeas9; exact absurd hmeas9 (Nat.not_lt_zero _)
    | succ d4 ih8 =>
      intro mem9 k to ls H locs hmeas9 hz5 hz6 hz7 hP hD hS hl
      obtain ⟨lim, fl3, g3, hG3, hE3, hY3, hc3, hf3⟩ := id hz6
      have hFr := hz7
      have e0 : mem9 0 = abC ad := (hFr 0 (by omega) (by omega)).trans h0
      refine lv_iload_n Bx.1 Bx.2.1 d_Ab_pieces_9 rfl (lv_at hl 0 rfl) ?_
      refine lv_aload_n Bx.1 Bx.2.1 d_Ab_pieces_10 rfl (lv_at hl 2 rfl) ?_
      refine f_get Bx hP (by omega) e0 rfl inAb 1 (by decide) kw_175 rfl rfl d_Ab_pieces_11 ?_
      refine f_getN Bx hP (by omega) hY3.1 rfl inCh 1 (by decide) kw_34 rfl rfl d_Ab_pieces_14 ?_
      refine lv_icmp_gt Bx.1 Bx.2.1 d_Ab_pieces_17 rfl (fun hk => ?_) (fun hk => ?_)
      · refine lv_iload_n Bx.1 Bx.2.1 d_Ab_pieces_41 rfl (lv_at hl 1 rfl) ?_
        exact x_iret hx hb hlocks hr (⟨hz6, hFr, r0, hr0, rfl⟩) hP hS d_Ab_pieces_42
      · have hi0 : k ≤ I := by rcases Nat.lt_or_ge I k with q | q; exact absurd ((nI_ltI (by omega) (by omega)).mpr q) hk; exact q
        refine lv_iload_n Bx.1 Bx.2.1 d_Ab_pieces_20 rfl (lv_at hl 1 rfl) ?_
        refine lv_aload_n Bx.1 Bx.2.1 d_Ab_pieces_21 rfl (lv_at hl 2 rfl) ?_
        refine f_get Bx hP (by omega) e0 rfl inAb 4 (by decide) kw_178 rfl rfl d_Ab_pieces_22 ?_
        refine lv_iload_n Bx.1 Bx.2.1 d_Ab_pieces_25 rfl (lv_at hl 3 rfl) ?_
        refine lv_iload_n Bx.1 Bx.2.1 d_Ab_pieces_26 rfl (lv_at hl 0 rfl) ?_
        refine f_callVi (na := 2) (As := [.int (nI r0), .int (nI k)]) (rest := [.int (to)]) Bx hml E hP hD hS (by omega) hc3 rfl (m_Ct_endsOfX l (lim := lim) (wh := 1) (m0 := mem9) hn hY3 ⟨hG3, hc3, fun _ _ => rfl⟩ hE3 hi0 hr0) kw_567 kw_568 kw_569 kw_7 kw_570 (by decide +kernel) ⟨rfl, rfl⟩ ⟨Nat.le_of_ble_eq_true rfl, Nat.le_of_ble_eq_true rfl⟩ rfl hl.1 (Nat.le_of_ble_eq_true rfl) d_Ab_pieces_27 ⟨Nat.le_of_ble_eq_true rfl, Nat.le_of_ble_eq_true rfl⟩ (fun r10 mem11 H locs hqe hP hS => ?_)
        have hD : va_D (Az sz) (fw n ad mem11) := fw_D hD
        obtain ⟨fl2, g2, hq1, hq2, hq3, hq4, hq5⟩ := hqe
        obtain ⟨hCn12, hv, hFn13⟩ := CY.look hW hY3 hf3 hq1 hq2 hq3 hq4 hq5 hr0 hi0
        subst hv
        refine f_callSJi (na := 1) (As := [.int (VV Bw inp I Eb r0 k)]) (rest := [.int (to)]) Bx hml E.2.1 (m_Jn_bitCount l _) kw_627 kw_628 kw_16 kw_629 (by decide +kernel) ⟨rfl, rfl⟩ ⟨Nat.le_of_ble_eq_true rfl, Nat.le_of_ble_eq_true rfl⟩ rfl hl.1 (Nat.le_of_ble_eq_true rfl) d_Ab_pieces_30 ⟨Nat.le_of_ble_eq_true rfl, Nat.le_of_ble_eq_true rfl⟩ (fun r15 hs14 => ?_)
        refine lv_iadd Bx.1 Bx.2.1 d_Ab_pieces_33 ?_
        refine lv_istore_n (lv' := [(2, .int (to + r15)), (3, .int (nI k)), (0, .ref (ad 0)), (1, .int (nI r0))]) Bx.1 Bx.2.1 d_Ab_pieces_34 rfl hl (by decide) rfl (fun ls hl => ?_)
        refine lv_iinc (lv' := [(3, .int ((nI k + (1)))), (2, .int (to + r15)), (0, .ref (ad 0)), (1, .int (nI r0))]) Bx.1 Bx.2.1 d_Ab_pieces_35 hl (k := 1) rfl rfl (by decide) rfl (fun ls hl => ?_)
        refine lv_goto Bx.1 Bx.2.1 d_Ab_pieces_38 rfl ?_
        exact ih8 mem11 (k + 1) (to + r15) _ _ _ (by have := hmeas9; omega) (by omega) (hCn12) (fun i q1 q2 => (hFn13 i q1 q2).trans (hFr i q1 q2)) hP hD hS (by rw [nI_succ]; exact (lv_sub hl [0, 1, 2, 3] rfl))
  exact loop3 _ mem (0) (0) _ _ _ (Nat.lt_succ_self _) (by omega) (hC) (fun _ _ _ => rfl) hP hD hS (lv_sub hl [0, 1, 2, 3] rfl)
theorem m_Ab_piecesY (l : Launch) {D : va_G} {cy : Nat → ClassId} {sz n : Nat} {ad : Nat → Nat} {mem : Nat → va_E} {R Eb I : Nat} {Bw : Ro} {inp : Nat → Int32} {i1 : Int32} (hlt : l.stackTraces = false) (hn : 224 ≤ n) (h0 : mem 0 = abC ad) (hY : IY cy ad I inp mem) (hQ : QY cy ad R Eb I Bw inp mem) : NXi l D cy sz n ad y_Ab_pieces c_Ab_pieces 4 (some .int) ({ frames := 8, cells := 1, slots := 6, locals := 260 } : Room) mem [.ref (ad 0), .int (i1)] (fun r mem' => CY cy ad R Eb I Bw inp mem' ∧ (∀ i, i ≠ 223 → i < 20 ∨ 222 ≤ i → mem' i = mem i) ∧ ∃ ra : Nat, ra < R ∧ i1 = nI ra) (fun X mem' => mem' = mem ∧ X = cNS ∧ ¬ RK R (i1)) := by
  rcases hQ with ⟨e, lim, rc, ec, wh, hG, hz⟩ | ⟨hW, hC⟩
  · exact m_Ab_piecesN l hlt hn h0 hY e hG hz
  · exact m_Ab_piecesC l hlt hn h0 hY hW hC
