theorem stC_1 {x : Int32} (h : ¬ stC x = 0) : ¬ (x < 32 ∨ 126 < x) ∧ ¬ x = 34 := Classical.byContradiction (fun q => h (by unfold stC; rw [if_neg q]))
theorem stC_0 {x : Int32} (h : stC x = 0) : (x < 32 ∨ 126 < x) ∨ x = 34 := Classical.byContradiction (fun q => by
  unfold stC at h
  rw [if_pos ⟨fun z => q (Or.inl z), fun z => q (Or.inr z)⟩] at h
  exact absurd h (by decide))
theorem stC_ne {x : Int32} (h : ¬ stC x = 0) : x ≠ -1 := by
  rintro rfl
  exact (stC_1 h).1 (by decide)
def furP (T : Nat → Int32) (L : Nat) (b : Int32) : Nat → Nat → Option Nat
  | 0, a => some a
  | r + 1, a => if hereF L T a = 46 then (match numS T L (a + 1) b with
    | none => none
    | some z => furP T L b r z.2) else some a
def numsP (T : Nat → Int32) (L a : Nat) (b : Int32) : Option Nat :=
  match numS T L a b with
  | none => none
  | some z => if hereF L T z.2 = 45 then (match numS T L (z.2 + 1) b with
      | none => none
      | some y => if y.1 < z.1 then none else some y.2)
    else furP T L b 3 z.2
def Sm4 (A A' : Ro) : Prop := ∀ j, j ≠ 228 → j ≠ 229 → j ≠ 230 → j ≠ 234 → A' j = A j
theorem furS_P {T : Nat → Int32} {L : Nat} {b : Int32} {e : Nat} : ∀ {r a u : Nat} {A : Ro}, match furP T L b r a with
    | none => furS T L b e r a u A = none
    | some a' => ∃ u' A', furS T L b e r a u A = some (a', u', A') ∧ Sm4 A A'
  | 0, a, u, A => ⟨u, A, rfl, fun _ _ _ _ _ => rfl⟩
  | r + 1, a, u, A => by
    unfold furP
    by_cases h : hereF L T a = 46
    · rw [if_pos h]
      cases hn : numS T L (a + 1) b with
      | none => exact furS_bad h hn
      | some z =>
        have ih := furS_P (T := T) (L := L) (b := b) (e := e) (r := r) (a := z.2) (u := u + 1) (A := va_up (va_up A 234 (upd (A 234) u z.1)) 230 (upd (A 230) e (A 230 e + 1)))
        simp only []
        cases hp : furP T L b r z.2 with
        | none =>
          rw [hp] at ih
          show furS T L b e (r + 1) a u A = none
          rw [furS_on h hn]
          exact ih
        | some a' =>
          rw [hp] at ih
          obtain ⟨u', A', h1, h2⟩ := ih
          refine ⟨u', A', ?_, ?_⟩
          · rw [furS_on h hn]; exact h1
          · intro j q1 q2 q3 q4
            rw [h2 j q1 q2 q3 q4, va_up_ne _ _ q3, va_up_ne _ _ q4]
    · rw [if_neg h]
      exact ⟨u, A, furS_no h, fun _ _ _ _ _ => rfl⟩
theorem numsP_no {T : Nat → Int32} {L a : Nat} {b : Int32} (h : numsP T L a b = none) (u e : Nat) (A : Ro) : numsS T L a u e b A = none := by
  unfold numsP at h
  cases h1 : numS T L a b with
  | none => exact numsS_n1 h1
  | some z =>
    obtain ⟨v, a2⟩ := z
    rw [h1] at h
    simp only [] at h
    by_cases h5 : hereF L T a2 = 45
    · rw [if_pos h5] at h
      cases h2 : numS T L (a2 + 1) b with
      | none => exact numsS_n2 h1 h5 h2
      | some y =>
        obtain ⟨w, a3⟩ := y
        rw [h2] at h
        simp only [] at h
        by_cases h6 : w < v
        · exact numsS_lt h1 h5 h2 h6
        · rw [if_neg h6] at h; cases h
    · rw [if_neg h5] at h
      rw [numsS_fu h1 h5]
      have := furS_P (T := T) (L := L) (b := b) (e := e) (r := 3) (a := a2) (u := u + 1) (A := va_up (va_up (va_up A 229 (upd (A 229) e (nI u))) 230 (upd (A 230) e 1)) 234 (upd (A 234) u v))
      rw [h] at this
      exact this
theorem numsP_ok {T : Nat → Int32} {L a a' : Nat} {b : Int32} (h : numsP T L a b = some a') (u e : Nat) (A : Ro) : ∃ u' A', numsS T L a u e b A = some (a', u', A') ∧ Sm4 A A' := by
  unfold numsP at h
  cases h1 : numS T L a b with
  | none => rw [h1] at h; cases h
  | some z =>
    obtain ⟨v, a2⟩ := z
    rw [h1] at h
    simp only [] at h
    by_cases h5 : hereF L T a2 = 45
    · rw [if_pos h5] at h
      cases h2 : numS T L (a2 + 1) b with
      | none => rw [h2] at h; cases h
      | some y =>
        obtain ⟨w, a3⟩ := y
        rw [h2] at h
        simp only [] at h
        by_cases h6 : w < v
        · rw [if_pos h6] at h; cases h
        · rw [if_neg h6] at h
          cases h
          exact ⟨_, _, numsS_rg h1 h5 h2 h6, fun j q1 q2 q3 q4 => by rw [va_up_ne _ _ q3, va_up_ne _ _ q2, va_up_ne _ _ q1, va_up_ne _ _ q4, va_up_ne _ _ q3, va_up_ne _ _ q2]⟩
    · rw [if_neg h5] at h
      have := furS_P (T := T) (L := L) (b := b) (e := e) (r := 3) (a := a2) (u := u + 1) (A := va_up (va_up (va_up A 229 (upd (A 229) e (nI u))) 230 (upd (A 230) e 1)) 234 (upd (A 234) u v))
      rw [h] at this
      obtain ⟨u', A', q1, q2⟩ := this
      refine ⟨u', A', ?_, ?_⟩
      · rw [numsS_fu h1 h5]; exact q1
      · intro j p1 p2 p3 p4
        rw [q2 j p1 p2 p3 p4, va_up_ne _ _ p4, va_up_ne _ _ p3, va_up_ne _ _ p2]
theorem numsP_n1 {T : Nat → Int32} {L a : Nat} {b : Int32} (h : numS T L a b = none) : numsP T L a b = none := by unfold numsP; rw [h]
theorem numsP_n2 {T : Nat → Int32} {L a a2 : Nat} {b v : Int32} (h1 : numS T L a b = some (v, a2)) (h5 : hereF L T a2 = 45) (h2 : numS T L (a2 + 1) b = none) : numsP T L a b = none := by
  unfold numsP
  rw [h1]
  simp only []
  rw [if_pos h5, h2]
theorem numsP_lt {T : Nat → Int32} {L a a2 a3 : Nat} {b v w : Int32} (h1 : numS T L a b = some (v, a2)) (h5 : hereF L T a2 = 45) (h2 : numS T L (a2 + 1) b = some (w, a3)) (h6 : w < v) : numsP T L a b = none := by
  unfold numsP
  rw [h1]
  simp only []
  rw [if_pos h5, h2]
  simp only []
  rw [if_pos h6]
theorem numsP_rg {T : Nat → Int32} {L a a2 a3 : Nat} {b v w : Int32} (h1 : numS T L a b = some (v, a2)) (h5 : hereF L T a2 = 45) (h2 : numS T L (a2 + 1) b = some (w, a3)) (h6 : ¬ w < v) : numsP T L a b = some a3 := by
  unfold numsP
  rw [h1]
  simp only []
  rw [if_pos h5, h2]
  simp only []
  rw [if_neg h6]
theorem numsP_fu {T : Nat → Int32} {L a a2 : Nat} {b v : Int32} (h1 : numS T L a b = some (v, a2)) (h5 : ¬ hereF L T a2 = 45) : numsP T L a b = furP T L b 3 a2 := by
  unfold numsP
  rw [h1]
  simp only []
  rw [if_neg h5]
theorem furP_no {T : Nat → Int32} {L r a : Nat} {b : Int32} (h : ¬ hereF L T a = 46) : furP T L b r a = some a := by
  cases r with
  | zero => rfl
  | succ r => rw [furP, if_neg h]
theorem furP_bad {T : Nat → Int32} {L r a : Nat} {b : Int32} (h : hereF L T a = 46) (h2 : numS T L (a + 1) b = none) : furP T L b (r + 1) a = none := by rw [furP, if_pos h, h2]
theorem furP_on {T : Nat → Int32} {L r a a2 : Nat} {b v : Int32} (h : hereF L T a = 46) (h2 : numS T L (a + 1) b = some (v, a2)) : furP T L b (r + 1) a = furP T L b r a2 := by rw [furP, if_pos h, h2]
set_option maxHeartbeats 4000000 in
set_option maxRecDepth 100000 in
theorem m_Ch_appendX (l : Launch) {D : va_G} {cy : Nat → ClassId} {sz n : Nat} {ad : Nat → Nat} {mem : Nat → va_E} {Z a R Ec lim : Nat} {f T : Nat → Int32} {to : Nat → Int32} {nm : Nat → Int64} {m0 : Nat → va_E} {x : Int32} (hn : 224 ≤ n) (hT : TX cy ad Z f m0) (hf : ∀ k, k < Z → f k = T k) (hRX : RX cy ad lim a R Ec to nm m0 mem) (haB : a ≤ 300) : MV l D cy sz n ad y_Ch_append c_Ch_append 2 ({ frames := 0, cells := 0, slots := 0, locals := 0 } : Room) mem [.ref (ad 220), .int (x)] (fun mem' => RX cy ad lim a R Ec to nm m0 mem') := by
  refine Met.ofW (cc := c_Ch_append) (maxL := 2) (ret := none) (by decide) rfl ?_
  intro p e s m args below meth c s₁ B hml hv
  obtain ⟨rfl, E, hP, hD⟩ := hv
  have hx := B.exec
  have hb := B.bytes
  have hr := B.returns
  have hlocks := B.notSynchronized
  have Bx : MB p s m [.ref (ad 220), .int (x)].toArray c c_Ch_append "AbnfChart$Characters" D cy := ⟨hx, hb, tb_all (atoms_spec B.pre) E.2.1, findClass_of_methodNamed B.named, E.1⟩
  have hS : va_S (Az sz) s.heap s.heap [] := va_S.rf
  have hl := lv_entry ([.ref (ad 220), .int (x)]) (n := 2) (Nat.le_of_ble_eq_true rfl)
  rw [lg_entry_eq]
  generalize (lg_sl ([.ref (ad 220), .int (x)]) ++ List.replicate (2 - (lg_sl ([.ref (ad 220), .int (x)])).length) Slot.unset).toArray = ls at hl ⊢
  have hl : lv_has ls 2 [(0, .ref (ad 220)), (1, .int (x))] := hl
  have hZ9 := hT.2.1
  have hbd9 := hRX.1.1.1
  obtain ⟨ft1, h9_2⟩ := hRX.2.1
  have h1_3 : mem 1 = .inr (0, [.ref (ad 2), .int (nI Z)]) := (hRX.1.2.2 1 (by omega)).trans hT.1
  have h2_4 : mem 2 = .inl (cy 0, 240, .inl f) := (hRX.1.2.2 2 (by omega)).trans hT.2.2
  have h5_5 := hRX.1.1.2.1
  have hbd11 := hRX.1.1.1
  obtain ⟨S6, g7, hS_8, h220_9, h221_10⟩ := hRX.1.1.2.2.2.2.2.2
  refine lv_aload_n Bx.1 Bx.2.1 d_Ch_append_0 rfl (lv_at hl 0 rfl) ?_
  refine f_get Bx hP (by omega) h220_9 rfl inCh 1 (by decide) kw_32 rfl rfl d_Ch_append_1 ?_
  refine lv_aload_n Bx.1 Bx.2.1 d_Ch_append_4 rfl (lv_at hl 0 rfl) ?_
  refine f_get Bx hP (by omega) h220_9 rfl inCh 0 (by decide) kw_31 rfl rfl d_Ch_append_5 ?_
  refine f_alen (t0 := 0) Bx hP (by omega) h221_10 rfl (v := nI 240) rfl d_Ch_append_8 ?_
  refine lv_icmp_ge Bx.1 Bx.2.1 d_Ch_append_9 rfl (fun h => ?_) (fun h => ?_)
  · exact W.vret hx hb hr (fun t ht hW => ⟨⟨mem, rfl, hRX, by show va_P _ _ _ t.heap; rw [ht]; exact hP⟩, hS.F ht⟩) hS.2.2 d_Ch_append_33
  · have hroom : S6 < 240 := by
      rcases Nat.lt_or_ge S6 240 with q | q
      · exact q
      · exact absurd (nI_le (a := 240) q (by omega)) h
    refine lv_aload_n Bx.1 Bx.2.1 d_Ch_append_12 rfl (lv_at hl 0 rfl) ?_
    refine f_get Bx hP (by omega) h220_9 rfl inCh 0 (by decide) kw_31 rfl rfl d_Ch_append_13 ?_
    refine lv_aload_n Bx.1 Bx.2.1 d_Ch_append_16 rfl (lv_at hl 0 rfl) ?_
    refine f_get Bx hP (by omega) h220_9 rfl inCh 1 (by decide) kw_32 rfl rfl d_Ch_append_17 ?_
    refine lv_iload_n Bx.1 Bx.2.1 d_Ch_append_20 rfl (lv_at hl 1 rfl) ?_
    refine lv_i2c Bx.1 Bx.2.1 d_Ch_append_21 rfl ?_
    refine f_cast (x := ((x).toUInt32 % 65536).toInt32) (i := nI S6) Bx hP hD hS (by omega) h221_10 (vp_in_nI hroom (by decide)) d_Ch_append_22 (fun H locs hP hS => ?_)
    obtain ⟨g2, hg2⟩ : ∃ z : Nat → Int32, z = upd g7 (nI S6).toNatClampNeg (vp_nar .char (cN x)) := ⟨_, rfl⟩
    rw [show (x.toUInt32 % 65536).toInt32 = cN x from rfl, ← hg2] at hP
    obtain ⟨mem12, e_mem12⟩ : ∃ z, z = va_up mem (221) ((.inl (cy 0, 240, .inl g2))) := ⟨_, rfl⟩
    have hP : va_P D vcl (fw n ad mem12) H := by rw [e_mem12]; exact hP
    have hD : va_D (Az sz) (fw n ad mem12) := fw_D hD
    have h_mem12 : mem12 (221) = (.inl (cy 0, 240, .inl g2)) := by rw [e_mem12, va_up_self]
    have hh13 := (va_up_ne mem ((.inl (cy 0, 240, .inl g2))) (show (222 : Nat) ≠ 221 by first | decide | assumption | omega)).trans h9_2
    rw [← e_mem12] at hh13
    have hh14 := (va_up_ne mem ((.inl (cy 0, 240, .inl g2))) (show (1 : Nat) ≠ 221 by first | decide | assumption | omega)).trans h1_3
    rw [← e_mem12] at hh14
    have hh15 := (va_up_ne mem ((.inl (cy 0, 240, .inl g2))) (show (5 : Nat) ≠ 221 by first | decide | assumption | omega)).trans h5_5
    rw [← e_mem12] at hh15
    have hh16 := (va_up_ne mem ((.inl (cy 0, 240, .inl g2))) (show (220 : Nat) ≠ 221 by first | decide | assumption | omega)).trans h220_9
    rw [← e_mem12] at hh16
    have hRX17 : RX cy ad lim (a) (R) (Ec) (to) (nm) m0 mem12 := by rw [e_mem12]; exact hRX.el (by omega) (hRX.1.mk (by omega) hRX.1.1.up221)
    refine lv_aload_n Bx.1 Bx.2.1 d_Ch_append_23 rfl (lv_at hl 0 rfl) ?_
    refine lv_dup Bx.1 Bx.2.1 d_Ch_append_24 rfl ?_
    refine f_get Bx hP (by omega) hh16 rfl inCh 1 (by decide) kw_32 rfl rfl d_Ch_append_25 ?_
    refine lv_iconst (v := 1) Bx.1 Bx.2.1 d_Ch_append_28 (by decide) ?_
    refine lv_iadd Bx.1 Bx.2.1 d_Ch_append_29 ?_
    rw [show nI S6 + 1 = nI (S6 + 1) from nI_add (S6) (1)]
    refine f_put Bx hP hD hS (by omega) hh16 rfl inCh tyCh okCh nmCh 1 (by decide) kw_32 rfl rfl rfl rfl (Nat.le_of_ble_eq_true rfl) d_Ch_append_30 (fun H locs hP hS => ?_)
    obtain ⟨mem18, e_mem18⟩ : ∃ z, z = va_up mem12 (220) (.inr (0, [.ref (ad 221), .int (nI (S6 + 1))])) := ⟨_, rfl⟩
    have hP : va_P D vcl (fw n ad mem18) H := by rw [e_mem18]; exact hP
    have hD : va_D (Az sz) (fw n ad mem18) := fw_D hD
    have h_mem18 : mem18 (220) = .inr (0, [.ref (ad 221), .int (nI (S6 + 1))]) := by rw [e_mem18, va_up_self]
    have hh19 := (va_up_ne mem12 (.inr (0, [.ref (ad 221), .int (nI (S6 + 1))])) (show (222 : Nat) ≠ 220 by first | decide | assumption | omega)).trans hh13
    rw [← e_mem18] at hh19
    have hh20 := (va_up_ne mem12 (.inr (0, [.ref (ad 221), .int (nI (S6 + 1))])) (show (1 : Nat) ≠ 220 by first | decide | assumption | omega)).trans hh14
    rw [← e_mem18] at hh20
    have hh21 := (va_up_ne mem12 (.inr (0, [.ref (ad 221), .int (nI (S6 + 1))])) (show (5 : Nat) ≠ 220 by first | decide | assumption | omega)).trans hh15
    rw [← e_mem18] at hh21
    exact W.vret hx hb hr (fun t ht hW => ⟨⟨mem18, rfl, by rw [e_mem18]; exact hRX17.el (by omega) (hRX17.1.mk (by omega) (hRX17.1.1.up220 (by omega))), by show va_P _ _ _ t.heap; rw [ht]; exact hP⟩, hS.F ht⟩) hS.2.2 d_Ch_append_33
set_option maxHeartbeats 4000000 in
set_option maxRecDepth 100000 in
theorem m_Rd_readStringX (l : Launch) {D : va_G} {cy : Nat → ClassId} {sz n : Nat} {ad : Nat → Nat} {mem : Nat → va_E} {Z a R Ec lim : Nat} {f T : Nat → Int32} {to : Nat → Int32} {nm : Nat → Int64} {m0 : Nat → va_E} {st kd : Int32} (hlt : l.stackTraces = false) (hn : 224 ≤ n) (hT : TX cy ad Z f m0) (hf : ∀ k, k < Z → f k = T k) (hRX : RX cy ad lim a R Ec to nm m0 mem) (haB : a ≤ 300) (haZ : a < Z) : NXr l D cy sz n ad y_Rd_readString c_Rd_readString 5 (some (.object "AbnfChart$Element")) ({ frames := 10, cells := 1, slots := 6, locals := 220 } : Room) mem [.ref (ad 222), .int (st), .int (kd)] (fun r mem' => Ec < 100 ∧ hereF Z T (a + 1 + strN T Z 12 (a + 1)) = 34 ∧ r = ad (20 + 2 * Ec) ∧ a + 1 + strN T Z 12 (a + 1) + 1 ≤ Z ∧ RX cy ad lim (a + 1 + strN T Z 12 (a + 1) + 1) R (Ec + 1) to nm m0 mem') (fun X mem' => ((X = cIA ∨ X = cIS) ∧ ∃ rc' ec' : Nat, RS cy ad lim rc' ec' m0 mem') ∧ (Ec = 100 ∨ ¬ hereF Z T (a + 1 + strN T Z 12 (a + 1)) = 34)) := by
  refine vx_ofW (cc := c_Rd_readString) (maxL := 5) (ret := (some (.object "AbnfChart$Element"))) (by decide) rfl ?_
  intro p e s m args below meth c s₁ B hml hno hv
  obtain ⟨rfl, E, hP, hD⟩ := hv
  have hx := B.exec
  have hb := B.bytes
  have hr := B.returns
  have hlocks := B.notSynchronized
  have Bx : MB p s m [.ref (ad 222), .int (st), .int (kd)].toArray c c_Rd_readString "AbnfChart$Reader" D cy := ⟨hx, hb, tb_all (atoms_spec B.pre) E.2.1, findClass_of_methodNamed B.named, E.1⟩
  have hS : va_S (Az sz) s.heap s.heap [] := va_S.rf
  have hl := lv_entry ([.ref (ad 222), .int (st), .int (kd)]) (n := 5) (Nat.le_of_ble_eq_true rfl)
  rw [lg_entry_eq]
  generalize (lg_sl ([.ref (ad 222), .int (st), .int (kd)]) ++ List.replicate (5 - (lg_sl ([.ref (ad 222), .int (st), .int (kd)])).length) Slot.unset).toArray = ls at hl ⊢
  have hl : lv_has ls 5 [(0, .ref (ad 222)), (1, .int (st)), (2, .int (kd))] := hl
  have hZ9 := hT.2.1
  have hbd9 := hRX.1.1.1
  obtain ⟨ft1, h9_2⟩ := hRX.2.1
  have h1_3 : mem 1 = .inr (0, [.ref (ad 2), .int (nI Z)]) := (hRX.1.2.2 1 (by omega)).trans hT.1
  have h2_4 : mem 2 = .inl (cy 0, 240, .inl f) := (hRX.1.2.2 2 (by omega)).trans hT.2.2
  have h5_5 := hRX.1.1.2.1
  have hbd11 := hRX.1.1.1
  obtain ⟨S6, g7, hS_8, h220_9, h221_10⟩ := hRX.1.1.2.2.2.2.2.2
  refine lv_aload_n Bx.1 Bx.2.1 d_Rd_readString_0 rfl (lv_at hl 0 rfl) ?_
  refine lv_iload_n Bx.1 Bx.2.1 d_Rd_readString_1 rfl (lv_at hl 2 rfl) ?_
  refine lv_iload_n Bx.1 Bx.2.1 d_Rd_readString_2 rfl (lv_at hl 1 rfl) ?_
  refine f_xVr (na := 2) (As := [.int (kd), .int (st)]) (rest := []) Bx hml E hP hD hS (by omega) h9_2 rfl (m_Rd_addElementX l hlt hn hT hf hRX (by omega)) kw_419 kw_421 sel_Rd_addElement kw_6 kw_422 (by decide +kernel) ⟨rfl, rfl⟩ ⟨Nat.le_of_ble_eq_true rfl, Nat.le_of_ble_eq_true rfl⟩ rfl hl.1 (Nat.le_of_ble_eq_true rfl) d_Rd_readString_3 ⟨Nat.le_of_ble_eq_true rfl, Nat.le_of_ble_eq_true rfl⟩ (fun X ce q9 memx H locs hx9 hP hS g1 g2 g3 => f_out hlocks hno hP hS g1 g2 g3 ⟨Nat.le_of_ble_eq_true rfl, Nat.le_of_ble_eq_true rfl⟩ ⟨hx9.1, Or.inl hx9.2⟩) (fun r12 mem13 H locs hq hP hS => ?_)
  have hD : va_D (Az sz) (fw n ad mem13) := fw_D hD
  obtain ⟨hr916, hec15, hRX14⟩ := hq
  subst hr916
  obtain ⟨ft17, h9_18⟩ := hRX14.2.1
  have h1_19 : mem13 1 = .inr (0, [.ref (ad 2), .int (nI Z)]) := (hRX14.1.2.2 1 (by omega)).trans hT.1
  have h2_20 : mem13 2 = .inl (cy 0, 240, .inl f) := (hRX14.1.2.2 2 (by omega)).trans hT.2.2
  have h5_21 := hRX14.1.1.2.1
  have hbd27 := hRX14.1.1.1
  obtain ⟨S22, g23, hS_24, h220_25, h221_26⟩ := hRX14.1.1.2.2.2.2.2.2
  obtain ⟨k28, lo29, hi30, as31, pa32, ne33, he_34, ho_35⟩ := (hRX14.1.1.2.2.2.2.2.1 Ec (by omega)).1
  refine lv_astore_n (lv' := [(3, .ref (ad (20 + 2 * Ec))), (0, .ref (ad 222)), (1, .int (st)), (2, .int (kd))]) Bx.1 Bx.2.1 d_Rd_readString_6 rfl hl (by decide) rfl (fun ls hl => ?_)
  refine lv_aload_n Bx.1 Bx.2.1 d_Rd_readString_7 rfl (lv_at hl 1 rfl) ?_
  refine lv_dup Bx.1 Bx.2.1 d_Rd_readString_8 rfl ?_
  refine f_get Bx hP (by omega) h9_18 rfl inRd 2 (by decide) kw_146 rfl rfl d_Rd_readString_9 ?_
  refine lv_iconst (v := 1) Bx.1 Bx.2.1 d_Rd_readString_12 (by decide) ?_
  refine lv_iadd Bx.1 Bx.2.1 d_Rd_readString_13 ?_
  rw [show nI a + 1 = nI (a + 1) from nI_add (a) (1)]
  refine f_put Bx hP hD hS (by omega) h9_18 rfl inRd tyRd okRd nmRd 2 (by decide) kw_146 rfl rfl rfl rfl (Nat.le_of_ble_eq_true rfl) d_Rd_readString_14 (fun H locs hP hS => ?_)
  obtain ⟨mem36, e_mem36⟩ : ∃ z, z = va_up mem13 (222) (.inr (4, [.ref (ad 1), .ref (ad 5), .int (nI (a + 1)), .int (ft17)])) := ⟨_, rfl⟩
  have hP : va_P D vcl (fw n ad mem36) H := by rw [e_mem36]; exact hP
  have hD : va_D (Az sz) (fw n ad mem36) := fw_D hD
  have h_mem36 : mem36 (222) = .inr (4, [.ref (ad 1), .ref (ad 5), .int (nI (a + 1)), .int (ft17)]) := by rw [e_mem36, va_up_self]
  have hh37 := (va_up_ne mem13 (.inr (4, [.ref (ad 1), .ref (ad 5), .int (nI (a + 1)), .int (ft17)])) (show (1 : Nat) ≠ 222 by first | decide | assumption | omega)).trans h1_19
  rw [← e_mem36] at hh37
  have hh38 := (va_up_ne mem13 (.inr (4, [.ref (ad 1), .ref (ad 5), .int (nI (a + 1)), .int (ft17)])) (show (5 : Nat) ≠ 222 by first | decide | assumption | omega)).trans h5_21
  rw [← e_mem36] at hh38
  have hh39 := (va_up_ne mem13 (.inr (4, [.ref (ad 1), .ref (ad 5), .int (nI (a + 1)), .int (ft17)])) (show (220 : Nat) ≠ 222 by first | decide | assumption | omega)).trans h220_25
  rw [← e_mem36] at hh39
  have hh40 := (va_up_ne mem13 (.inr (4, [.ref (ad 1), .ref (ad 5), .int (nI (a + 1)), .int (ft17)])) (show ((20 + 2 * Ec) : Nat) ≠ 222 by first | decide | assumption | omega)).trans he_34
  rw [← e_mem36] at hh40
  have hRX41 : RX cy ad lim (a + 1) (R) (Ec + 1) (to) (nm) m0 mem36 := by rw [e_mem36]; exact hRX14.at
  refine lv_aload_n Bx.1 Bx.2.1 d_Rd_readString_17 rfl (lv_at hl 0 rfl) ?_
  refine lv_aload_n Bx.1 Bx.2.1 d_Rd_readString_18 rfl (lv_at hl 1 rfl) ?_
  refine f_get Bx hP (by omega) h_mem36 rfl inRd 1 (by decide) kw_145 rfl rfl d_Rd_readString_19 ?_
  refine f_getN Bx hP (by omega) hh38 rfl inGr 2 (by decide) kw_120 rfl rfl d_Rd_readString_22 ?_
  refine f_getN Bx hP (by omega) hh39 rfl inCh 1 (by decide) kw_33 rfl rfl d_Rd_readString_25 ?_
  refine f_putN Bx hP hD hS (by omega) hh40 rfl inEl tyEl okEl nmEl 1 (by decide) kw_79 rfl rfl rfl rfl (Nat.le_of_ble_eq_true rfl) d_Rd_readString_28 (fun H locs hP hS => ?_)
  obtain ⟨mem42, e_mem42⟩ : ∃ z, z = va_up mem36 ((20 + 2 * Ec)) (.inr (2, [.int (k28), .int (nI S22), .int (hi30), as31, pa32, ne33, .ref (ad (21 + 2 * Ec))])) := ⟨_, rfl⟩
  have hP : va_P D vcl (fw n ad mem42) H := by rw [e_mem42]; exact hP
  have hD : va_D (Az sz) (fw n ad mem42) := fw_D hD
  have h_mem42 : mem42 ((20 + 2 * Ec)) = .inr (2, [.int (k28), .int (nI S22), .int (hi30), as31, pa32, ne33, .ref (ad (21 + 2 * Ec))]) := by rw [e_mem42, va_up_self]
  have hh43 := (va_up_ne mem36 (.inr (2, [.int (k28), .int (nI S22), .int (hi30), as31, pa32, ne33, .ref (ad (21 + 2 * Ec))])) (show (222 : Nat) ≠ (20 + 2 * Ec) by first | decide | assumption | omega)).trans h_mem36
  rw [← e_mem42] at hh43
  have hh44 := (va_up_ne mem36 (.inr (2, [.int (k28), .int (nI S22), .int (hi30), as31, pa32, ne33, .ref (ad (21 + 2 * Ec))])) (show (1 : Nat) ≠ (20 + 2 * Ec) by first | decide | assumption | omega)).trans hh37
  rw [← e_mem42] at hh44
  have hh45 := (va_up_ne mem36 (.inr (2, [.int (k28), .int (nI S22), .int (hi30), as31, pa32, ne33, .ref (ad (21 + 2 * Ec))])) (show (5 : Nat) ≠ (20 + 2 * Ec) by first | decide | assumption | omega)).trans hh38
  rw [← e_mem42] at hh45
  have hh46 := (va_up_ne mem36 (.inr (2, [.int (k28), .int (nI S22), .int (hi30), as31, pa32, ne33, .ref (ad (21 + 2 * Ec))])) (show (220 : Nat) ≠ (20 + 2 * Ec) by first | decide | assumption | omega)).trans hh39
  rw [← e_mem42] at hh46
  have hRX47 : RX cy ad lim (a + 1) (R) (Ec + 1) (to) (nm) m0 mem42 := by rw [e_mem42]; exact hRX41.el (by omega) (hRX41.1.mk (by omega) (hRX41.1.1.upEl (by omega) ho_35))
  refine lv_iconst (v := 0) Bx.1 Bx.2.1 d_Rd_readString_31 (by decide) ?_
  refine lv_istore (lv' := [(4, .int (0)), (3, .ref (ad (20 + 2 * Ec))), (0, .ref (ad 222)), (1, .int (st)), (2, .int (kd))]) Bx.1 Bx.2.1 d_Rd_readString_32 hl (by decide) rfl (fun ls hl => ?_)
  have hec9 := hec15
  have loop48 : ∀ (d49 : Nat) (mem9 : Nat → va_E) (a1 : Nat) (k : Nat) (ls : Array Slot) (H : Heap) (locs : List Loc), (12 - k < d49) → (RX cy ad lim a1 R (Ec + 1) to nm m0 mem9) → (a1 = a + 1 + k ∧ a1 ≤ Z ∧ k ≤ 12) → (strN T Z (12 - k) a1 + k = strN T Z 12 (a + 1)) → (va_P D vcl (fw n ad mem9) H) → (va_D (Az sz) (fw n ad mem9)) → (va_S (Az sz) s.heap H locs) → (lv_has ls 5 [(4, .int (nI k)), (3, .ref (ad (20 + 2 * Ec))), (0, .ref (ad 222)), (1, .int (st)), (2, .int (kd))]) → W p l e (headSpec (Cond.code y_Rd_readString c_Rd_readString 5 (some (.object "AbnfChart$Element")) :: tg) ({ frames := 10, cells := 1, slots := 6, locals := 220 } : Room)).room s m [.ref (ad 222), .int (st), .int (kd)].toArray below meth c H locs 0 0 (vx_MQ below (QX (QR (fun r mem' => Ec < 100 ∧ hereF Z T (a + 1 + strN T Z 12 (a + 1)) = 34 ∧ r = ad (20 + 2 * Ec) ∧ a + 1 + strN T Z 12 (a + 1) + 1 ≤ Z ∧ RX cy ad lim (a + 1 + strN T Z 12 (a + 1) + 1) R (Ec + 1) to nm m0 mem') (PP D n ad) (Az sz))) (XQ D sz n ad (fun X mem' => ((X = cIA ∨ X = cIS) ∧ ∃ rc' ec' : Nat, RS cy ad lim rc' ec' m0 mem') ∧ (Ec = 100 ∨ ¬ hereF Z T (a + 1 + strN T Z 12 (a + 1)) = 34))) [.ref (ad 222), .int (st), .int (kd)].toArray s 1 6 (Az sz)) (F0 m 34 ls []) := by
    intro d49
    induction d49 with
    | zero => intro mem9 a1 k ls H locs hmeas54; exact absurd hmeas54 (Nat.not_lt_zero _)
    | succ d49 ih53 =>
      intro mem9 a1 k ls H locs hmeas54 hz50 hz51 hz52 hP hD hS hl
      obtain ⟨ft55, h9_56⟩ := hz50.2.1
      have h1_57 : mem9 1 = .inr (0, [.ref (ad 2), .int (nI Z)]) := (hz50.1.2.2 1 (by omega)).trans hT.1
      have h2_58 : mem9 2 = .inl (cy 0, 240, .inl f) := (hz50.1.2.2 2 (by omega)).trans hT.2.2
      have h5_59 := hz50.1.1.2.1
      have hbd65 := hz50.1.1.1
      obtain ⟨S60, g61, hS_62, h220_63, h221_64⟩ := hz50.1.1.2.2.2.2.2.2
      obtain ⟨k66, lo67, hi68, as69, pa70, ne71, he_72, ho_73⟩ := (hz50.1.1.2.2.2.2.2.1 Ec (by omega)).1
      have hbd8 := hz51
      refine lv_iload Bx.1 Bx.2.1 d_Rd_readString_34 (lv_at hl 0 rfl) ?_
      refine lv_bipush (v := 12) Bx.1 Bx.2.1 d_Rd_readString_36 (by decide) ?_
      refine lv_icmp_ge Bx.1 Bx.2.1 d_Rd_readString_38 rfl (fun hb74 => ?_) (fun hb74 => ?_)
      · have hN75 : 12 ≤ k := (nI_leI (by omega) (by omega)).mp (show nI (12) ≤ nI (k) from hb74)
        have hN : a + 1 + strN T Z 12 (a + 1) = a1 := by rw [← hz52, show 12 - k = 0 by omega, show strN T Z 0 a1 = 0 from rfl]; omega
        refine lv_aload_n Bx.1 Bx.2.1 d_Rd_readString_81 rfl (lv_at hl 1 rfl) ?_
        refine lv_aload_n Bx.1 Bx.2.1 d_Rd_readString_82 rfl (lv_at hl 2 rfl) ?_
        refine f_get Bx hP (by omega) h9_56 rfl inRd 1 (by decide) kw_145 rfl rfl d_Rd_readString_83 ?_
        refine f_getN Bx hP (by omega) h5_59 rfl inGr 2 (by decide) kw_120 rfl rfl d_Rd_readString_86 ?_
        refine f_getN Bx hP (by omega) h220_63 rfl inCh 1 (by decide) kw_33 rfl rfl d_Rd_readString_89 ?_
        refine f_putN Bx hP hD hS (by omega) he_72 rfl inEl tyEl okEl nmEl 2 (by decide) kw_82 rfl rfl rfl rfl (Nat.le_of_ble_eq_true rfl) d_Rd_readString_92 (fun H locs hP hS => ?_)
        obtain ⟨mem76, e_mem76⟩ : ∃ z, z = va_up mem9 ((20 + 2 * Ec)) (.inr (2, [.int (k66), .int (lo67), .int (nI S60), as69, pa70, ne71, .ref (ad (21 + 2 * Ec))])) := ⟨_, rfl⟩
        have hP : va_P D vcl (fw n ad mem76) H := by rw [e_mem76]; exact hP
        have hD : va_D (Az sz) (fw n ad mem76) := fw_D hD
        have h_mem76 : mem76 ((20 + 2 * Ec)) = .inr (2, [.int (k66), .int (lo67), .int (nI S60), as69, pa70, ne71, .ref (ad (21 + 2 * Ec))]) := by rw [e_mem76, va_up_self]
        have hh77 := (va_up_ne mem9 (.inr (2, [.int (k66), .int (lo67), .int (nI S60), as69, pa70, ne71, .ref (ad (21 + 2 * Ec))])) (show (222 : Nat) ≠ (20 + 2 * Ec) by first | decide | assumption | omega)).trans h9_56
        rw [← e_mem76] at hh77
        have hh78 := (va_up_ne mem9 (.inr (2, [.int (k66), .int (lo67), .int (nI S60), as69, pa70, ne71, .ref (ad (21 + 2 * Ec))])) (show (1 : Nat) ≠ (20 + 2 * Ec) by first | decide | assumption | omega)).trans h1_57
        rw [← e_mem76] at hh78
        have hh79 := (va_up_ne mem9 (.inr (2, [.int (k66), .int (lo67), .int (nI S60), as69, pa70, ne71, .ref (ad (21 + 2 * Ec))])) (show (5 : Nat) ≠ (20 + 2 * Ec) by first | decide | assumption | omega)).trans h5_59
        rw [← e_mem76] at hh79
        have hh80 := (va_up_ne mem9 (.inr (2, [.int (k66), .int (lo67), .int (nI S60), as69, pa70, ne71, .ref (ad (21 + 2 * Ec))])) (show (220 : Nat) ≠ (20 + 2 * Ec) by first | decide | assumption | omega)).trans h220_63
        rw [← e_mem76] at hh80
        have hRX81 : RX cy ad lim (a1) (R) (Ec + 1) (to) (nm) m0 mem76 := by rw [e_mem76]; exact hz50.el (by omega) (hz50.1.mk (by omega) (hz50.1.1.upEl (by omega) ho_73))
        refine lv_aload_n Bx.1 Bx.2.1 d_Rd_readString_95 rfl (lv_at hl 2 rfl) ?_
        refine lv_aload_n Bx.1 Bx.2.1 d_Rd_readString_96 rfl (lv_at hl 2 rfl) ?_
        refine f_callVi (na := 0) (As := []) (rest := [.ref (ad 222)]) Bx hml E hP hD hS (by omega) hh77 rfl (m_Rd_peekX l hn hT hf hRX81 (by omega)) kw_353 kw_355 sel_Rd_peek kw_6 kw_356 (by decide +kernel) ⟨rfl, rfl⟩ ⟨Nat.le_of_ble_eq_true rfl, Nat.le_of_ble_eq_true rfl⟩ rfl hl.1 (Nat.le_of_ble_eq_true rfl) d_Rd_readString_97 ⟨Nat.le_of_ble_eq_true rfl, Nat.le_of_ble_eq_true rfl⟩ (fun r83 mem84 H locs hq hP hS => ?_)
        have hD : va_D (Az sz) (fw n ad mem84) := fw_D hD
        obtain ⟨hqe, hpk82⟩ := hq
        rw [hqe] at hP hD
        subst hpk82
        refine lv_bipush (v := 34) Bx.1 Bx.2.1 d_Rd_readString_100 (by decide) ?_
        refine lv_icmp_ne Bx.1 Bx.2.1 d_Rd_readString_102 rfl (fun hb86 => ?_) (fun hb86 => ?_)
        · refine lv_iconst (v := 0) Bx.1 Bx.2.1 d_Rd_readString_109 (by decide) ?_
          refine lv_aload_n Bx.1 Bx.2.1 d_Rd_readString_110 rfl (lv_at hl 2 rfl) ?_
          refine f_get Bx hP (by omega) hh77 rfl inRd 2 (by decide) kw_146 rfl rfl d_Rd_readString_111 ?_
          refine f_xVv (na := 2) (As := [.int (0), .int (nI a1)]) (rest := []) Bx hml E hP hD hS (by omega) hh77 rfl (m_Rd_needReadableX l hlt hn hT hf hRX81 (by omega)) kw_360 kw_362 sel_Rd_needReadable kw_6 kw_363 (by decide +kernel) ⟨rfl, rfl⟩ ⟨Nat.le_of_ble_eq_true rfl, Nat.le_of_ble_eq_true rfl⟩ rfl hl.1 (Nat.le_of_ble_eq_true rfl) d_Rd_readString_114 ⟨Nat.le_of_ble_eq_true rfl, Nat.le_of_ble_eq_true rfl⟩ (fun X ce q9 memx H locs hx9 hP hS g1 g2 g3 => f_out hlocks hno hP hS g1 g2 g3 ⟨Nat.le_of_ble_eq_true rfl, Nat.le_of_ble_eq_true rfl⟩ ⟨hx9.1, (Or.inr (by rw [hN]; exact hb86))⟩) (fun mem88 H locs hq hP hS => ?_)
          have hD : va_D (Az sz) (fw n ad mem88) := fw_D hD
          obtain ⟨hqe, hg89⟩ := hq
          rw [hqe] at hP hD
          exact absurd rfl hg89
        · have hlt90 := hereF_lt (by rw [hb86]; decide)
          refine lv_iconst (v := 1) Bx.1 Bx.2.1 d_Rd_readString_105 (by decide) ?_
          refine lv_goto Bx.1 Bx.2.1 d_Rd_readString_106 rfl ?_
          refine lv_aload_n Bx.1 Bx.2.1 d_Rd_readString_110 rfl (lv_at hl 2 rfl) ?_
          refine f_get Bx hP (by omega) hh77 rfl inRd 2 (by decide) kw_146 rfl rfl d_Rd_readString_111 ?_
          refine f_xVv (na := 2) (As := [.int (1), .int (nI a1)]) (rest := []) Bx hml E hP hD hS (by omega) hh77 rfl (m_Rd_needReadableX l hlt hn hT hf hRX81 (by omega)) kw_360 kw_362 sel_Rd_needReadable kw_6 kw_363 (by decide +kernel) ⟨rfl, rfl⟩ ⟨Nat.le_of_ble_eq_true rfl, Nat.le_of_ble_eq_true rfl⟩ rfl hl.1 (Nat.le_of_ble_eq_true rfl) d_Rd_readString_114 ⟨Nat.le_of_ble_eq_true rfl, Nat.le_of_ble_eq_true rfl⟩ (fun X ce q9 memx H locs hx9 hP hS g1 g2 g3 => f_out hlocks hno hP hS g1 g2 g3 ⟨Nat.le_of_ble_eq_true rfl, Nat.le_of_ble_eq_true rfl⟩ ⟨hx9.1, absurd hx9.2 (by decide)⟩) (fun mem92 H locs hq hP hS => ?_)
          have hD : va_D (Az sz) (fw n ad mem92) := fw_D hD
          obtain ⟨hqe, hg93⟩ := hq
          rw [hqe] at hP hD
          refine lv_aload_n Bx.1 Bx.2.1 d_Rd_readString_117 rfl (lv_at hl 2 rfl) ?_
          refine lv_dup Bx.1 Bx.2.1 d_Rd_readString_118 rfl ?_
          refine f_get Bx hP (by omega) hh77 rfl inRd 2 (by decide) kw_146 rfl rfl d_Rd_readString_119 ?_
          refine lv_iconst (v := 1) Bx.1 Bx.2.1 d_Rd_readString_122 (by decide) ?_
          refine lv_iadd Bx.1 Bx.2.1 d_Rd_readString_123 ?_
          rw [show nI a1 + 1 = nI (a1 + 1) from nI_add (a1) (1)]
          refine f_put Bx hP hD hS (by omega) hh77 rfl inRd tyRd okRd nmRd 2 (by decide) kw_146 rfl rfl rfl rfl (Nat.le_of_ble_eq_true rfl) d_Rd_readString_124 (fun H locs hP hS => ?_)
          obtain ⟨mem94, e_mem94⟩ : ∃ z, z = va_up mem76 (222) (.inr (4, [.ref (ad 1), .ref (ad 5), .int (nI (a1 + 1)), .int (ft55)])) := ⟨_, rfl⟩
          have hP : va_P D vcl (fw n ad mem94) H := by rw [e_mem94]; exact hP
          have hD : va_D (Az sz) (fw n ad mem94) := fw_D hD
          have h_mem94 : mem94 (222) = .inr (4, [.ref (ad 1), .ref (ad 5), .int (nI (a1 + 1)), .int (ft55)]) := by rw [e_mem94, va_up_self]
          have hh95 := (va_up_ne mem76 (.inr (4, [.ref (ad 1), .ref (ad 5), .int (nI (a1 + 1)), .int (ft55)])) (show (1 : Nat) ≠ 222 by first | decide | assumption | omega)).trans hh78
          rw [← e_mem94] at hh95
          have hh96 := (va_up_ne mem76 (.inr (4, [.ref (ad 1), .ref (ad 5), .int (nI (a1 + 1)), .int (ft55)])) (show (5 : Nat) ≠ 222 by first | decide | assumption | omega)).trans hh79
          rw [← e_mem94] at hh96
          have hh97 := (va_up_ne mem76 (.inr (4, [.ref (ad 1), .ref (ad 5), .int (nI (a1 + 1)), .int (ft55)])) (show (220 : Nat) ≠ 222 by first | decide | assumption | omega)).trans hh80
          rw [← e_mem94] at hh97
          have hh98 := (va_up_ne mem76 (.inr (4, [.ref (ad 1), .ref (ad 5), .int (nI (a1 + 1)), .int (ft55)])) (show ((20 + 2 * Ec) : Nat) ≠ 222 by first | decide | assumption | omega)).trans h_mem76
          rw [← e_mem94] at hh98
          have hRX99 : RX cy ad lim (a1 + 1) (R) (Ec + 1) (to) (nm) m0 mem94 := by rw [e_mem94]; exact hRX81.at
          refine lv_aload_n Bx.1 Bx.2.1 d_Rd_readString_127 rfl (lv_at hl 1 rfl) ?_
          exact x_aret hx hb hlocks hr (⟨by omega, by rw [hN]; exact hb86, rfl, by rw [hN]; omega, by rw [hN]; exact hRX99⟩) hP hS d_Rd_readString_128
      · have hN100 : ¬ 12 ≤ k := fun q9 => hb74 (show nI (12) ≤ nI (k) from (nI_leI (by omega) (by omega)).mpr q9)
        refine lv_aload_n Bx.1 Bx.2.1 d_Rd_readString_41 rfl (lv_at hl 2 rfl) ?_
        refine f_callVi (na := 0) (As := []) (rest := []) Bx hml E hP hD hS (by omega) h9_56 rfl (m_Rd_peekX l hn hT hf hz50 (by omega)) kw_353 kw_355 sel_Rd_peek kw_6 kw_356 (by decide +kernel) ⟨rfl, rfl⟩ ⟨Nat.le_of_ble_eq_true rfl, Nat.le_of_ble_eq_true rfl⟩ rfl hl.1 (Nat.le_of_ble_eq_true rfl) d_Rd_readString_42 ⟨Nat.le_of_ble_eq_true rfl, Nat.le_of_ble_eq_true rfl⟩ (fun r102 mem103 H locs hq hP hS => ?_)
        have hD : va_D (Az sz) (fw n ad mem103) := fw_D hD
        obtain ⟨hqe, hpk101⟩ := hq
        rw [hqe] at hP hD
        subst hpk101
        refine f_callSi (na := 1) (As := [.int (hereF Z T (a1))]) (rest := []) Bx hml E.2.1 (m_Rd_isStringCodeX l (hereF Z T (a1))) kw_459 kw_460 kw_6 kw_461 (by decide +kernel) ⟨rfl, rfl⟩ ⟨Nat.le_of_ble_eq_true rfl, Nat.le_of_ble_eq_true rfl⟩ rfl hl.1 (Nat.le_of_ble_eq_true rfl) d_Rd_readString_45 ⟨Nat.le_of_ble_eq_true rfl, Nat.le_of_ble_eq_true rfl⟩ (fun r106 hs105 => ?_)
        subst hs105
        refine lv_if_eq Bx.1 Bx.2.1 d_Rd_readString_48 rfl (fun hb107 => ?_) (fun hb107 => ?_)
        · have hN : a + 1 + strN T Z 12 (a + 1) = a1 := by rw [← hz52, strN_no (stC_0 hb107)]; omega
          refine lv_aload_n Bx.1 Bx.2.1 d_Rd_readString_81 rfl (lv_at hl 1 rfl) ?_
          refine lv_aload_n Bx.1 Bx.2.1 d_Rd_readString_82 rfl (lv_at hl 2 rfl) ?_
          refine f_get Bx hP (by omega) h9_56 rfl inRd 1 (by decide) kw_145 rfl rfl d_Rd_readString_83 ?_
          refine f_getN Bx hP (by omega) h5_59 rfl inGr 2 (by decide) kw_120 rfl rfl d_Rd_readString_86 ?_
          refine f_getN Bx hP (by omega) h220_63 rfl inCh 1 (by decide) kw_33 rfl rfl d_Rd_readString_89 ?_
          refine f_putN Bx hP hD hS (by omega) he_72 rfl inEl tyEl okEl nmEl 2 (by decide) kw_82 rfl rfl rfl rfl (Nat.le_of_ble_eq_true rfl) d_Rd_readString_92 (fun H locs hP hS => ?_)
          obtain ⟨mem108, e_mem108⟩ : ∃ z, z = va_up mem9 ((20 + 2 * Ec)) (.inr (2, [.int (k66), .int (lo67), .int (nI S60), as69, pa70, ne71, .ref (ad (21 + 2 * Ec))])) := ⟨_, rfl⟩
          have hP : va_P D vcl (fw n ad mem108) H := by rw [e_mem108]; exact hP
          have hD : va_D (Az sz) (fw n ad mem108) := fw_D hD
          have h_mem108 : mem108 ((20 + 2 * Ec)) = .inr (2, [.int (k66), .int (lo67), .int (nI S60), as69, pa70, ne71, .ref (ad (21 + 2 * Ec))]) := by rw [e_mem108, va_up_self]
          have hh109 := (va_up_ne mem9 (.inr (2, [.int (k66), .int (lo67), .int (nI S60), as69, pa70, ne71, .ref (ad (21 + 2 * Ec))])) (show (222 : Nat) ≠ (20 + 2 * Ec) by first | decide | assumption | omega)).trans h9_56
          rw [← e_mem108] at hh109
          have hh110 := (va_up_ne mem9 (.inr (2, [.int (k66), .int (lo67), .int (nI S60), as69, pa70, ne71, .ref (ad (21 + 2 * Ec))])) (show (1 : Nat) ≠ (20 + 2 * Ec) by first | decide | assumption | omega)).trans h1_57
          rw [← e_mem108] at hh110
          have hh111 := (va_up_ne mem9 (.inr (2, [.int (k66), .int (lo67), .int (nI S60), as69, pa70, ne71, .ref (ad (21 + 2 * Ec))])) (show (5 : Nat) ≠ (20 + 2 * Ec) by first | decide | assumption | omega)).trans h5_59
          rw [← e_mem108] at hh111
          have hh112 := (va_up_ne mem9 (.inr (2, [.int (k66), .int (lo67), .int (nI S60), as69, pa70, ne71, .ref (ad (21 + 2 * Ec))])) (show (220 : Nat) ≠ (20 + 2 * Ec) by first | decide | assumption | omega)).trans h220_63
          rw [← e_mem108] at hh112
          have hRX113 : RX cy ad lim (a1) (R) (Ec + 1) (to) (nm) m0 mem108 := by rw [e_mem108]; exact hz50.el (by omega) (hz50.1.mk (by omega) (hz50.1.1.upEl (by omega) ho_73))
          refine lv_aload_n Bx.1 Bx.2.1 d_Rd_readString_95 rfl (lv_at hl 2 rfl) ?_
          refine lv_aload_n Bx.1 Bx.2.1 d_Rd_readString_96 rfl (lv_at hl 2 rfl) ?_
          refine f_callVi (na := 0) (As := []) (rest := [.ref (ad 222)]) Bx hml E hP hD hS (by omega) hh109 rfl (m_Rd_peekX l hn hT hf hRX113 (by omega)) kw_353 kw_355 sel_Rd_peek kw_6 kw_356 (by decide +kernel) ⟨rfl, rfl⟩ ⟨Nat.le_of_ble_eq_true rfl, Nat.le_of_ble_eq_true rfl⟩ rfl hl.1 (Nat.le_of_ble_eq_true rfl) d_Rd_readString_97 ⟨Nat.le_of_ble_eq_true rfl, Nat.le_of_ble_eq_true rfl⟩ (fun r115 mem116 H locs hq hP hS => ?_)
          have hD : va_D (Az sz) (fw n ad mem116) := fw_D hD
          obtain ⟨hqe, hpk114⟩ := hq
          rw [hqe] at hP hD
          subst hpk114
          refine lv_bipush (v := 34) Bx.1 Bx.2.1 d_Rd_readString_100 (by decide) ?_
          refine lv_icmp_ne Bx.1 Bx.2.1 d_Rd_readString_102 rfl (fun hb118 => ?_) (fun hb118 => ?_)
          · refine lv_iconst (v := 0) Bx.1 Bx.2.1 d_Rd_readString_109 (by decide) ?_
            refine lv_aload_n Bx.1 Bx.2.1 d_Rd_readString_110 rfl (lv_at hl 2 rfl) ?_
            refine f_get Bx hP (by omega) hh109 rfl inRd 2 (by decide) kw_146 rfl rfl d_Rd_readString_111 ?_
            refine f_xVv (na := 2) (As := [.int (0), .int (nI a1)]) (rest := []) Bx hml E hP hD hS (by omega) hh109 rfl (m_Rd_needReadableX l hlt hn hT hf hRX113 (by omega)) kw_360 kw_362 sel_Rd_needReadable kw_6 kw_363 (by decide +kernel) ⟨rfl, rfl⟩ ⟨Nat.le_of_ble_eq_true rfl, Nat.le_of_ble_eq_true rfl⟩ rfl hl.1 (Nat.le_of_ble_eq_true rfl) d_Rd_readString_114 ⟨Nat.le_of_ble_eq_true rfl, Nat.le_of_ble_eq_true rfl⟩ (fun X ce q9 memx H locs hx9 hP hS g1 g2 g3 => f_out hlocks hno hP hS g1 g2 g3 ⟨Nat.le_of_ble_eq_true rfl, Nat.le_of_ble_eq_true rfl⟩ ⟨hx9.1, (Or.inr (by rw [hN]; exact hb118))⟩) (fun mem120 H locs hq hP hS => ?_)
            have hD : va_D (Az sz) (fw n ad mem120) := fw_D hD
            obtain ⟨hqe, hg121⟩ := hq
            rw [hqe] at hP hD
            exact absurd rfl hg121
          · have hlt122 := hereF_lt (by rw [hb118]; decide)
            refine lv_iconst (v := 1) Bx.1 Bx.2.1 d_Rd_readString_105 (by decide) ?_
            refine lv_goto Bx.1 Bx.2.1 d_Rd_readString_106 rfl ?_
            refine lv_aload_n Bx.1 Bx.2.1 d_Rd_readString_110 rfl (lv_at hl 2 rfl) ?_
            refine f_get Bx hP (by omega) hh109 rfl inRd 2 (by decide) kw_146 rfl rfl d_Rd_readString_111 ?_
            refine f_xVv (na := 2) (As := [.int (1), .int (nI a1)]) (rest := []) Bx hml E hP hD hS (by omega) hh109 rfl (m_Rd_needReadableX l hlt hn hT hf hRX113 (by omega)) kw_360 kw_362 sel_Rd_needReadable kw_6 kw_363 (by decide +kernel) ⟨rfl, rfl⟩ ⟨Nat.le_of_ble_eq_true rfl, Nat.le_of_ble_eq_true rfl⟩ rfl hl.1 (Nat.le_of_ble_eq_true rfl) d_Rd_readString_114 ⟨Nat.le_of_ble_eq_true rfl, Nat.le_of_ble_eq_true rfl⟩ (fun X ce q9 memx H locs hx9 hP hS g1 g2 g3 => f_out hlocks hno hP hS g1 g2 g3 ⟨Nat.le_of_ble_eq_true rfl, Nat.le_of_ble_eq_true rfl⟩ ⟨hx9.1, absurd hx9.2 (by decide)⟩) (fun mem124 H locs hq hP hS => ?_)
            have hD : va_D (Az sz) (fw n ad mem124) := fw_D hD
            obtain ⟨hqe, hg125⟩ := hq
            rw [hqe] at hP hD
            refine lv_aload_n Bx.1 Bx.2.1 d_Rd_readString_117 rfl (lv_at hl 2 rfl) ?_
            refine lv_dup Bx.1 Bx.2.1 d_Rd_readString_118 rfl ?_
            refine f_get Bx hP (by omega) hh109 rfl inRd 2 (by decide) kw_146 rfl rfl d_Rd_readString_119 ?_
            refine lv_iconst (v := 1) Bx.1 Bx.2.1 d_Rd_readString_122 (by decide) ?_
            refine lv_iadd Bx.1 Bx.2.1 d_Rd_readString_123 ?_
            rw [show nI a1 + 1 = nI (a1 + 1) from nI_add (a1) (1)]
            refine f_put Bx hP hD hS (by omega) hh109 rfl inRd tyRd okRd nmRd 2 (by decide) kw_146 rfl rfl rfl rfl (Nat.le_of_ble_eq_true rfl) d_Rd_readString_124 (fun H locs hP hS => ?_)
            obtain ⟨mem126, e_mem126⟩ : ∃ z, z = va_up mem108 (222) (.inr (4, [.ref (ad 1), .ref (ad 5), .int (nI (a1 + 1)), .int (ft55)])) := ⟨_, rfl⟩
            have hP : va_P D vcl (fw n ad mem126) H := by rw [e_mem126]; exact hP
            have hD : va_D (Az sz) (fw n ad mem126) := fw_D hD
            have h_mem126 : mem126 (222) = .inr (4, [.ref (ad 1), .ref (ad 5), .int (nI (a1 + 1)), .int (ft55)]) := by rw [e_mem126, va_up_self]
            have hh127 := (va_up_ne mem108 (.inr (4, [.ref (ad 1), .ref (ad 5), .int (nI (a1 + 1)), .int (ft55)])) (show (1 : Nat) ≠ 222 by first | decide | assumption | omega)).trans hh110
            rw [← e_mem126] at hh127
            have hh128 := (va_up_ne mem108 (.inr (4, [.ref (ad 1), .ref (ad 5), .int (nI (a1 + 1)), .int (ft55)])) (show (5 : Nat) ≠ 222 by first | decide | assumption | omega)).trans hh111
            rw [← e_mem126] at hh128
            have hh129 := (va_up_ne mem108 (.inr (4, [.ref (ad 1), .ref (ad 5), .int (nI (a1 + 1)), .int (ft55)])) (show (220 : Nat) ≠ 222 by first | decide | assumption | omega)).trans hh112
            rw [← e_mem126] at hh129
            have hh130 := (va_up_ne mem108 (.inr (4, [.ref (ad 1), .ref (ad 5), .int (nI (a1 + 1)), .int (ft55)])) (show ((20 + 2 * Ec) : Nat) ≠ 222 by first | decide | assumption | omega)).trans h_mem108
            rw [← e_mem126] at hh130
            have hRX131 : RX cy ad lim (a1 + 1) (R) (Ec + 1) (to) (nm) m0 mem126 := by rw [e_mem126]; exact hRX113.at
            refine lv_aload_n Bx.1 Bx.2.1 d_Rd_readString_127 rfl (lv_at hl 1 rfl) ?_
            exact x_aret hx hb hlocks hr (⟨by omega, by rw [hN]; exact hb118, rfl, by rw [hN]; omega, by rw [hN]; exact hRX131⟩) hP hS d_Rd_readString_128
        · have hlt9 : a1 < Z := hereF_lt (stC_ne hb107)
          refine lv_aload_n Bx.1 Bx.2.1 d_Rd_readString_51 rfl (lv_at hl 2 rfl) ?_
          refine f_get Bx hP (by omega) h9_56 rfl inRd 1 (by decide) kw_145 rfl rfl d_Rd_readString_52 ?_
          refine f_getN Bx hP (by omega) h5_59 rfl inGr 2 (by decide) kw_120 rfl rfl d_Rd_readString_55 ?_
          refine lv_aload_n Bx.1 Bx.2.1 d_Rd_readString_58 rfl (lv_at hl 2 rfl) ?_
          refine f_callVi (na := 0) (As := []) (rest := [.ref (ad 220)]) Bx hml E hP hD hS (by omega) h9_56 rfl (m_Rd_peekX l hn hT hf hz50 (by omega)) kw_353 kw_355 sel_Rd_peek kw_6 kw_356 (by decide +kernel) ⟨rfl, rfl⟩ ⟨Nat.le_of_ble_eq_true rfl, Nat.le_of_ble_eq_true rfl⟩ rfl hl.1 (Nat.le_of_ble_eq_true rfl) d_Rd_readString_59 ⟨Nat.le_of_ble_eq_true rfl, Nat.le_of_ble_eq_true rfl⟩ (fun r133 mem134 H locs hq hP hS => ?_)
          have hD : va_D (Az sz) (fw n ad mem134) := fw_D hD
          obtain ⟨hqe, hpk132⟩ := hq
          rw [hqe] at hP hD
          subst hpk132
          refine f_callVv (na := 1) (As := [.int (hereF Z T (a1))]) (rest := []) Bx hml E hP hD hS (by omega) h220_63 rfl (m_Ch_appendX l hn hT hf hz50 (by omega)) kw_462 kw_318 kw_319 kw_2 kw_320 (by decide +kernel) ⟨rfl, rfl⟩ ⟨Nat.le_of_ble_eq_true rfl, Nat.le_of_ble_eq_true rfl⟩ rfl hl.1 (Nat.le_of_ble_eq_true rfl) d_Rd_readString_62 ⟨Nat.le_of_ble_eq_true rfl, Nat.le_of_ble_eq_true rfl⟩ (fun mem138 H locs hRX136 hP hS => ?_)
          have hD : va_D (Az sz) (fw n ad mem138) := fw_D hD
          obtain ⟨ft139, h9_140⟩ := hRX136.2.1
          have h1_141 : mem138 1 = .inr (0, [.ref (ad 2), .int (nI Z)]) := (hRX136.1.2.2 1 (by omega)).trans hT.1
          have h2_142 : mem138 2 = .inl (cy 0, 240, .inl f) := (hRX136.1.2.2 2 (by omega)).trans hT.2.2
          have h5_143 := hRX136.1.1.2.1
          have hbd149 := hRX136.1.1.1
          obtain ⟨S144, g145, hS_146, h220_147, h221_148⟩ := hRX136.1.1.2.2.2.2.2.2
          obtain ⟨k150, lo151, hi152, as153, pa154, ne155, he_156, ho_157⟩ := (hRX136.1.1.2.2.2.2.2.1 Ec (by omega)).1
          refine lv_aload_n Bx.1 Bx.2.1 d_Rd_readString_65 rfl (lv_at hl 2 rfl) ?_
          refine lv_dup Bx.1 Bx.2.1 d_Rd_readString_66 rfl ?_
          refine f_get Bx hP (by omega) h9_140 rfl inRd 2 (by decide) kw_146 rfl rfl d_Rd_readString_67 ?_
          refine lv_iconst (v := 1) Bx.1 Bx.2.1 d_Rd_readString_70 (by decide) ?_
          refine lv_iadd Bx.1 Bx.2.1 d_Rd_readString_71 ?_
          rw [show nI a1 + 1 = nI (a1 + 1) from nI_add (a1) (1)]
          refine f_put Bx hP hD hS (by omega) h9_140 rfl inRd tyRd okRd nmRd 2 (by decide) kw_146 rfl rfl rfl rfl (Nat.le_of_ble_eq_true rfl) d_Rd_readString_72 (fun H locs hP hS => ?_)
          obtain ⟨mem158, e_mem158⟩ : ∃ z, z = va_up mem138 (222) (.inr (4, [.ref (ad 1), .ref (ad 5), .int (nI (a1 + 1)), .int (ft139)])) := ⟨_, rfl⟩
          have hP : va_P D vcl (fw n ad mem158) H := by rw [e_mem158]; exact hP
          have hD : va_D (Az sz) (fw n ad mem158) := fw_D hD
          have h_mem158 : mem158 (222) = .inr (4, [.ref (ad 1), .ref (ad 5), .int (nI (a1 + 1)), .int (ft139)]) := by rw [e_mem158, va_up_self]
          have hh159 := (va_up_ne mem138 (.inr (4, [.ref (ad 1), .ref (ad 5), .int (nI (a1 + 1)), .int (ft139)])) (show (1 : Nat) ≠ 222 by first | decide | assumption | omega)).trans h1_141
          rw [← e_mem158] at hh159
          have hh160 := (va_up_ne mem138 (.inr (4, [.ref (ad 1), .ref (ad 5), .int (nI (a1 + 1)), .int (ft139)])) (show (5 : Nat) ≠ 222 by first | decide | assumption | omega)).trans h5_143
          rw [← e_mem158] at hh160
          have hh161 := (va_up_ne mem138 (.inr (4, [.ref (ad 1), .ref (ad 5), .int (nI (a1 + 1)), .int (ft139)])) (show (220 : Nat) ≠ 222 by first | decide | assumption | omega)).trans h220_147
          rw [← e_mem158] at hh161
          have hh162 := (va_up_ne mem138 (.inr (4, [.ref (ad 1), .ref (ad 5), .int (nI (a1 + 1)), .int (ft139)])) (show ((20 + 2 * Ec) : Nat) ≠ 222 by first | decide | assumption | omega)).trans he_156
          rw [← e_mem158] at hh162
          have hRX163 : RX cy ad lim (a1 + 1) (R) (Ec + 1) (to) (nm) m0 mem158 := by rw [e_mem158]; exact hRX136.at
          refine lv_iinc (lv' := [(4, .int ((nI k + (1)))), (3, .ref (ad (20 + 2 * Ec))), (0, .ref (ad 222)), (1, .int (st)), (2, .int (kd))]) Bx.1 Bx.2.1 d_Rd_readString_75 hl (k := 0) rfl rfl (by decide) rfl (fun ls hl => ?_)
          rw [show (nI k + (1) : Int32) = nI (k + 1) from nI_1 (k)] at hl
          refine lv_goto Bx.1 Bx.2.1 d_Rd_readString_78 rfl ?_
          have hsk2 : strN T Z (12 - (k + 1)) (a1 + 1) + (k + 1) = strN T Z 12 (a + 1) := by
            obtain ⟨r6, hr6⟩ : ∃ r6, 12 - k = r6 + 1 := ⟨12 - k - 1, by omega⟩
            rw [← hz52, hr6, strN_on (stC_1 hb107).1 (stC_1 hb107).2, show 12 - (k + 1) = r6 by omega]; omega
          exact ih53 mem158 (a1 + 1) (k + 1) _ _ _ (by have := hmeas54; omega) (hRX163) (⟨by omega, by omega, by omega⟩) (hsk2) hP hD hS (lv_sub hl [0, 1, 2, 3, 4] rfl)
  exact loop48 _ mem42 (a + 1) (0) _ _ _ (Nat.lt_succ_self _) (hRX47) (⟨by omega, by omega, by omega⟩) (rfl) hP hD hS (lv_sub hl [0, 1, 2, 3, 4] rfl)
set_option maxHeartbeats 4000000 in
set_option maxRecDepth 100000 in
theorem m_Rd_readExactStringX (l : Launch) {D : va_G} {cy : Nat → ClassId} {sz n : Nat} {ad : Nat → Nat} {mem : Nat → va_E} {Z a R Ec lim : Nat} {f T : Nat → Int32} {to : Nat → Int32} {nm : Nat → Int64} {m0 : Nat → va_E} (hlt : l.stackTraces = false) (hn : 224 ≤ n) (hT : TX cy ad Z f m0) (hf : ∀ k, k < Z → f k = T k) (hRX : RX cy ad lim a R Ec to nm m0 mem) (haB : a ≤ 300) (haZ : a < Z) : NXr l D cy sz n ad y_Rd_readExactString c_Rd_readExactString 2 (some (.object "AbnfChart$Element")) ({ frames := 12, cells := 1, slots := 6, locals := 280 } : Room) mem [.ref (ad 222)] (fun r mem' => hereF Z T (a + 1 + 1) = 34 ∧ Ec < 100 ∧ hereF Z T (a + 1 + 1 + 1 + strN T Z 12 (a + 1 + 1 + 1)) = 34 ∧ r = ad (20 + 2 * Ec) ∧ a + 1 + 1 + 1 + strN T Z 12 (a + 1 + 1 + 1) + 1 ≤ Z ∧ RX cy ad lim (a + 1 + 1 + 1 + strN T Z 12 (a + 1 + 1 + 1) + 1) R (Ec + 1) to nm m0 mem') (fun X mem' => ((X = cIA ∨ X = cIS) ∧ ∃ rc' ec' : Nat, RS cy ad lim rc' ec' m0 mem') ∧ (¬ hereF Z T (a + 1 + 1) = 34 ∨ Ec = 100 ∨ ¬ hereF Z T (a + 1 + 1 + 1 + strN T Z 12 (a + 1 + 1 + 1)) = 34)) := by
  refine vx_ofW (cc := c_Rd_readExactString) (maxL := 2) (ret := (some (.object "AbnfChart$Element"))) (by decide) rfl ?_
  intro p e s m args below meth c s₁ B hml hno hv
  obtain ⟨rfl, E, hP, hD⟩ := hv
  have hx := B.exec
  have hb := B.bytes
  have hr := B.returns
  have hlocks := B.notSynchronized
  have Bx : MB p s m [.ref (ad 222)].toArray c c_Rd_readExactString "AbnfChart$Reader" D cy := ⟨hx, hb, tb_all (atoms_spec B.pre) E.2.1, findClass_of_methodNamed B.named, E.1⟩
  have hS : va_S (Az sz) s.heap s.heap [] := va_S.rf
  have hl := lv_entry ([.ref (ad 222)]) (n := 2) (Nat.le_of_ble_eq_true rfl)
  rw [lg_entry_eq]
  generalize (lg_sl ([.ref (ad 222)]) ++ List.replicate (2 - (lg_sl ([.ref (ad 222)])).length) Slot.unset).toArray = ls at hl ⊢
  have hl : lv_has ls 2 [(0, .ref (ad 222))] := hl
  have hZ9 := hT.2.1
  have hbd9 := hRX.1.1.1
  obtain ⟨ft1, h9_2⟩ := hRX.2.1
  have h1_3 : mem 1 = .inr (0, [.ref (ad 2), .int (nI Z)]) := (hRX.1.2.2 1 (by omega)).trans hT.1
  have h2_4 : mem 2 = .inl (cy 0, 240, .inl f) := (hRX.1.2.2 2 (by omega)).trans hT.2.2
  have h5_5 := hRX.1.1.2.1
  have hbd11 := hRX.1.1.1
  obtain ⟨S6, g7, hS_8, h220_9, h221_10⟩ := hRX.1.1.2.2.2.2.2.2
  refine lv_aload_n Bx.1 Bx.2.1 d_Rd_readExactString_0 rfl (lv_at hl 0 rfl) ?_
  refine f_get Bx hP (by omega) h9_2 rfl inRd 2 (by decide) kw_146 rfl rfl d_Rd_readExactString_1 ?_
  refine lv_istore_n (lv' := [(1, .int (nI a)), (0, .ref (ad 222))]) Bx.1 Bx.2.1 d_Rd_readExactString_4 rfl hl (by decide) rfl (fun ls hl => ?_)
  refine lv_aload_n Bx.1 Bx.2.1 d_Rd_readExactString_5 rfl (lv_at hl 1 rfl) ?_
  refine lv_dup Bx.1 Bx.2.1 d_Rd_readExactString_6 rfl ?_
  refine f_get Bx hP (by omega) h9_2 rfl inRd 2 (by decide) kw_146 rfl rfl d_Rd_readExactString_7 ?_
  refine lv_iconst (v := 2) Bx.1 Bx.2.1 d_Rd_readExactString_10 (by decide) ?_
  refine lv_iadd Bx.1 Bx.2.1 d_Rd_readExactString_11 ?_
  rw [show nI a + 2 = nI (a + 2) from nI_add (a) (2)]
  refine f_put Bx hP hD hS (by omega) h9_2 rfl inRd tyRd okRd nmRd 2 (by decide) kw_146 rfl rfl rfl rfl (Nat.le_of_ble_eq_true rfl) d_Rd_readExactString_12 (fun H locs hP hS => ?_)
  obtain ⟨mem12, e_mem12⟩ : ∃ z, z = va_up mem (222) (.inr (4, [.ref (ad 1), .ref (ad 5), .int (nI (a + 2)), .int (ft1)])) := ⟨_, rfl⟩
  have hP : va_P D vcl (fw n ad mem12) H := by rw [e_mem12]; exact hP
  have hD : va_D (Az sz) (fw n ad mem12) := fw_D hD
  have h_mem12 : mem12 (222) = .inr (4, [.ref (ad 1), .ref (ad 5), .int (nI (a + 2)), .int (ft1)]) := by rw [e_mem12, va_up_self]
  have hh13 := (va_up_ne mem (.inr (4, [.ref (ad 1), .ref (ad 5), .int (nI (a + 2)), .int (ft1)])) (show (1 : Nat) ≠ 222 by first | decide | assumption | omega)).trans h1_3
  rw [← e_mem12] at hh13
  have hh14 := (va_up_ne mem (.inr (4, [.ref (ad 1), .ref (ad 5), .int (nI (a + 2)), .int (ft1)])) (show (5 : Nat) ≠ 222 by first | decide | assumption | omega)).trans h5_5
  rw [← e_mem12] at hh14
  have hh15 := (va_up_ne mem (.inr (4, [.ref (ad 1), .ref (ad 5), .int (nI (a + 2)), .int (ft1)])) (show (220 : Nat) ≠ 222 by first | decide | assumption | omega)).trans h220_9
  rw [← e_mem12] at hh15
  have hRX16 : RX cy ad lim (a + 2) (R) (Ec) (to) (nm) m0 mem12 := by rw [e_mem12]; exact hRX.at
  refine lv_aload_n Bx.1 Bx.2.1 d_Rd_readExactString_15 rfl (lv_at hl 1 rfl) ?_
  refine lv_aload_n Bx.1 Bx.2.1 d_Rd_readExactString_16 rfl (lv_at hl 1 rfl) ?_
  refine f_callVi (na := 0) (As := []) (rest := [.ref (ad 222)]) Bx hml E hP hD hS (by omega) h_mem12 rfl (m_Rd_peekX l hn hT hf hRX16 (by omega)) kw_353 kw_355 sel_Rd_peek kw_6 kw_356 (by decide +kernel) ⟨rfl, rfl⟩ ⟨Nat.le_of_ble_eq_true rfl, Nat.le_of_ble_eq_true rfl⟩ rfl hl.1 (Nat.le_of_ble_eq_true rfl) d_Rd_readExactString_17 ⟨Nat.le_of_ble_eq_true rfl, Nat.le_of_ble_eq_true rfl⟩ (fun r18 mem19 H locs hq hP hS => ?_)
  have hD : va_D (Az sz) (fw n ad mem19) := fw_D hD
  obtain ⟨hqe, hpk17⟩ := hq
  rw [hqe] at hP hD
  subst hpk17
  refine lv_bipush (v := 34) Bx.1 Bx.2.1 d_Rd_readExactString_20 (by decide) ?_
  refine lv_icmp_ne Bx.1 Bx.2.1 d_Rd_readExactString_22 rfl (fun hb21 => ?_) (fun hb21 => ?_)
  · refine lv_iconst (v := 0) Bx.1 Bx.2.1 d_Rd_readExactString_29 (by decide) ?_
    refine lv_aload_n Bx.1 Bx.2.1 d_Rd_readExactString_30 rfl (lv_at hl 1 rfl) ?_
    refine f_get Bx hP (by omega) h_mem12 rfl inRd 2 (by decide) kw_146 rfl rfl d_Rd_readExactString_31 ?_
    refine f_xVv (na := 2) (As := [.int (0), .int (nI (a + 2))]) (rest := []) Bx hml E hP hD hS (by omega) h_mem12 rfl (m_Rd_needReadableX l hlt hn hT hf hRX16 (by omega)) kw_360 kw_362 sel_Rd_needReadable kw_6 kw_363 (by decide +kernel) ⟨rfl, rfl⟩ ⟨Nat.le_of_ble_eq_true rfl, Nat.le_of_ble_eq_true rfl⟩ rfl hl.1 (Nat.le_of_ble_eq_true rfl) d_Rd_readExactString_34 ⟨Nat.le_of_ble_eq_true rfl, Nat.le_of_ble_eq_true rfl⟩ (fun X ce q9 memx H locs hx9 hP hS g1 g2 g3 => f_out hlocks hno hP hS g1 g2 g3 ⟨Nat.le_of_ble_eq_true rfl, Nat.le_of_ble_eq_true rfl⟩ ⟨hx9.1, Or.inl hb21⟩) (fun mem23 H locs hq hP hS => ?_)
    have hD : va_D (Az sz) (fw n ad mem23) := fw_D hD
    obtain ⟨hqe, hg24⟩ := hq
    rw [hqe] at hP hD
    exact absurd rfl hg24
  · have hlt25 := hereF_lt (by rw [hb21]; decide)
    refine lv_iconst (v := 1) Bx.1 Bx.2.1 d_Rd_readExactString_25 (by decide) ?_
    refine lv_goto Bx.1 Bx.2.1 d_Rd_readExactString_26 rfl ?_
    refine lv_aload_n Bx.1 Bx.2.1 d_Rd_readExactString_30 rfl (lv_at hl 1 rfl) ?_
    refine f_get Bx hP (by omega) h_mem12 rfl inRd 2 (by decide) kw_146 rfl rfl d_Rd_readExactString_31 ?_
    refine f_xVv (na := 2) (As := [.int (1), .int (nI (a + 2))]) (rest := []) Bx hml E hP hD hS (by omega) h_mem12 rfl (m_Rd_needReadableX l hlt hn hT hf hRX16 (by omega)) kw_360 kw_362 sel_Rd_needReadable kw_6 kw_363 (by decide +kernel) ⟨rfl, rfl⟩ ⟨Nat.le_of_ble_eq_true rfl, Nat.le_of_ble_eq_true rfl⟩ rfl hl.1 (Nat.le_of_ble_eq_true rfl) d_Rd_readExactString_34 ⟨Nat.le_of_ble_eq_true rfl, Nat.le_of_ble_eq_true rfl⟩ (fun X ce q9 memx H locs hx9 hP hS g1 g2 g3 => f_out hlocks hno hP hS g1 g2 g3 ⟨Nat.le_of_ble_eq_true rfl, Nat.le_of_ble_eq_true rfl⟩ ⟨hx9.1, absurd hx9.2 (by decide)⟩) (fun mem27 H locs hq hP hS => ?_)
    have hD : va_D (Az sz) (fw n ad mem27) := fw_D hD
    obtain ⟨hqe, hg28⟩ := hq
    rw [hqe] at hP hD
    refine lv_aload_n Bx.1 Bx.2.1 d_Rd_readExactString_37 rfl (lv_at hl 1 rfl) ?_
    refine lv_iload_n Bx.1 Bx.2.1 d_Rd_readExactString_38 rfl (lv_at hl 0 rfl) ?_
    refine lv_bipush (v := 6) Bx.1 Bx.2.1 d_Rd_readExactString_39 (by decide) ?_
    have haZ2 := hereF_lt (show hereF Z T (a + 2) ≠ -1 by rw [hb21]; decide)
    refine f_xVr (na := 2) (As := [.int (nI a), .int (6)]) (rest := []) Bx hml E hP hD hS (by omega) h_mem12 rfl (m_Rd_readStringX l hlt hn hT hf hRX16 (by omega) (by omega)) kw_455 kw_457 sel_Rd_readString kw_6 kw_458 (by decide +kernel) ⟨rfl, rfl⟩ ⟨Nat.le_of_ble_eq_true rfl, Nat.le_of_ble_eq_true rfl⟩ rfl hl.1 (Nat.le_of_ble_eq_true rfl) d_Rd_readExactString_41 ⟨Nat.le_of_ble_eq_true rfl, Nat.le_of_ble_eq_true rfl⟩ (fun X ce q9 memx H locs hx9 hP hS g1 g2 g3 => f_out hlocks hno hP hS g1 g2 g3 ⟨Nat.le_of_ble_eq_true rfl, Nat.le_of_ble_eq_true rfl⟩ ⟨hx9.1, Or.inr hx9.2⟩) (fun r29 mem30 H locs hq hP hS => ?_)
    have hD : va_D (Az sz) (fw n ad mem30) := fw_D hD
    exact x_aret hx hb hlocks hr (⟨hb21, hq.1, hq.2.1, hq.2.2.1, hq.2.2.2.1, hq.2.2.2.2⟩) hP hS d_Rd_readExactString_44
set_option maxHeartbeats 4000000 in
set_option maxRecDepth 100000 in
theorem m_Rd_readValueX (l : Launch) {D : va_G} {cy : Nat → ClassId} {sz n : Nat} {ad : Nat → Nat} {mem : Nat → va_E} {Z a R Ec lim : Nat} {f T : Nat → Int32} {to : Nat → Int32} {nm : Nat → Int64} {m0 : Nat → va_E} (hlt : l.stackTraces = false) (hn : 224 ≤ n) (hT : TX cy ad Z f m0) (hf : ∀ k, k < Z → f k = T k) (hRX : RX cy ad lim a R Ec to nm m0 mem) (haB : a ≤ 300) (haZ : a < Z) : NXr l D cy sz n ad y_Rd_readValue c_Rd_readValue 7 (some (.object "AbnfChart$Element")) ({ frames := 12, cells := 1, slots := 6, locals := 280 } : Room) mem [.ref (ad 222)] (fun r mem' => Ec < 100 ∧ ∃ (ba : Int32) (a' : Nat), ((smF (hereF Z T (a + 1)) = 100 ∧ ba = 10) ∨ (smF (hereF Z T (a + 1)) = 120 ∧ ba = 16)) ∧ numsP T Z (a + 1 + 1) ba = some a' ∧ r = ad (20 + 2 * Ec) ∧ a < a' ∧ a' ≤ Z ∧ RX cy ad lim a' R (Ec + 1) to nm m0 mem') (fun X mem' => ((X = cIA ∨ X = cIS) ∧ ∃ rc' ec' : Nat, RS cy ad lim rc' ec' m0 mem') ∧ ((¬ smF (hereF Z T (a + 1)) = 100 ∧ ¬ smF (hereF Z T (a + 1)) = 120) ∨ Ec = 100 ∨ ∃ ba : Int32, ((smF (hereF Z T (a + 1)) = 100 ∧ ba = 10) ∨ (smF (hereF Z T (a + 1)) = 120 ∧ ba = 16)) ∧ numsP T Z (a + 1 + 1) ba = none)) := by
  refine vx_ofW (cc := c_Rd_readValue) (maxL := 7) (ret := (some (.object "AbnfChart$Element"))) (by decide) rfl ?_
  intro p e s m args below meth c s₁ B hml hno hv
  obtain ⟨rfl, E, hP, hD⟩ := hv
  have hx := B.exec
  have hb := B.bytes
  have hr := B.returns
  have hlocks := B.notSynchronized
  have Bx : MB p s m [.ref (ad 222)].toArray c c_Rd_readValue "AbnfChart$Reader" D cy := ⟨hx, hb, tb_all (atoms_spec B.pre) E.2.1, findClass_of_methodNamed B.named, E.1⟩
  have hS : va_S (Az sz) s.heap s.heap [] := va_S.rf
  have hl := lv_entry ([.ref (ad 222)]) (n := 7) (Nat.le_of_ble_eq_true rfl)
  rw [lg_entry_eq]
  generalize (lg_sl ([.ref (ad 222)]) ++ List.replicate (7 - (lg_sl ([.ref (ad 222)])).length) Slot.unset).toArray = ls at hl ⊢
  have hl : lv_has ls 7 [(0, .ref (ad 222))] := hl
  have hZ9 := hT.2.1
  have hbd9 := hRX.1.1.1
  obtain ⟨ft1, h9_2⟩ := hRX.2.1
  have h1_3 : mem 1 = .inr (0, [.ref (ad 2), .int (nI Z)]) := (hRX.1.2.2 1 (by omega)).trans hT.1
  have h2_4 : mem 2 = .inl (cy 0, 240, .inl f) := (hRX.1.2.2 2 (by omega)).trans hT.2.2
  have h5_5 := hRX.1.1.2.1
  have hbd11 := hRX.1.1.1
  obtain ⟨S6, g7, hS_8, h220_9, h221_10⟩ := hRX.1.1.2.2.2.2.2.2
  refine lv_aload_n Bx.1 Bx.2.1 d_Rd_readValue_0 rfl (lv_at hl 0 rfl) ?_
  refine f_get Bx hP (by omega) h9_2 rfl inRd 2 (by decide) kw_146 rfl rfl d_Rd_readValue_1 ?_
  refine lv_istore_n (lv' := [(1, .int (nI a)), (0, .ref (ad 222))]) Bx.1 Bx.2.1 d_Rd_readValue_4 rfl hl (by decide) rfl (fun ls hl => ?_)
  refine lv_aload_n Bx.1 Bx.2.1 d_Rd_readValue_5 rfl (lv_at hl 1 rfl) ?_
  refine lv_dup Bx.1 Bx.2.1 d_Rd_readValue_6 rfl ?_
  refine f_get Bx hP (by omega) h9_2 rfl inRd 2 (by decide) kw_146 rfl rfl d_Rd_readValue_7 ?_
  refine lv_iconst (v := 1) Bx.1 Bx.2.1 d_Rd_readValue_10 (by decide) ?_
  refine lv_iadd Bx.1 Bx.2.1 d_Rd_readValue_11 ?_
  rw [show nI a + 1 = nI (a + 1) from nI_add (a) (1)]
  refine f_put Bx hP hD hS (by omega) h9_2 rfl inRd tyRd okRd nmRd 2 (by decide) kw_146 rfl rfl rfl rfl (Nat.le_of_ble_eq_true rfl) d_Rd_readValue_12 (fun H locs hP hS => ?_)
  obtain ⟨mem12, e_mem12⟩ : ∃ z, z = va_up mem (222) (.inr (4, [.ref (ad 1), .ref (ad 5), .int (nI (a + 1)), .int (ft1)])) := ⟨_, rfl⟩
  have hP : va_P D vcl (fw n ad mem12) H := by rw [e_mem12]; exact hP
  have hD : va_D (Az sz) (fw n ad mem12) := fw_D hD
  have h_mem12 : mem12 (222) = .inr (4, [.ref (ad 1), .ref (ad 5), .int (nI (a + 1)), .int (ft1)]) := by rw [e_mem12, va_up_self]
  have hh13 := (va_up_ne mem (.inr (4, [.ref (ad 1), .ref (ad 5), .int (nI (a + 1)), .int (ft1)])) (show (1 : Nat) ≠ 222 by first | decide | assumption | omega)).trans h1_3
  rw [← e_mem12] at hh13
  have hh14 := (va_up_ne mem (.inr (4, [.ref (ad 1), .ref (ad 5), .int (nI (a + 1)), .int (ft1)])) (show (5 : Nat) ≠ 222 by first | decide | assumption | omega)).trans h5_5
  rw [← e_mem12] at hh14
  have hh15 := (va_up_ne mem (.inr (4, [.ref (ad 1), .ref (ad 5), .int (nI (a + 1)), .int (ft1)])) (show (220 : Nat) ≠ 222 by first | decide | assumption | omega)).trans h220_9
  rw [← e_mem12] at hh15
  have hRX16 : RX cy ad lim (a + 1) (R) (Ec) (to) (nm) m0 mem12 := by rw [e_mem12]; exact hRX.at
  refine lv_aload_n Bx.1 Bx.2.1 d_Rd_readValue_15 rfl (lv_at hl 1 rfl) ?_
  refine f_callVi (na := 0) (As := []) (rest := []) Bx hml E hP hD hS (by omega) h_mem12 rfl (m_Rd_peekX l hn hT hf hRX16 (by omega)) kw_353 kw_355 sel_Rd_peek kw_6 kw_356 (by decide +kernel) ⟨rfl, rfl⟩ ⟨Nat.le_of_ble_eq_true rfl, Nat.le_of_ble_eq_true rfl⟩ rfl hl.1 (Nat.le_of_ble_eq_true rfl) d_Rd_readValue_16 ⟨Nat.le_of_ble_eq_true rfl, Nat.le_of_ble_eq_true rfl⟩ (fun r18 mem19 H locs hq hP hS => ?_)
  have hD : va_D (Az sz) (fw n ad mem19) := fw_D hD
  obtain ⟨hqe, hpk17⟩ := hq
  rw [hqe] at hP hD
  subst hpk17
  refine f_callSNi (na := 1) (As := [.int (hereF Z T (a + 1))]) (rest := []) Bx hml E.2.1 (m_Ab_smallOfX l (hereF Z T (a + 1))) kw_372 kw_373 kw_1 kw_374 (by decide +kernel) ⟨rfl, rfl⟩ ⟨Nat.le_of_ble_eq_true rfl, Nat.le_of_ble_eq_true rfl⟩ rfl hl.1 (Nat.le_of_ble_eq_true rfl) d_Rd_readValue_19 ⟨Nat.le_of_ble_eq_true rfl, Nat.le_of_ble_eq_true rfl⟩ (fun r22 hs21 => ?_)
  subst hs21
  refine lv_istore_n (lv' := [(2, .int (smF (hereF Z T (a + 1)))), (1, .int (nI a)), (0, .ref (ad 222))]) Bx.1 Bx.2.1 d_Rd_readValue_22 rfl hl (by decide) rfl (fun ls hl => ?_)
  refine lv_aload_n Bx.1 Bx.2.1 d_Rd_readValue_23 rfl (lv_at hl 2 rfl) ?_
  refine lv_iload_n Bx.1 Bx.2.1 d_Rd_readValue_24 rfl (lv_at hl 0 rfl) ?_
  refine lv_bipush (v := 100) Bx.1 Bx.2.1 d_Rd_readValue_25 (by decide) ?_
  refine lv_icmp_eq Bx.1 Bx.2.1 d_Rd_readValue_27 rfl (fun hb23 => ?_) (fun hb23 => ?_)
  · have hlt8 := hereF_lt (smF_ne (Or.inl hb23))
    rw [hb23] at hl
    refine lv_iconst (v := 1) Bx.1 Bx.2.1 d_Rd_readValue_36 (by decide) ?_
    refine lv_goto Bx.1 Bx.2.1 d_Rd_readValue_37 rfl ?_
    refine lv_aload_n Bx.1 Bx.2.1 d_Rd_readValue_41 rfl (lv_at hl 2 rfl) ?_
    refine f_get Bx hP (by omega) h_mem12 rfl inRd 2 (by decide) kw_146 rfl rfl d_Rd_readValue_42 ?_
    refine f_xVv (na := 2) (As := [.int (1), .int (nI (a + 1))]) (rest := []) Bx hml E hP hD hS (by omega) h_mem12 rfl (m_Rd_needReadableX l hlt hn hT hf hRX16 (by omega)) kw_360 kw_362 sel_Rd_needReadable kw_6 kw_363 (by decide +kernel) ⟨rfl, rfl⟩ ⟨Nat.le_of_ble_eq_true rfl, Nat.le_of_ble_eq_true rfl⟩ rfl hl.1 (Nat.le_of_ble_eq_true rfl) d_Rd_readValue_45 ⟨Nat.le_of_ble_eq_true rfl, Nat.le_of_ble_eq_true rfl⟩ (fun X ce q9 memx H locs hx9 hP hS g1 g2 g3 => f_out hlocks hno hP hS g1 g2 g3 ⟨Nat.le_of_ble_eq_true rfl, Nat.le_of_ble_eq_true rfl⟩ ⟨hx9.1, absurd hx9.2 (by decide)⟩) (fun mem25 H locs hq hP hS => ?_)
    have hD : va_D (Az sz) (fw n ad mem25) := fw_D hD
    obtain ⟨hqe, hg26⟩ := hq
    rw [hqe] at hP hD
    refine lv_aload_n Bx.1 Bx.2.1 d_Rd_readValue_48 rfl (lv_at hl 2 rfl) ?_
    refine lv_dup Bx.1 Bx.2.1 d_Rd_readValue_49 rfl ?_
    refine f_get Bx hP (by omega) h_mem12 rfl inRd 2 (by decide) kw_146 rfl rfl d_Rd_readValue_50 ?_
    refine lv_iconst (v := 1) Bx.1 Bx.2.1 d_Rd_readValue_53 (by decide) ?_
    refine lv_iadd Bx.1 Bx.2.1 d_Rd_readValue_54 ?_
    rw [show nI (a + 1) + 1 = nI (a + 1 + 1) from nI_add (a + 1) (1)]
    refine f_put Bx hP hD hS (by omega) h_mem12 rfl inRd tyRd okRd nmRd 2 (by decide) kw_146 rfl rfl rfl rfl (Nat.le_of_ble_eq_true rfl) d_Rd_readValue_55 (fun H locs hP hS => ?_)
    obtain ⟨mem27, e_mem27⟩ : ∃ z, z = va_up mem12 (222) (.inr (4, [.ref (ad 1), .ref (ad 5), .int (nI (a + 1 + 1)), .int (ft1)])) := ⟨_, rfl⟩
    have hP : va_P D vcl (fw n ad mem27) H := by rw [e_mem27]; exact hP
    have hD : va_D (Az sz) (fw n ad mem27) := fw_D hD
    have h_mem27 : mem27 (222) = .inr (4, [.ref (ad 1), .ref (ad 5), .int (nI (a + 1 + 1)), .int (ft1)]) := by rw [e_mem27, va_up_self]
    have hh28 := (va_up_ne mem12 (.inr (4, [.ref (ad 1), .ref (ad 5), .int (nI (a + 1 + 1)), .int (ft1)])) (show (1 : Nat) ≠ 222 by first | decide | assumption | omega)).trans hh13
    rw [← e_mem27] at hh28
    have hh29 := (va_up_ne mem12 (.inr (4, [.ref (ad 1), .ref (ad 5), .int (nI (a + 1 + 1)), .int (ft1)])) (show (5 : Nat) ≠ 222 by first | decide | assumption | omega)).trans hh14
    rw [← e_mem27] at hh29
    have hh30 := (va_up_ne mem12 (.inr (4, [.ref (ad 1), .ref (ad 5), .int (nI (a + 1 + 1)), .int (ft1)])) (show (220 : Nat) ≠ 222 by first | decide | assumption | omega)).trans hh15
    rw [← e_mem27] at hh30
    have hRX31 : RX cy ad lim (a + 1 + 1) (R) (Ec) (to) (nm) m0 mem27 := by rw [e_mem27]; exact hRX16.at
    refine lv_iload_n Bx.1 Bx.2.1 d_Rd_readValue_58 rfl (lv_at hl 0 rfl) ?_
    refine lv_bipush (v := 100) Bx.1 Bx.2.1 d_Rd_readValue_59 (by decide) ?_
    refine lv_icmp_ne Bx.1 Bx.2.1 d_Rd_readValue_61 rfl (fun hb32 => ?_) (fun hb32 => ?_)
    · exact absurd hb32 (by decide)
    · refine lv_bipush (v := 10) Bx.1 Bx.2.1 d_Rd_readValue_64 (by decide) ?_
      refine lv_goto Bx.1 Bx.2.1 d_Rd_readValue_66 rfl ?_
      refine lv_istore_n (lv' := [(3, .int (10)), (2, .int (100)), (1, .int (nI a)), (0, .ref (ad 222))]) Bx.1 Bx.2.1 d_Rd_readValue_71 rfl hl (by decide) rfl (fun ls hl => ?_)
      refine lv_aload_n Bx.1 Bx.2.1 d_Rd_readValue_72 rfl (lv_at hl 3 rfl) ?_
      refine lv_bipush (v := 7) Bx.1 Bx.2.1 d_Rd_readValue_73 (by decide) ?_
      refine lv_iload_n Bx.1 Bx.2.1 d_Rd_readValue_75 rfl (lv_at hl 2 rfl) ?_
      refine f_xVr (na := 2) (As := [.int (7), .int (nI a)]) (rest := []) Bx hml E hP hD hS (by omega) h_mem27 rfl (m_Rd_addElementX l hlt hn hT hf hRX31 (by omega)) kw_419 kw_421 sel_Rd_addElement kw_6 kw_422 (by decide +kernel) ⟨rfl, rfl⟩ ⟨Nat.le_of_ble_eq_true rfl, Nat.le_of_ble_eq_true rfl⟩ rfl hl.1 (Nat.le_of_ble_eq_true rfl) d_Rd_readValue_76 ⟨Nat.le_of_ble_eq_true rfl, Nat.le_of_ble_eq_true rfl⟩ (fun X ce q9 memx H locs hx9 hP hS g1 g2 g3 => f_out hlocks hno hP hS g1 g2 g3 ⟨Nat.le_of_ble_eq_true rfl, Nat.le_of_ble_eq_true rfl⟩ ⟨hx9.1, Or.inr (Or.inl hx9.2)⟩) (fun r33 mem34 H locs hq hP hS => ?_)
      have hD : va_D (Az sz) (fw n ad mem34) := fw_D hD
      obtain ⟨hr937, hec36, hRX35⟩ := hq
      subst hr937
      obtain ⟨ft38, h9_39⟩ := hRX35.2.1
      have h1_40 : mem34 1 = .inr (0, [.ref (ad 2), .int (nI Z)]) := (hRX35.1.2.2 1 (by omega)).trans hT.1
      have h2_41 : mem34 2 = .inl (cy 0, 240, .inl f) := (hRX35.1.2.2 2 (by omega)).trans hT.2.2
      have h5_42 := hRX35.1.1.2.1
      have hbd48 := hRX35.1.1.1
      obtain ⟨S43, g44, hS_45, h220_46, h221_47⟩ := hRX35.1.1.2.2.2.2.2.2
      obtain ⟨k49, lo50, hi51, as52, pa53, ne54, he_55, ho_56⟩ := (hRX35.1.1.2.2.2.2.2.1 Ec (by omega)).1
      refine lv_astore (lv' := [(4, .ref (ad (20 + 2 * Ec))), (3, .int (10)), (2, .int (100)), (1, .int (nI a)), (0, .ref (ad 222))]) Bx.1 Bx.2.1 d_Rd_readValue_79 hl (by decide) rfl (fun ls hl => ?_)
      refine lv_aload_n Bx.1 Bx.2.1 d_Rd_readValue_81 rfl (lv_at hl 4 rfl) ?_
      refine lv_iload_n Bx.1 Bx.2.1 d_Rd_readValue_82 rfl (lv_at hl 3 rfl) ?_
      refine lv_iload_n Bx.1 Bx.2.1 d_Rd_readValue_83 rfl (lv_at hl 1 rfl) ?_
      refine f_xVi (na := 2) (As := [.int (nI a), .int (10)]) (rest := []) Bx hml E hP hD hS (by omega) h9_39 rfl (m_Rd_readNumberX l hlt hn hT hf hRX35 (by omega) (by omega)) kw_471 kw_473 sel_Rd_readNumber kw_6 kw_474 (by decide +kernel) ⟨rfl, rfl⟩ ⟨Nat.le_of_ble_eq_true rfl, Nat.le_of_ble_eq_true rfl⟩ rfl hl.1 (Nat.le_of_ble_eq_true rfl) d_Rd_readValue_84 ⟨Nat.le_of_ble_eq_true rfl, Nat.le_of_ble_eq_true rfl⟩ (fun X ce q9 memx H locs hx9 hP hS g1 g2 g3 => f_out hlocks hno hP hS g1 g2 g3 ⟨Nat.le_of_ble_eq_true rfl, Nat.le_of_ble_eq_true rfl⟩ ⟨hx9.1, Or.inr (Or.inr ⟨10, Or.inl ⟨hb23, rfl⟩, numsP_n1 hx9.2⟩)⟩) (fun r57 mem58 H locs hq hP hS => ?_)
      have hD : va_D (Az sz) (fw n ad mem58) := fw_D hD
      obtain ⟨a59, hns60, hg61, hg62, hRX63, hfr64⟩ := hq
      obtain ⟨ft65, h9_66⟩ := hRX63.2.1
      have h1_67 : mem58 1 = .inr (0, [.ref (ad 2), .int (nI Z)]) := (hRX63.1.2.2 1 (by omega)).trans hT.1
      have h2_68 : mem58 2 = .inl (cy 0, 240, .inl f) := (hRX63.1.2.2 2 (by omega)).trans hT.2.2
      have h5_69 := hRX63.1.1.2.1
      have hbd75 := hRX63.1.1.1
      obtain ⟨S70, g71, hS_72, h220_73, h221_74⟩ := hRX63.1.1.2.2.2.2.2.2
      obtain ⟨k76, lo77, hi78, as79, pa80, ne81, he_82, ho_83⟩ := (hRX63.1.1.2.2.2.2.2.1 Ec (by omega)).1
      have hel84 := (hfr64 (20 + 2 * Ec) (by omega)).trans he_55
      refine lv_istore (lv' := [(5, .int (r57)), (4, .ref (ad (20 + 2 * Ec))), (3, .int (10)), (2, .int (100)), (1, .int (nI a)), (0, .ref (ad 222))]) Bx.1 Bx.2.1 d_Rd_readValue_87 hl (by decide) rfl (fun ls hl => ?_)
      refine lv_aload_n Bx.1 Bx.2.1 d_Rd_readValue_89 rfl (lv_at hl 5 rfl) ?_
      refine f_callVi (na := 0) (As := []) (rest := []) Bx hml E hP hD hS (by omega) h9_66 rfl (m_Rd_peekX l hn hT hf hRX63 (by omega)) kw_353 kw_355 sel_Rd_peek kw_6 kw_356 (by decide +kernel) ⟨rfl, rfl⟩ ⟨Nat.le_of_ble_eq_true rfl, Nat.le_of_ble_eq_true rfl⟩ rfl hl.1 (Nat.le_of_ble_eq_true rfl) d_Rd_readValue_90 ⟨Nat.le_of_ble_eq_true rfl, Nat.le_of_ble_eq_true rfl⟩ (fun r86 mem87 H locs hq hP hS => ?_)
      have hD : va_D (Az sz) (fw n ad mem87) := fw_D hD
      obtain ⟨hqe, hpk85⟩ := hq
      rw [hqe] at hP hD
      subst hpk85
      refine lv_bipush (v := 45) Bx.1 Bx.2.1 d_Rd_readValue_93 (by decide) ?_
      refine lv_icmp_ne Bx.1 Bx.2.1 d_Rd_readValue_95 rfl (fun hb89 => ?_) (fun hb89 => ?_)
      · refine lv_aload Bx.1 Bx.2.1 d_Rd_readValue_152 (lv_at hl 1 rfl) ?_
        refine lv_bipush (v := 6) Bx.1 Bx.2.1 d_Rd_readValue_154 (by decide) ?_
        refine f_putN Bx hP hD hS (by omega) hel84 rfl inEl tyEl okEl nmEl 0 (by decide) kw_76 rfl rfl rfl rfl (Nat.le_of_ble_eq_true rfl) d_Rd_readValue_156 (fun H locs hP hS => ?_)
        obtain ⟨mem90, e_mem90⟩ : ∃ z, z = va_up mem58 ((20 + 2 * Ec)) (.inr (2, [.int (6), .int (lo50), .int (hi51), as52, pa53, ne54, .ref (ad (21 + 2 * Ec))])) := ⟨_, rfl⟩
        have hP : va_P D vcl (fw n ad mem90) H := by rw [e_mem90]; exact hP
        have hD : va_D (Az sz) (fw n ad mem90) := fw_D hD
        have h_mem90 : mem90 ((20 + 2 * Ec)) = .inr (2, [.int (6), .int (lo50), .int (hi51), as52, pa53, ne54, .ref (ad (21 + 2 * Ec))]) := by rw [e_mem90, va_up_self]
        have hh91 := (va_up_ne mem58 (.inr (2, [.int (6), .int (lo50), .int (hi51), as52, pa53, ne54, .ref (ad (21 + 2 * Ec))])) (show (222 : Nat) ≠ (20 + 2 * Ec) by first | decide | assumption | omega)).trans h9_66
        rw [← e_mem90] at hh91
        have hh92 := (va_up_ne mem58 (.inr (2, [.int (6), .int (lo50), .int (hi51), as52, pa53, ne54, .ref (ad (21 + 2 * Ec))])) (show (1 : Nat) ≠ (20 + 2 * Ec) by first | decide | assumption | omega)).trans h1_67
        rw [← e_mem90] at hh92
        have hh93 := (va_up_ne mem58 (.inr (2, [.int (6), .int (lo50), .int (hi51), as52, pa53, ne54, .ref (ad (21 + 2 * Ec))])) (show (5 : Nat) ≠ (20 + 2 * Ec) by first | decide | assumption | omega)).trans h5_69
        rw [← e_mem90] at hh93
        have hh94 := (va_up_ne mem58 (.inr (2, [.int (6), .int (lo50), .int (hi51), as52, pa53, ne54, .ref (ad (21 + 2 * Ec))])) (show (220 : Nat) ≠ (20 + 2 * Ec) by first | decide | assumption | omega)).trans h220_73
        rw [← e_mem90] at hh94
        have hRX95 : RX cy ad lim (a59) (R) (Ec + 1) (to) (nm) m0 mem90 := by rw [e_mem90]; exact hRX63.el (by omega) (hRX63.1.mk (by omega) (hRX63.1.1.upEl (by omega) ho_56))
        refine lv_aload Bx.1 Bx.2.1 d_Rd_readValue_159 (lv_at hl 1 rfl) ?_
        refine lv_aload_n Bx.1 Bx.2.1 d_Rd_readValue_161 rfl (lv_at hl 5 rfl) ?_
        refine f_get Bx hP (by omega) hh91 rfl inRd 1 (by decide) kw_145 rfl rfl d_Rd_readValue_162 ?_
        refine f_getN Bx hP (by omega) hh93 rfl inGr 2 (by decide) kw_120 rfl rfl d_Rd_readValue_165 ?_
        refine f_getN Bx hP (by omega) hh94 rfl inCh 1 (by decide) kw_33 rfl rfl d_Rd_readValue_168 ?_
        refine f_putN Bx hP hD hS (by omega) h_mem90 rfl inEl tyEl okEl nmEl 1 (by decide) kw_79 rfl rfl rfl rfl (Nat.le_of_ble_eq_true rfl) d_Rd_readValue_171 (fun H locs hP hS => ?_)
        obtain ⟨mem96, e_mem96⟩ : ∃ z, z = va_up mem90 ((20 + 2 * Ec)) (.inr (2, [.int (6), .int (nI S70), .int (hi51), as52, pa53, ne54, .ref (ad (21 + 2 * Ec))])) := ⟨_, rfl⟩
        have hP : va_P D vcl (fw n ad mem96) H := by rw [e_mem96]; exact hP
        have hD : va_D (Az sz) (fw n ad mem96) := fw_D hD
        have h_mem96 : mem96 ((20 + 2 * Ec)) = .inr (2, [.int (6), .int (nI S70), .int (hi51), as52, pa53, ne54, .ref (ad (21 + 2 * Ec))]) := by rw [e_mem96, va_up_self]
        have hh97 := (va_up_ne mem90 (.inr (2, [.int (6), .int (nI S70), .int (hi51), as52, pa53, ne54, .ref (ad (21 + 2 * Ec))])) (show (222 : Nat) ≠ (20 + 2 * Ec) by first | decide | assumption | omega)).trans hh91
        rw [← e_mem96] at hh97
        have hh98 := (va_up_ne mem90 (.inr (2, [.int (6), .int (nI S70), .int (hi51), as52, pa53, ne54, .ref (ad (21 + 2 * Ec))])) (show (1 : Nat) ≠ (20 + 2 * Ec) by first | decide | assumption | omega)).trans hh92
        rw [← e_mem96] at hh98
        have hh99 := (va_up_ne mem90 (.inr (2, [.int (6), .int (nI S70), .int (hi51), as52, pa53, ne54, .ref (ad (21 + 2 * Ec))])) (show (5 : Nat) ≠ (20 + 2 * Ec) by first | decide | assumption | omega)).trans hh93
        rw [← e_mem96] at hh99
        have hh100 := (va_up_ne mem90 (.inr (2, [.int (6), .int (nI S70), .int (hi51), as52, pa53, ne54, .ref (ad (21 + 2 * Ec))])) (show (220 : Nat) ≠ (20 + 2 * Ec) by first | decide | assumption | omega)).trans hh94
        rw [← e_mem96] at hh100
        have hRX101 : RX cy ad lim (a59) (R) (Ec + 1) (to) (nm) m0 mem96 := by rw [e_mem96]; exact hRX95.el (by omega) (hRX95.1.mk (by omega) (hRX95.1.1.upEl (by omega) ho_56))
        refine lv_aload_n Bx.1 Bx.2.1 d_Rd_readValue_174 rfl (lv_at hl 5 rfl) ?_
        refine f_get Bx hP (by omega) hh97 rfl inRd 1 (by decide) kw_145 rfl rfl d_Rd_readValue_175 ?_
        refine f_getN Bx hP (by omega) hh99 rfl inGr 2 (by decide) kw_120 rfl rfl d_Rd_readValue_178 ?_
        refine lv_iload Bx.1 Bx.2.1 d_Rd_readValue_181 (lv_at hl 0 rfl) ?_
        refine f_callVv (na := 1) (As := [.int (r57)]) (rest := []) Bx hml E hP hD hS (by omega) hh100 rfl (m_Ch_appendX l hn hT hf hRX101 (by omega)) kw_462 kw_318 kw_319 kw_2 kw_320 (by decide +kernel) ⟨rfl, rfl⟩ ⟨Nat.le_of_ble_eq_true rfl, Nat.le_of_ble_eq_true rfl⟩ rfl hl.1 (Nat.le_of_ble_eq_true rfl) d_Rd_readValue_183 ⟨Nat.le_of_ble_eq_true rfl, Nat.le_of_ble_eq_true rfl⟩ (fun mem104 H locs hRX102 hP hS => ?_)
        have hD : va_D (Az sz) (fw n ad mem104) := fw_D hD
        obtain ⟨ft105, h9_106⟩ := hRX102.2.1
        have h1_107 : mem104 1 = .inr (0, [.ref (ad 2), .int (nI Z)]) := (hRX102.1.2.2 1 (by omega)).trans hT.1
        have h2_108 : mem104 2 = .inl (cy 0, 240, .inl f) := (hRX102.1.2.2 2 (by omega)).trans hT.2.2
        have h5_109 := hRX102.1.1.2.1
        have hbd115 := hRX102.1.1.1
        obtain ⟨S110, g111, hS_112, h220_113, h221_114⟩ := hRX102.1.1.2.2.2.2.2.2
        obtain ⟨k116, lo117, hi118, as119, pa120, ne121, he_122, ho_123⟩ := (hRX102.1.1.2.2.2.2.2.1 Ec (by omega)).1
        refine lv_iconst (v := 0) Bx.1 Bx.2.1 d_Rd_readValue_186 (by decide) ?_
        refine lv_istore (lv' := [(6, .int (0)), (5, .int (r57)), (4, .ref (ad (20 + 2 * Ec))), (3, .int (10)), (2, .int (100)), (1, .int (nI a)), (0, .ref (ad 222))]) Bx.1 Bx.2.1 d_Rd_readValue_187 hl (by decide) rfl (fun ls hl => ?_)
        have hec9 := hec36
        have loop124 : ∀ (d125 : Nat) (mem9 : Nat → va_E) (a1 : Nat) (k : Nat) (ls : Array Slot) (H : Heap) (locs : List Loc), (3 - k < d125) → (RX cy ad lim a1 R (Ec + 1) to nm m0 mem9) → (a < a1 ∧ a1 ≤ Z ∧ k ≤ 3) → (furP T Z 10 (3 - k) a1 = furP T Z 10 3 a59) → (va_P D vcl (fw n ad mem9) H) → (va_D (Az sz) (fw n ad mem9)) → (va_S (Az sz) s.heap H locs) → (lv_has ls 7 [(6, .int (nI k)), (4, .ref (ad (20 + 2 * Ec))), (3, .int (10)), (1, .int (nI a)), (0, .ref (ad 222))]) → W p l e (headSpec (Cond.code y_Rd_readValue c_Rd_readValue 7 (some (.object "AbnfChart$Element")) :: tg) ({ frames := 12, cells := 1, slots := 6, locals := 280 } : Room)).room s m [.ref (ad 222)].toArray below meth c H locs 0 0 (vx_MQ below (QX (QR (fun r mem' => Ec < 100 ∧ ∃ (ba : Int32) (a' : Nat), ((smF (hereF Z T (a + 1)) = 100 ∧ ba = 10) ∨ (smF (hereF Z T (a + 1)) = 120 ∧ ba = 16)) ∧ numsP T Z (a + 1 + 1) ba = some a' ∧ r = ad (20 + 2 * Ec) ∧ a < a' ∧ a' ≤ Z ∧ RX cy ad lim a' R (Ec + 1) to nm m0 mem') (PP D n ad) (Az sz))) (XQ D sz n ad (fun X mem' => ((X = cIA ∨ X = cIS) ∧ ∃ rc' ec' : Nat, RS cy ad lim rc' ec' m0 mem') ∧ ((¬ smF (hereF Z T (a + 1)) = 100 ∧ ¬ smF (hereF Z T (a + 1)) = 120) ∨ Ec = 100 ∨ ∃ ba : Int32, ((smF (hereF Z T (a + 1)) = 100 ∧ ba = 10) ∨ (smF (hereF Z T (a + 1)) = 120 ∧ ba = 16)) ∧ numsP T Z (a + 1 + 1) ba = none))) [.ref (ad 222)].toArray s 1 6 (Az sz)) (F0 m 189 ls []) := by
          intro d125
          induction d125 with
          | zero => intro mem9 a1 k ls H locs hmeas130; exact absurd hmeas130 (Nat.not_lt_zero _)
          | succ d125 ih129 =>
            intro mem9 a1 k ls H locs hmeas130 hz126 hz127 hz128 hP hD hS hl
            obtain ⟨ft131, h9_132⟩ := hz126.2.1
            have h1_133 : mem9 1 = .inr (0, [.ref (ad 2), .int (nI Z)]) := (hz126.1.2.2 1 (by omega)).trans hT.1
            have h2_134 : mem9 2 = .inl (cy 0, 240, .inl f) := (hz126.1.2.2 2 (by omega)).trans hT.2.2
            have h5_135 := hz126.1.1.2.1
            have hbd141 := hz126.1.1.1
            obtain ⟨S136, g137, hS_138, h220_139, h221_140⟩ := hz126.1.1.2.2.2.2.2.2
            obtain ⟨k142, lo143, hi144, as145, pa146, ne147, he_148, ho_149⟩ := (hz126.1.1.2.2.2.2.2.1 Ec (by omega)).1
            have hbd8 := hz127
            refine lv_iload Bx.1 Bx.2.1 d_Rd_readValue_189 (lv_at hl 0 rfl) ?_
            refine lv_iconst (v := 3) Bx.1 Bx.2.1 d_Rd_readValue_191 (by decide) ?_
            refine lv_icmp_ge Bx.1 Bx.2.1 d_Rd_readValue_192 rfl (fun hb150 => ?_) (fun hb150 => ?_)
            · have hN151 : 3 ≤ k := (nI_leI (by omega) (by omega)).mp (show nI (3) ≤ nI (k) from hb150)
              refine lv_aload Bx.1 Bx.2.1 d_Rd_readValue_236 (lv_at hl 1 rfl) ?_
              refine lv_aload_n Bx.1 Bx.2.1 d_Rd_readValue_238 rfl (lv_at hl 4 rfl) ?_
              refine f_get Bx hP (by omega) h9_132 rfl inRd 1 (by decide) kw_145 rfl rfl d_Rd_readValue_239 ?_
              refine f_getN Bx hP (by omega) h5_135 rfl inGr 2 (by decide) kw_120 rfl rfl d_Rd_readValue_242 ?_
              refine f_getN Bx hP (by omega) h220_139 rfl inCh 1 (by decide) kw_33 rfl rfl d_Rd_readValue_245 ?_
              refine f_putN Bx hP hD hS (by omega) he_148 rfl inEl tyEl okEl nmEl 2 (by decide) kw_82 rfl rfl rfl rfl (Nat.le_of_ble_eq_true rfl) d_Rd_readValue_248 (fun H locs hP hS => ?_)
              obtain ⟨mem152, e_mem152⟩ : ∃ z, z = va_up mem9 ((20 + 2 * Ec)) (.inr (2, [.int (k142), .int (lo143), .int (nI S136), as145, pa146, ne147, .ref (ad (21 + 2 * Ec))])) := ⟨_, rfl⟩
              have hP : va_P D vcl (fw n ad mem152) H := by rw [e_mem152]; exact hP
              have hD : va_D (Az sz) (fw n ad mem152) := fw_D hD
              have h_mem152 : mem152 ((20 + 2 * Ec)) = .inr (2, [.int (k142), .int (lo143), .int (nI S136), as145, pa146, ne147, .ref (ad (21 + 2 * Ec))]) := by rw [e_mem152, va_up_self]
              have hh153 := (va_up_ne mem9 (.inr (2, [.int (k142), .int (lo143), .int (nI S136), as145, pa146, ne147, .ref (ad (21 + 2 * Ec))])) (show (222 : Nat) ≠ (20 + 2 * Ec) by first | decide | assumption | omega)).trans h9_132
              rw [← e_mem152] at hh153
              have hh154 := (va_up_ne mem9 (.inr (2, [.int (k142), .int (lo143), .int (nI S136), as145, pa146, ne147, .ref (ad (21 + 2 * Ec))])) (show (1 : Nat) ≠ (20 + 2 * Ec) by first | decide | assumption | omega)).trans h1_133
              rw [← e_mem152] at hh154
              have hh155 := (va_up_ne mem9 (.inr (2, [.int (k142), .int (lo143), .int (nI S136), as145, pa146, ne147, .ref (ad (21 + 2 * Ec))])) (show (5 : Nat) ≠ (20 + 2 * Ec) by first | decide | assumption | omega)).trans h5_135
              rw [← e_mem152] at hh155
              have hh156 := (va_up_ne mem9 (.inr (2, [.int (k142), .int (lo143), .int (nI S136), as145, pa146, ne147, .ref (ad (21 + 2 * Ec))])) (show (220 : Nat) ≠ (20 + 2 * Ec) by first | decide | assumption | omega)).trans h220_139
              rw [← e_mem152] at hh156
              have hRX157 : RX cy ad lim (a1) (R) (Ec + 1) (to) (nm) m0 mem152 := by rw [e_mem152]; exact hz126.el (by omega) (hz126.1.mk (by omega) (hz126.1.1.upEl (by omega) ho_149))
              refine lv_aload Bx.1 Bx.2.1 d_Rd_readValue_251 (lv_at hl 1 rfl) ?_
              exact x_aret hx hb hlocks hr (⟨by omega, 10, a1, Or.inl ⟨hb23, rfl⟩, (by rw [numsP_fu hns60 hb89, ← hz128]; exact by rw [show 3 - k = 0 by omega]; rfl), rfl, by omega, by omega, hRX157⟩) hP hS d_Rd_readValue_253
            · have hN158 : ¬ 3 ≤ k := fun q9 => hb150 (show nI (3) ≤ nI (k) from (nI_leI (by omega) (by omega)).mpr q9)
              refine lv_aload_n Bx.1 Bx.2.1 d_Rd_readValue_195 rfl (lv_at hl 4 rfl) ?_
              refine f_callVi (na := 0) (As := []) (rest := []) Bx hml E hP hD hS (by omega) h9_132 rfl (m_Rd_peekX l hn hT hf hz126 (by omega)) kw_353 kw_355 sel_Rd_peek kw_6 kw_356 (by decide +kernel) ⟨rfl, rfl⟩ ⟨Nat.le_of_ble_eq_true rfl, Nat.le_of_ble_eq_true rfl⟩ rfl hl.1 (Nat.le_of_ble_eq_true rfl) d_Rd_readValue_196 ⟨Nat.le_of_ble_eq_true rfl, Nat.le_of_ble_eq_true rfl⟩ (fun r160 mem161 H locs hq hP hS => ?_)
              have hD : va_D (Az sz) (fw n ad mem161) := fw_D hD
              obtain ⟨hqe, hpk159⟩ := hq
              rw [hqe] at hP hD
              subst hpk159
              refine lv_bipush (v := 46) Bx.1 Bx.2.1 d_Rd_readValue_199 (by decide) ?_
              refine lv_icmp_ne Bx.1 Bx.2.1 d_Rd_readValue_201 rfl (fun hb163 => ?_) (fun hb163 => ?_)
              · refine lv_aload Bx.1 Bx.2.1 d_Rd_readValue_236 (lv_at hl 1 rfl) ?_
                refine lv_aload_n Bx.1 Bx.2.1 d_Rd_readValue_238 rfl (lv_at hl 4 rfl) ?_
                refine f_get Bx hP (by omega) h9_132 rfl inRd 1 (by decide) kw_145 rfl rfl d_Rd_readValue_239 ?_
                refine f_getN Bx hP (by omega) h5_135 rfl inGr 2 (by decide) kw_120 rfl rfl d_Rd_readValue_242 ?_
                refine f_getN Bx hP (by omega) h220_139 rfl inCh 1 (by decide) kw_33 rfl rfl d_Rd_readValue_245 ?_
                refine f_putN Bx hP hD hS (by omega) he_148 rfl inEl tyEl okEl nmEl 2 (by decide) kw_82 rfl rfl rfl rfl (Nat.le_of_ble_eq_true rfl) d_Rd_readValue_248 (fun H locs hP hS => ?_)
                obtain ⟨mem164, e_mem164⟩ : ∃ z, z = va_up mem9 ((20 + 2 * Ec)) (.inr (2, [.int (k142), .int (lo143), .int (nI S136), as145, pa146, ne147, .ref (ad (21 + 2 * Ec))])) := ⟨_, rfl⟩
                have hP : va_P D vcl (fw n ad mem164) H := by rw [e_mem164]; exact hP
                have hD : va_D (Az sz) (fw n ad mem164) := fw_D hD
                have h_mem164 : mem164 ((20 + 2 * Ec)) = .inr (2, [.int (k142), .int (lo143), .int (nI S136), as145, pa146, ne147, .ref (ad (21 + 2 * Ec))]) := by rw [e_mem164, va_up_self]
                have hh165 := (va_up_ne mem9 (.inr (2, [.int (k142), .int (lo143), .int (nI S136), as145, pa146, ne147, .ref (ad (21 + 2 * Ec))])) (show (222 : Nat) ≠ (20 + 2 * Ec) by first | decide | assumption | omega)).trans h9_132
                rw [← e_mem164] at hh165
                have hh166 := (va_up_ne mem9 (.inr (2, [.int (k142), .int (lo143), .int (nI S136), as145, pa146, ne147, .ref (ad (21 + 2 * Ec))])) (show (1 : Nat) ≠ (20 + 2 * Ec) by first | decide | assumption | omega)).trans h1_133
                rw [← e_mem164] at hh166
                have hh167 := (va_up_ne mem9 (.inr (2, [.int (k142), .int (lo143), .int (nI S136), as145, pa146, ne147, .ref (ad (21 + 2 * Ec))])) (show (5 : Nat) ≠ (20 + 2 * Ec) by first | decide | assumption | omega)).trans h5_135
                rw [← e_mem164] at hh167
                have hh168 := (va_up_ne mem9 (.inr (2, [.int (k142), .int (lo143), .int (nI S136), as145, pa146, ne147, .ref (ad (21 + 2 * Ec))])) (show (220 : Nat) ≠ (20 + 2 * Ec) by first | decide | assumption | omega)).trans h220_139
                rw [← e_mem164] at hh168
                have hRX169 : RX cy ad lim (a1) (R) (Ec + 1) (to) (nm) m0 mem164 := by rw [e_mem164]; exact hz126.el (by omega) (hz126.1.mk (by omega) (hz126.1.1.upEl (by omega) ho_149))
                refine lv_aload Bx.1 Bx.2.1 d_Rd_readValue_251 (lv_at hl 1 rfl) ?_
                exact x_aret hx hb hlocks hr (⟨by omega, 10, a1, Or.inl ⟨hb23, rfl⟩, (by rw [numsP_fu hns60 hb89, ← hz128]; exact furP_no hb163), rfl, by omega, by omega, hRX169⟩) hP hS d_Rd_readValue_253
              · have hlt170 := hereF_lt (by rw [hb163]; decide)
                refine lv_aload_n Bx.1 Bx.2.1 d_Rd_readValue_204 rfl (lv_at hl 4 rfl) ?_
                refine lv_dup Bx.1 Bx.2.1 d_Rd_readValue_205 rfl ?_
                refine f_get Bx hP (by omega) h9_132 rfl inRd 2 (by decide) kw_146 rfl rfl d_Rd_readValue_206 ?_
                refine lv_iconst (v := 1) Bx.1 Bx.2.1 d_Rd_readValue_209 (by decide) ?_
                refine lv_iadd Bx.1 Bx.2.1 d_Rd_readValue_210 ?_
                rw [show nI a1 + 1 = nI (a1 + 1) from nI_add (a1) (1)]
                refine f_put Bx hP hD hS (by omega) h9_132 rfl inRd tyRd okRd nmRd 2 (by decide) kw_146 rfl rfl rfl rfl (Nat.le_of_ble_eq_true rfl) d_Rd_readValue_211 (fun H locs hP hS => ?_)
                obtain ⟨mem171, e_mem171⟩ : ∃ z, z = va_up mem9 (222) (.inr (4, [.ref (ad 1), .ref (ad 5), .int (nI (a1 + 1)), .int (ft131)])) := ⟨_, rfl⟩
                have hP : va_P D vcl (fw n ad mem171) H := by rw [e_mem171]; exact hP
                have hD : va_D (Az sz) (fw n ad mem171) := fw_D hD
                have h_mem171 : mem171 (222) = .inr (4, [.ref (ad 1), .ref (ad 5), .int (nI (a1 + 1)), .int (ft131)]) := by rw [e_mem171, va_up_self]
                have hh172 := (va_up_ne mem9 (.inr (4, [.ref (ad 1), .ref (ad 5), .int (nI (a1 + 1)), .int (ft131)])) (show (1 : Nat) ≠ 222 by first | decide | assumption | omega)).trans h1_133
                rw [← e_mem171] at hh172
                have hh173 := (va_up_ne mem9 (.inr (4, [.ref (ad 1), .ref (ad 5), .int (nI (a1 + 1)), .int (ft131)])) (show (5 : Nat) ≠ 222 by first | decide | assumption | omega)).trans h5_135
                rw [← e_mem171] at hh173
                have hh174 := (va_up_ne mem9 (.inr (4, [.ref (ad 1), .ref (ad 5), .int (nI (a1 + 1)), .int (ft131)])) (show (220 : Nat) ≠ 222 by first | decide | assumption | omega)).trans h220_139
                rw [← e_mem171] at hh174
                have hh175 := (va_up_ne mem9 (.inr (4, [.ref (ad 1), .ref (ad 5), .int (nI (a1 + 1)), .int (ft131)])) (show ((20 + 2 * Ec) : Nat) ≠ 222 by first | decide | assumption | omega)).trans he_148
                rw [← e_mem171] at hh175
                have hRX176 : RX cy ad lim (a1 + 1) (R) (Ec + 1) (to) (nm) m0 mem171 := by rw [e_mem171]; exact hz126.at
                refine lv_aload_n Bx.1 Bx.2.1 d_Rd_readValue_214 rfl (lv_at hl 4 rfl) ?_
                refine f_get Bx hP (by omega) h_mem171 rfl inRd 1 (by decide) kw_145 rfl rfl d_Rd_readValue_215 ?_
                refine f_getN Bx hP (by omega) hh173 rfl inGr 2 (by decide) kw_120 rfl rfl d_Rd_readValue_218 ?_
                refine lv_aload_n Bx.1 Bx.2.1 d_Rd_readValue_221 rfl (lv_at hl 4 rfl) ?_
                refine lv_iload_n Bx.1 Bx.2.1 d_Rd_readValue_222 rfl (lv_at hl 3 rfl) ?_
                refine lv_iload_n Bx.1 Bx.2.1 d_Rd_readValue_223 rfl (lv_at hl 2 rfl) ?_
                refine f_xVi (na := 2) (As := [.int (nI a), .int (10)]) (rest := [.ref (ad 220)]) Bx hml E hP hD hS (by omega) h_mem171 rfl (m_Rd_readNumberX l hlt hn hT hf hRX176 (by omega) (by omega)) kw_471 kw_473 sel_Rd_readNumber kw_6 kw_474 (by decide +kernel) ⟨rfl, rfl⟩ ⟨Nat.le_of_ble_eq_true rfl, Nat.le_of_ble_eq_true rfl⟩ rfl hl.1 (Nat.le_of_ble_eq_true rfl) d_Rd_readValue_224 ⟨Nat.le_of_ble_eq_true rfl, Nat.le_of_ble_eq_true rfl⟩ (fun X ce q9 memx H locs hx9 hP hS g1 g2 g3 => f_out hlocks hno hP hS g1 g2 g3 ⟨Nat.le_of_ble_eq_true rfl, Nat.le_of_ble_eq_true rfl⟩ ⟨hx9.1, Or.inr (Or.inr ⟨10, Or.inl ⟨hb23, rfl⟩, (by rw [numsP_fu hns60 hb89, ← hz128, show 3 - k = (3 - (k + 1)) + 1 by omega]; exact furP_bad hb163 hx9.2)⟩)⟩) (fun r177 mem178 H locs hq hP hS => ?_)
                have hD : va_D (Az sz) (fw n ad mem178) := fw_D hD
                obtain ⟨a179, hns180, hg181, hg182, hRX183, hfr184⟩ := hq
                obtain ⟨ft185, h9_186⟩ := hRX183.2.1
                have h1_187 : mem178 1 = .inr (0, [.ref (ad 2), .int (nI Z)]) := (hRX183.1.2.2 1 (by omega)).trans hT.1
                have h2_188 : mem178 2 = .inl (cy 0, 240, .inl f) := (hRX183.1.2.2 2 (by omega)).trans hT.2.2
                have h5_189 := hRX183.1.1.2.1
                have hbd195 := hRX183.1.1.1
                obtain ⟨S190, g191, hS_192, h220_193, h221_194⟩ := hRX183.1.1.2.2.2.2.2.2
                obtain ⟨k196, lo197, hi198, as199, pa200, ne201, he_202, ho_203⟩ := (hRX183.1.1.2.2.2.2.2.1 Ec (by omega)).1
                have hel204 := (hfr184 (20 + 2 * Ec) (by omega)).trans hh175
                refine f_callVv (na := 1) (As := [.int (r177)]) (rest := []) Bx hml E hP hD hS (by omega) h220_193 rfl (m_Ch_appendX l hn hT hf hRX183 (by omega)) kw_462 kw_318 kw_319 kw_2 kw_320 (by decide +kernel) ⟨rfl, rfl⟩ ⟨Nat.le_of_ble_eq_true rfl, Nat.le_of_ble_eq_true rfl⟩ rfl hl.1 (Nat.le_of_ble_eq_true rfl) d_Rd_readValue_227 ⟨Nat.le_of_ble_eq_true rfl, Nat.le_of_ble_eq_true rfl⟩ (fun mem207 H locs hRX205 hP hS => ?_)
                have hD : va_D (Az sz) (fw n ad mem207) := fw_D hD
                obtain ⟨ft208, h9_209⟩ := hRX205.2.1
                have h1_210 : mem207 1 = .inr (0, [.ref (ad 2), .int (nI Z)]) := (hRX205.1.2.2 1 (by omega)).trans hT.1
                have h2_211 : mem207 2 = .inl (cy 0, 240, .inl f) := (hRX205.1.2.2 2 (by omega)).trans hT.2.2
                have h5_212 := hRX205.1.1.2.1
                have hbd218 := hRX205.1.1.1
                obtain ⟨S213, g214, hS_215, h220_216, h221_217⟩ := hRX205.1.1.2.2.2.2.2.2
                obtain ⟨k219, lo220, hi221, as222, pa223, ne224, he_225, ho_226⟩ := (hRX205.1.1.2.2.2.2.2.1 Ec (by omega)).1
                refine lv_iinc (lv' := [(6, .int ((nI k + (1)))), (4, .ref (ad (20 + 2 * Ec))), (3, .int (10)), (1, .int (nI a)), (0, .ref (ad 222))]) Bx.1 Bx.2.1 d_Rd_readValue_230 hl (k := 0) rfl rfl (by decide) rfl (fun ls hl => ?_)
                rw [show (nI k + (1) : Int32) = nI (k + 1) from nI_1 (k)] at hl
                refine lv_goto Bx.1 Bx.2.1 d_Rd_readValue_233 rfl ?_
                exact ih129 mem207 (a179) (k + 1) _ _ _ (by have := hmeas130; omega) (hRX205) (⟨by omega, by omega, by omega⟩) (by rw [← hz128, show 3 - k = (3 - (k + 1)) + 1 by omega, furP_on hb163 hns180]) hP hD hS (lv_sub hl [0, 1, 2, 3, 4] rfl)
        exact loop124 _ mem104 (a59) (0) _ _ _ (Nat.lt_succ_self _) (hRX102) (⟨by omega, by omega, by omega⟩) (rfl) hP hD hS (lv_sub hl [0, 2, 3, 5, 6] rfl)
      · have hlt227 := hereF_lt (by rw [hb89]; decide)
        refine lv_aload_n Bx.1 Bx.2.1 d_Rd_readValue_98 rfl (lv_at hl 5 rfl) ?_
        refine lv_dup Bx.1 Bx.2.1 d_Rd_readValue_99 rfl ?_
        refine f_get Bx hP (by omega) h9_66 rfl inRd 2 (by decide) kw_146 rfl rfl d_Rd_readValue_100 ?_
        refine lv_iconst (v := 1) Bx.1 Bx.2.1 d_Rd_readValue_103 (by decide) ?_
        refine lv_iadd Bx.1 Bx.2.1 d_Rd_readValue_104 ?_
        rw [show nI a59 + 1 = nI (a59 + 1) from nI_add (a59) (1)]
        refine f_put Bx hP hD hS (by omega) h9_66 rfl inRd tyRd okRd nmRd 2 (by decide) kw_146 rfl rfl rfl rfl (Nat.le_of_ble_eq_true rfl) d_Rd_readValue_105 (fun H locs hP hS => ?_)
        obtain ⟨mem228, e_mem228⟩ : ∃ z, z = va_up mem58 (222) (.inr (4, [.ref (ad 1), .ref (ad 5), .int (nI (a59 + 1)), .int (ft65)])) := ⟨_, rfl⟩
        have hP : va_P D vcl (fw n ad mem228) H := by rw [e_mem228]; exact hP
        have hD : va_D (Az sz) (fw n ad mem228) := fw_D hD
        have h_mem228 : mem228 (222) = .inr (4, [.ref (ad 1), .ref (ad 5), .int (nI (a59 + 1)), .int (ft65)]) := by rw [e_mem228, va_up_self]
        have hh229 := (va_up_ne mem58 (.inr (4, [.ref (ad 1), .ref (ad 5), .int (nI (a59 + 1)), .int (ft65)])) (show (1 : Nat) ≠ 222 by first | decide | assumption | omega)).trans h1_67
        rw [← e_mem228] at hh229
        have hh230 := (va_up_ne mem58 (.inr (4, [.ref (ad 1), .ref (ad 5), .int (nI (a59 + 1)), .int (ft65)])) (show (5 : Nat) ≠ 222 by first | decide | assumption | omega)).trans h5_69
        rw [← e_mem228] at hh230
        have hh231 := (va_up_ne mem58 (.inr (4, [.ref (ad 1), .ref (ad 5), .int (nI (a59 + 1)), .int (ft65)])) (show (220 : Nat) ≠ 222 by first | decide | assumption | omega)).trans h220_73
        rw [← e_mem228] at hh231
        have hh232 := (va_up_ne mem58 (.inr (4, [.ref (ad 1), .ref (ad 5), .int (nI (a59 + 1)), .int (ft65)])) (show ((20 + 2 * Ec) : Nat) ≠ 222 by first | decide | assumption | omega)).trans hel84
        rw [← e_mem228] at hh232
        have hRX233 : RX cy ad lim (a59 + 1) (R) (Ec + 1) (to) (nm) m0 mem228 := by rw [e_mem228]; exact hRX63.at
        refine lv_aload Bx.1 Bx.2.1 d_Rd_readValue_108 (lv_at hl 1 rfl) ?_
        refine lv_iload Bx.1 Bx.2.1 d_Rd_readValue_110 (lv_at hl 0 rfl) ?_
        refine f_putN Bx hP hD hS (by omega) hh232 rfl inEl tyEl okEl nmEl 1 (by decide) kw_79 rfl rfl rfl rfl (Nat.le_of_ble_eq_true rfl) d_Rd_readValue_112 (fun H locs hP hS => ?_)
        obtain ⟨mem234, e_mem234⟩ : ∃ z, z = va_up mem228 ((20 + 2 * Ec)) (.inr (2, [.int (k49), .int (r57), .int (hi51), as52, pa53, ne54, .ref (ad (21 + 2 * Ec))])) := ⟨_, rfl⟩
        have hP : va_P D vcl (fw n ad mem234) H := by rw [e_mem234]; exact hP
        have hD : va_D (Az sz) (fw n ad mem234) := fw_D hD
        have h_mem234 : mem234 ((20 + 2 * Ec)) = .inr (2, [.int (k49), .int (r57), .int (hi51), as52, pa53, ne54, .ref (ad (21 + 2 * Ec))]) := by rw [e_mem234, va_up_self]
        have hh235 := (va_up_ne mem228 (.inr (2, [.int (k49), .int (r57), .int (hi51), as52, pa53, ne54, .ref (ad (21 + 2 * Ec))])) (show (222 : Nat) ≠ (20 + 2 * Ec) by first | decide | assumption | omega)).trans h_mem228
        rw [← e_mem234] at hh235
        have hh236 := (va_up_ne mem228 (.inr (2, [.int (k49), .int (r57), .int (hi51), as52, pa53, ne54, .ref (ad (21 + 2 * Ec))])) (show (1 : Nat) ≠ (20 + 2 * Ec) by first | decide | assumption | omega)).trans hh229
        rw [← e_mem234] at hh236
        have hh237 := (va_up_ne mem228 (.inr (2, [.int (k49), .int (r57), .int (hi51), as52, pa53, ne54, .ref (ad (21 + 2 * Ec))])) (show (5 : Nat) ≠ (20 + 2 * Ec) by first | decide | assumption | omega)).trans hh230
        rw [← e_mem234] at hh237
        have hh238 := (va_up_ne mem228 (.inr (2, [.int (k49), .int (r57), .int (hi51), as52, pa53, ne54, .ref (ad (21 + 2 * Ec))])) (show (220 : Nat) ≠ (20 + 2 * Ec) by first | decide | assumption | omega)).trans hh231
        rw [← e_mem234] at hh238
        have hRX239 : RX cy ad lim (a59 + 1) (R) (Ec + 1) (to) (nm) m0 mem234 := by rw [e_mem234]; exact hRX233.el (by omega) (hRX233.1.mk (by omega) (hRX233.1.1.upEl (by omega) ho_56))
        refine lv_aload Bx.1 Bx.2.1 d_Rd_readValue_115 (lv_at hl 1 rfl) ?_
        refine lv_aload_n Bx.1 Bx.2.1 d_Rd_readValue_117 rfl (lv_at hl 5 rfl) ?_
        refine lv_iload_n Bx.1 Bx.2.1 d_Rd_readValue_118 rfl (lv_at hl 4 rfl) ?_
        refine lv_iload_n Bx.1 Bx.2.1 d_Rd_readValue_119 rfl (lv_at hl 2 rfl) ?_
        refine f_xVi (na := 2) (As := [.int (nI a), .int (10)]) (rest := [.ref (ad (20 + 2 * Ec))]) Bx hml E hP hD hS (by omega) hh235 rfl (m_Rd_readNumberX l hlt hn hT hf hRX239 (by omega) (by omega)) kw_471 kw_473 sel_Rd_readNumber kw_6 kw_474 (by decide +kernel) ⟨rfl, rfl⟩ ⟨Nat.le_of_ble_eq_true rfl, Nat.le_of_ble_eq_true rfl⟩ rfl hl.1 (Nat.le_of_ble_eq_true rfl) d_Rd_readValue_120 ⟨Nat.le_of_ble_eq_true rfl, Nat.le_of_ble_eq_true rfl⟩ (fun X ce q9 memx H locs hx9 hP hS g1 g2 g3 => f_out hlocks hno hP hS g1 g2 g3 ⟨Nat.le_of_ble_eq_true rfl, Nat.le_of_ble_eq_true rfl⟩ ⟨hx9.1, Or.inr (Or.inr ⟨10, Or.inl ⟨hb23, rfl⟩, numsP_n2 hns60 hb89 hx9.2⟩)⟩) (fun r240 mem241 H locs hq hP hS => ?_)
        have hD : va_D (Az sz) (fw n ad mem241) := fw_D hD
        obtain ⟨a242, hns243, hg244, hg245, hRX246, hfr247⟩ := hq
        obtain ⟨ft248, h9_249⟩ := hRX246.2.1
        have h1_250 : mem241 1 = .inr (0, [.ref (ad 2), .int (nI Z)]) := (hRX246.1.2.2 1 (by omega)).trans hT.1
        have h2_251 : mem241 2 = .inl (cy 0, 240, .inl f) := (hRX246.1.2.2 2 (by omega)).trans hT.2.2
        have h5_252 := hRX246.1.1.2.1
        have hbd258 := hRX246.1.1.1
        obtain ⟨S253, g254, hS_255, h220_256, h221_257⟩ := hRX246.1.1.2.2.2.2.2.2
        obtain ⟨k259, lo260, hi261, as262, pa263, ne264, he_265, ho_266⟩ := (hRX246.1.1.2.2.2.2.2.1 Ec (by omega)).1
        have hel267 := (hfr247 (20 + 2 * Ec) (by omega)).trans h_mem234
        refine f_putN Bx hP hD hS (by omega) hel267 rfl inEl tyEl okEl nmEl 2 (by decide) kw_82 rfl rfl rfl rfl (Nat.le_of_ble_eq_true rfl) d_Rd_readValue_123 (fun H locs hP hS => ?_)
        obtain ⟨mem268, e_mem268⟩ : ∃ z, z = va_up mem241 ((20 + 2 * Ec)) (.inr (2, [.int (k49), .int (r57), .int (r240), as52, pa53, ne54, .ref (ad (21 + 2 * Ec))])) := ⟨_, rfl⟩
        have hP : va_P D vcl (fw n ad mem268) H := by rw [e_mem268]; exact hP
        have hD : va_D (Az sz) (fw n ad mem268) := fw_D hD
        have h_mem268 : mem268 ((20 + 2 * Ec)) = .inr (2, [.int (k49), .int (r57), .int (r240), as52, pa53, ne54, .ref (ad (21 + 2 * Ec))]) := by rw [e_mem268, va_up_self]
        have hh269 := (va_up_ne mem241 (.inr (2, [.int (k49), .int (r57), .int (r240), as52, pa53, ne54, .ref (ad (21 + 2 * Ec))])) (show (222 : Nat) ≠ (20 + 2 * Ec) by first | decide | assumption | omega)).trans h9_249
        rw [← e_mem268] at hh269
        have hh270 := (va_up_ne mem241 (.inr (2, [.int (k49), .int (r57), .int (r240), as52, pa53, ne54, .ref (ad (21 + 2 * Ec))])) (show (1 : Nat) ≠ (20 + 2 * Ec) by first | decide | assumption | omega)).trans h1_250
        rw [← e_mem268] at hh270
        have hh271 := (va_up_ne mem241 (.inr (2, [.int (k49), .int (r57), .int (r240), as52, pa53, ne54, .ref (ad (21 + 2 * Ec))])) (show (5 : Nat) ≠ (20 + 2 * Ec) by first | decide | assumption | omega)).trans h5_252
        rw [← e_mem268] at hh271
        have hh272 := (va_up_ne mem241 (.inr (2, [.int (k49), .int (r57), .int (r240), as52, pa53, ne54, .ref (ad (21 + 2 * Ec))])) (show (220 : Nat) ≠ (20 + 2 * Ec) by first | decide | assumption | omega)).trans h220_256
        rw [← e_mem268] at hh272
        have hRX273 : RX cy ad lim (a242) (R) (Ec + 1) (to) (nm) m0 mem268 := by rw [e_mem268]; exact hRX246.el (by omega) (hRX246.1.mk (by omega) (hRX246.1.1.upEl (by omega) ho_56))
        refine lv_aload_n Bx.1 Bx.2.1 d_Rd_readValue_126 rfl (lv_at hl 5 rfl) ?_
        refine lv_aload Bx.1 Bx.2.1 d_Rd_readValue_127 (lv_at hl 1 rfl) ?_
        refine f_getN Bx hP (by omega) h_mem268 rfl inEl 1 (by decide) kw_79 rfl rfl d_Rd_readValue_129 ?_
        refine lv_aload Bx.1 Bx.2.1 d_Rd_readValue_132 (lv_at hl 1 rfl) ?_
        refine f_getN Bx hP (by omega) h_mem268 rfl inEl 2 (by decide) kw_82 rfl rfl d_Rd_readValue_134 ?_
        refine lv_icmp_gt Bx.1 Bx.2.1 d_Rd_readValue_137 rfl (fun hb274 => ?_) (fun hb274 => ?_)
        · refine lv_iconst (v := 0) Bx.1 Bx.2.1 d_Rd_readValue_144 (by decide) ?_
          refine lv_iload_n Bx.1 Bx.2.1 d_Rd_readValue_145 rfl (lv_at hl 4 rfl) ?_
          refine f_xVv (na := 2) (As := [.int (0), .int (nI a)]) (rest := []) Bx hml E hP hD hS (by omega) hh269 rfl (m_Rd_needReadableX l hlt hn hT hf hRX273 (by omega)) kw_360 kw_362 sel_Rd_needReadable kw_6 kw_363 (by decide +kernel) ⟨rfl, rfl⟩ ⟨Nat.le_of_ble_eq_true rfl, Nat.le_of_ble_eq_true rfl⟩ rfl hl.1 (Nat.le_of_ble_eq_true rfl) d_Rd_readValue_146 ⟨Nat.le_of_ble_eq_true rfl, Nat.le_of_ble_eq_true rfl⟩ (fun X ce q9 memx H locs hx9 hP hS g1 g2 g3 => f_out hlocks hno hP hS g1 g2 g3 ⟨Nat.le_of_ble_eq_true rfl, Nat.le_of_ble_eq_true rfl⟩ ⟨hx9.1, Or.inr (Or.inr ⟨10, Or.inl ⟨hb23, rfl⟩, numsP_lt hns60 hb89 hns243 hb274⟩)⟩) (fun mem276 H locs hq hP hS => ?_)
          have hD : va_D (Az sz) (fw n ad mem276) := fw_D hD
          obtain ⟨hqe, hg277⟩ := hq
          rw [hqe] at hP hD
          exact absurd rfl hg277
        · refine lv_iconst (v := 1) Bx.1 Bx.2.1 d_Rd_readValue_140 (by decide) ?_
          refine lv_goto Bx.1 Bx.2.1 d_Rd_readValue_141 rfl ?_
          refine lv_iload_n Bx.1 Bx.2.1 d_Rd_readValue_145 rfl (lv_at hl 4 rfl) ?_
          refine f_xVv (na := 2) (As := [.int (1), .int (nI a)]) (rest := []) Bx hml E hP hD hS (by omega) hh269 rfl (m_Rd_needReadableX l hlt hn hT hf hRX273 (by omega)) kw_360 kw_362 sel_Rd_needReadable kw_6 kw_363 (by decide +kernel) ⟨rfl, rfl⟩ ⟨Nat.le_of_ble_eq_true rfl, Nat.le_of_ble_eq_true rfl⟩ rfl hl.1 (Nat.le_of_ble_eq_true rfl) d_Rd_readValue_146 ⟨Nat.le_of_ble_eq_true rfl, Nat.le_of_ble_eq_true rfl⟩ (fun X ce q9 memx H locs hx9 hP hS g1 g2 g3 => f_out hlocks hno hP hS g1 g2 g3 ⟨Nat.le_of_ble_eq_true rfl, Nat.le_of_ble_eq_true rfl⟩ ⟨hx9.1, absurd hx9.2 (by decide)⟩) (fun mem279 H locs hq hP hS => ?_)
          have hD : va_D (Az sz) (fw n ad mem279) := fw_D hD
          obtain ⟨hqe, hg280⟩ := hq
          rw [hqe] at hP hD
          refine lv_aload Bx.1 Bx.2.1 d_Rd_readValue_149 (lv_at hl 1 rfl) ?_
          exact x_aret hx hb hlocks hr (⟨by omega, 10, a242, Or.inl ⟨hb23, rfl⟩, numsP_rg hns60 hb89 hns243 hb274, rfl, by omega, by omega, hRX273⟩) hP hS d_Rd_readValue_151
  · refine lv_iload_n Bx.1 Bx.2.1 d_Rd_readValue_30 rfl (lv_at hl 0 rfl) ?_
    refine lv_bipush (v := 120) Bx.1 Bx.2.1 d_Rd_readValue_31 (by decide) ?_
    refine lv_icmp_ne Bx.1 Bx.2.1 d_Rd_readValue_33 rfl (fun hb281 => ?_) (fun hb281 => ?_)
    · refine lv_iconst (v := 0) Bx.1 Bx.2.1 d_Rd_readValue_40 (by decide) ?_
      refine lv_aload_n Bx.1 Bx.2.1 d_Rd_readValue_41 rfl (lv_at hl 2 rfl) ?_
      refine f_get Bx hP (by omega) h_mem12 rfl inRd 2 (by decide) kw_146 rfl rfl d_Rd_readValue_42 ?_
      refine f_xVv (na := 2) (As := [.int (0), .int (nI (a + 1))]) (rest := []) Bx hml E hP hD hS (by omega) h_mem12 rfl (m_Rd_needReadableX l hlt hn hT hf hRX16 (by omega)) kw_360 kw_362 sel_Rd_needReadable kw_6 kw_363 (by decide +kernel) ⟨rfl, rfl⟩ ⟨Nat.le_of_ble_eq_true rfl, Nat.le_of_ble_eq_true rfl⟩ rfl hl.1 (Nat.le_of_ble_eq_true rfl) d_Rd_readValue_45 ⟨Nat.le_of_ble_eq_true rfl, Nat.le_of_ble_eq_true rfl⟩ (fun X ce q9 memx H locs hx9 hP hS g1 g2 g3 => f_out hlocks hno hP hS g1 g2 g3 ⟨Nat.le_of_ble_eq_true rfl, Nat.le_of_ble_eq_true rfl⟩ ⟨hx9.1, Or.inl ⟨hb23, hb281⟩⟩) (fun mem283 H locs hq hP hS => ?_)
      have hD : va_D (Az sz) (fw n ad mem283) := fw_D hD
      obtain ⟨hqe, hg284⟩ := hq
      rw [hqe] at hP hD
      exact absurd rfl hg284
    · have hlt8 := hereF_lt (smF_ne (Or.inr (Or.inl hb281)))
      rw [hb281] at hl
      refine lv_iconst (v := 1) Bx.1 Bx.2.1 d_Rd_readValue_36 (by decide) ?_
      refine lv_goto Bx.1 Bx.2.1 d_Rd_readValue_37 rfl ?_
      refine lv_aload_n Bx.1 Bx.2.1 d_Rd_readValue_41 rfl (lv_at hl 2 rfl) ?_
      refine f_get Bx hP (by omega) h_mem12 rfl inRd 2 (by decide) kw_146 rfl rfl d_Rd_readValue_42 ?_
      refine f_xVv (na := 2) (As := [.int (1), .int (nI (a + 1))]) (rest := []) Bx hml E hP hD hS (by omega) h_mem12 rfl (m_Rd_needReadableX l hlt hn hT hf hRX16 (by omega)) kw_360 kw_362 sel_Rd_needReadable kw_6 kw_363 (by decide +kernel) ⟨rfl, rfl⟩ ⟨Nat.le_of_ble_eq_true rfl, Nat.le_of_ble_eq_true rfl⟩ rfl hl.1 (Nat.le_of_ble_eq_true rfl) d_Rd_readValue_45 ⟨Nat.le_of_ble_eq_true rfl, Nat.le_of_ble_eq_true rfl⟩ (fun X ce q9 memx H locs hx9 hP hS g1 g2 g3 => f_out hlocks hno hP hS g1 g2 g3 ⟨Nat.le_of_ble_eq_true rfl, Nat.le_of_ble_eq_true rfl⟩ ⟨hx9.1, absurd hx9.2 (by decide)⟩) (fun mem286 H locs hq hP hS => ?_)
      have hD : va_D (Az sz) (fw n ad mem286) := fw_D hD
      obtain ⟨hqe, hg287⟩ := hq
      rw [hqe] at hP hD
      refine lv_aload_n Bx.1 Bx.2.1 d_Rd_readValue_48 rfl (lv_at hl 2 rfl) ?_
      refine lv_dup Bx.1 Bx.2.1 d_Rd_readValue_49 rfl ?_
      refine f_get Bx hP (by omega) h_mem12 rfl inRd 2 (by decide) kw_146 rfl rfl d_Rd_readValue_50 ?_
      refine lv_iconst (v := 1) Bx.1 Bx.2.1 d_Rd_readValue_53 (by decide) ?_
      refine lv_iadd Bx.1 Bx.2.1 d_Rd_readValue_54 ?_
      rw [show nI (a + 1) + 1 = nI (a + 1 + 1) from nI_add (a + 1) (1)]
      refine f_put Bx hP hD hS (by omega) h_mem12 rfl inRd tyRd okRd nmRd 2 (by decide) kw_146 rfl rfl rfl rfl (Nat.le_of_ble_eq_true rfl) d_Rd_readValue_55 (fun H locs hP hS => ?_)
      obtain ⟨mem288, e_mem288⟩ : ∃ z, z = va_up mem12 (222) (.inr (4, [.ref (ad 1), .ref (ad 5), .int (nI (a + 1 + 1)), .int (ft1)])) := ⟨_, rfl⟩
      have hP : va_P D vcl (fw n ad mem288) H := by rw [e_mem288]; exact hP
      have hD : va_D (Az sz) (fw n ad mem288) := fw_D hD
      have h_mem288 : mem288 (222) = .inr (4, [.ref (ad 1), .ref (ad 5), .int (nI (a + 1 + 1)), .int (ft1)]) := by rw [e_mem288, va_up_self]
      have hh289 := (va_up_ne mem12 (.inr (4, [.ref (ad 1), .ref (ad 5), .int (nI (a + 1 + 1)), .int (ft1)])) (show (1 : Nat) ≠ 222 by first | decide | assumption | omega)).trans hh13
      rw [← e_mem288] at hh289
      have hh290 := (va_up_ne mem12 (.inr (4, [.ref (ad 1), .ref (ad 5), .int (nI (a + 1 + 1)), .int (ft1)])) (show (5 : Nat) ≠ 222 by first | decide | assumption | omega)).trans hh14
      rw [← e_mem288] at hh290
      have hh291 := (va_up_ne mem12 (.inr (4, [.ref (ad 1), .ref (ad 5), .int (nI (a + 1 + 1)), .int (ft1)])) (show (220 : Nat) ≠ 222 by first | decide | assumption | omega)).trans hh15
      rw [← e_mem288] at hh291
      have hRX292 : RX cy ad lim (a + 1 + 1) (R) (Ec) (to) (nm) m0 mem288 := by rw [e_mem288]; exact hRX16.at
      refine lv_iload_n Bx.1 Bx.2.1 d_Rd_readValue_58 rfl (lv_at hl 0 rfl) ?_
      refine lv_bipush (v := 100) Bx.1 Bx.2.1 d_Rd_readValue_59 (by decide) ?_
      refine lv_icmp_ne Bx.1 Bx.2.1 d_Rd_readValue_61 rfl (fun hb293 => ?_) (fun hb293 => ?_)
      · refine lv_bipush (v := 16) Bx.1 Bx.2.1 d_Rd_readValue_69 (by decide) ?_
        refine lv_istore_n (lv' := [(3, .int (16)), (2, .int (120)), (1, .int (nI a)), (0, .ref (ad 222))]) Bx.1 Bx.2.1 d_Rd_readValue_71 rfl hl (by decide) rfl (fun ls hl => ?_)
        refine lv_aload_n Bx.1 Bx.2.1 d_Rd_readValue_72 rfl (lv_at hl 3 rfl) ?_
        refine lv_bipush (v := 7) Bx.1 Bx.2.1 d_Rd_readValue_73 (by decide) ?_
        refine lv_iload_n Bx.1 Bx.2.1 d_Rd_readValue_75 rfl (lv_at hl 2 rfl) ?_
        refine f_xVr (na := 2) (As := [.int (7), .int (nI a)]) (rest := []) Bx hml E hP hD hS (by omega) h_mem288 rfl (m_Rd_addElementX l hlt hn hT hf hRX292 (by omega)) kw_419 kw_421 sel_Rd_addElement kw_6 kw_422 (by decide +kernel) ⟨rfl, rfl⟩ ⟨Nat.le_of_ble_eq_true rfl, Nat.le_of_ble_eq_true rfl⟩ rfl hl.1 (Nat.le_of_ble_eq_true rfl) d_Rd_readValue_76 ⟨Nat.le_of_ble_eq_true rfl, Nat.le_of_ble_eq_true rfl⟩ (fun X ce q9 memx H locs hx9 hP hS g1 g2 g3 => f_out hlocks hno hP hS g1 g2 g3 ⟨Nat.le_of_ble_eq_true rfl, Nat.le_of_ble_eq_true rfl⟩ ⟨hx9.1, Or.inr (Or.inl hx9.2)⟩) (fun r294 mem295 H locs hq hP hS => ?_)
        have hD : va_D (Az sz) (fw n ad mem295) := fw_D hD
        obtain ⟨hr9298, hec297, hRX296⟩ := hq
        subst hr9298
        obtain ⟨ft299, h9_300⟩ := hRX296.2.1
        have h1_301 : mem295 1 = .inr (0, [.ref (ad 2), .int (nI Z)]) := (hRX296.1.2.2 1 (by omega)).trans hT.1
        have h2_302 : mem295 2 = .inl (cy 0, 240, .inl f) := (hRX296.1.2.2 2 (by omega)).trans hT.2.2
        have h5_303 := hRX296.1.1.2.1
        have hbd309 := hRX296.1.1.1
        obtain ⟨S304, g305, hS_306, h220_307, h221_308⟩ := hRX296.1.1.2.2.2.2.2.2
        obtain ⟨k310, lo311, hi312, as313, pa314, ne315, he_316, ho_317⟩ := (hRX296.1.1.2.2.2.2.2.1 Ec (by omega)).1
        refine lv_astore (lv' := [(4, .ref (ad (20 + 2 * Ec))), (3, .int (16)), (2, .int (120)), (1, .int (nI a)), (0, .ref (ad 222))]) Bx.1 Bx.2.1 d_Rd_readValue_79 hl (by decide) rfl (fun ls hl => ?_)
        refine lv_aload_n Bx.1 Bx.2.1 d_Rd_readValue_81 rfl (lv_at hl 4 rfl) ?_
        refine lv_iload_n Bx.1 Bx.2.1 d_Rd_readValue_82 rfl (lv_at hl 3 rfl) ?_
        refine lv_iload_n Bx.1 Bx.2.1 d_Rd_readValue_83 rfl (lv_at hl 1 rfl) ?_
        refine f_xVi (na := 2) (As := [.int (nI a), .int (16)]) (rest := []) Bx hml E hP hD hS (by omega) h9_300 rfl (m_Rd_readNumberX l hlt hn hT hf hRX296 (by omega) (by omega)) kw_471 kw_473 sel_Rd_readNumber kw_6 kw_474 (by decide +kernel) ⟨rfl, rfl⟩ ⟨Nat.le_of_ble_eq_true rfl, Nat.le_of_ble_eq_true rfl⟩ rfl hl.1 (Nat.le_of_ble_eq_true rfl) d_Rd_readValue_84 ⟨Nat.le_of_ble_eq_true rfl, Nat.le_of_ble_eq_true rfl⟩ (fun X ce q9 memx H locs hx9 hP hS g1 g2 g3 => f_out hlocks hno hP hS g1 g2 g3 ⟨Nat.le_of_ble_eq_true rfl, Nat.le_of_ble_eq_true rfl⟩ ⟨hx9.1, Or.inr (Or.inr ⟨16, Or.inr ⟨hb281, rfl⟩, numsP_n1 hx9.2⟩)⟩) (fun r318 mem319 H locs hq hP hS => ?_)
        have hD : va_D (Az sz) (fw n ad mem319) := fw_D hD
        obtain ⟨a320, hns321, hg322, hg323, hRX324, hfr325⟩ := hq
        obtain ⟨ft326, h9_327⟩ := hRX324.2.1
        have h1_328 : mem319 1 = .inr (0, [.ref (ad 2), .int (nI Z)]) := (hRX324.1.2.2 1 (by omega)).trans hT.1
        have h2_329 : mem319 2 = .inl (cy 0, 240, .inl f) := (hRX324.1.2.2 2 (by omega)).trans hT.2.2
        have h5_330 := hRX324.1.1.2.1
        have hbd336 := hRX324.1.1.1
        obtain ⟨S331, g332, hS_333, h220_334, h221_335⟩ := hRX324.1.1.2.2.2.2.2.2
        obtain ⟨k337, lo338, hi339, as340, pa341, ne342, he_343, ho_344⟩ := (hRX324.1.1.2.2.2.2.2.1 Ec (by omega)).1
        have hel345 := (hfr325 (20 + 2 * Ec) (by omega)).trans he_316
        refine lv_istore (lv' := [(5, .int (r318)), (4, .ref (ad (20 + 2 * Ec))), (3, .int (16)), (2, .int (120)), (1, .int (nI a)), (0, .ref (ad 222))]) Bx.1 Bx.2.1 d_Rd_readValue_87 hl (by decide) rfl (fun ls hl => ?_)
        refine lv_aload_n Bx.1 Bx.2.1 d_Rd_readValue_89 rfl (lv_at hl 5 rfl) ?_
        refine f_callVi (na := 0) (As := []) (rest := []) Bx hml E hP hD hS (by omega) h9_327 rfl (m_Rd_peekX l hn hT hf hRX324 (by omega)) kw_353 kw_355 sel_Rd_peek kw_6 kw_356 (by decide +kernel) ⟨rfl, rfl⟩ ⟨Nat.le_of_ble_eq_true rfl, Nat.le_of_ble_eq_true rfl⟩ rfl hl.1 (Nat.le_of_ble_eq_true rfl) d_Rd_readValue_90 ⟨Nat.le_of_ble_eq_true rfl, Nat.le_of_ble_eq_true rfl⟩ (fun r347 mem348 H locs hq hP hS => ?_)
        have hD : va_D (Az sz) (fw n ad mem348) := fw_D hD
        obtain ⟨hqe, hpk346⟩ := hq
        rw [hqe] at hP hD
        subst hpk346
        refine lv_bipush (v := 45) Bx.1 Bx.2.1 d_Rd_readValue_93 (by decide) ?_
        refine lv_icmp_ne Bx.1 Bx.2.1 d_Rd_readValue_95 rfl (fun hb350 => ?_) (fun hb350 => ?_)
        · refine lv_aload Bx.1 Bx.2.1 d_Rd_readValue_152 (lv_at hl 1 rfl) ?_
          refine lv_bipush (v := 6) Bx.1 Bx.2.1 d_Rd_readValue_154 (by decide) ?_
          refine f_putN Bx hP hD hS (by omega) hel345 rfl inEl tyEl okEl nmEl 0 (by decide) kw_76 rfl rfl rfl rfl (Nat.le_of_ble_eq_true rfl) d_Rd_readValue_156 (fun H locs hP hS => ?_)
          obtain ⟨mem351, e_mem351⟩ : ∃ z, z = va_up mem319 ((20 + 2 * Ec)) (.inr (2, [.int (6), .int (lo311), .int (hi312), as313, pa314, ne315, .ref (ad (21 + 2 * Ec))])) := ⟨_, rfl⟩
          have hP : va_P D vcl (fw n ad mem351) H := by rw [e_mem351]; exact hP
          have hD : va_D (Az sz) (fw n ad mem351) := fw_D hD
          have h_mem351 : mem351 ((20 + 2 * Ec)) = .inr (2, [.int (6), .int (lo311), .int (hi312), as313, pa314, ne315, .ref (ad (21 + 2 * Ec))]) := by rw [e_mem351, va_up_self]
          have hh352 := (va_up_ne mem319 (.inr (2, [.int (6), .int (lo311), .int (hi312), as313, pa314, ne315, .ref (ad (21 + 2 * Ec))])) (show (222 : Nat) ≠ (20 + 2 * Ec) by first | decide | assumption | omega)).trans h9_327
          rw [← e_mem351] at hh352
          have hh353 := (va_up_ne mem319 (.inr (2, [.int (6), .int (lo311), .int (hi312), as313, pa314, ne315, .ref (ad (21 + 2 * Ec))])) (show (1 : Nat) ≠ (20 + 2 * Ec) by first | decide | assumption | omega)).trans h1_328
          rw [← e_mem351] at hh353
          have hh354 := (va_up_ne mem319 (.inr (2, [.int (6), .int (lo311), .int (hi312), as313, pa314, ne315, .ref (ad (21 + 2 * Ec))])) (show (5 : Nat) ≠ (20 + 2 * Ec) by first | decide | assumption | omega)).trans h5_330
          rw [← e_mem351] at hh354
          have hh355 := (va_up_ne mem319 (.inr (2, [.int (6), .int (lo311), .int (hi312), as313, pa314, ne315, .ref (ad (21 + 2 * Ec))])) (show (220 : Nat) ≠ (20 + 2 * Ec) by first | decide | assumption | omega)).trans h220_334
          rw [← e_mem351] at hh355
          have hRX356 : RX cy ad lim (a320) (R) (Ec + 1) (to) (nm) m0 mem351 := by rw [e_mem351]; exact hRX324.el (by omega) (hRX324.1.mk (by omega) (hRX324.1.1.upEl (by omega) ho_317))
          refine lv_aload Bx.1 Bx.2.1 d_Rd_readValue_159 (lv_at hl 1 rfl) ?_
          refine lv_aload_n Bx.1 Bx.2.1 d_Rd_readValue_161 rfl (lv_at hl 5 rfl) ?_
          refine f_get Bx hP (by omega) hh352 rfl inRd 1 (by decide) kw_145 rfl rfl d_Rd_readValue_162 ?_
          refine f_getN Bx hP (by omega) hh354 rfl inGr 2 (by decide) kw_120 rfl rfl d_Rd_readValue_165 ?_
          refine f_getN Bx hP (by omega) hh355 rfl inCh 1 (by decide) kw_33 rfl rfl d_Rd_readValue_168 ?_
          refine f_putN Bx hP hD hS (by omega) h_mem351 rfl inEl tyEl okEl nmEl 1 (by decide) kw_79 rfl rfl rfl rfl (Nat.le_of_ble_eq_true rfl) d_Rd_readValue_171 (fun H locs hP hS => ?_)
          obtain ⟨mem357, e_mem357⟩ : ∃ z, z = va_up mem351 ((20 + 2 * Ec)) (.inr (2, [.int (6), .int (nI S331), .int (hi312), as313, pa314, ne315, .ref (ad (21 + 2 * Ec))])) := ⟨_, rfl⟩
          have hP : va_P D vcl (fw n ad mem357) H := by rw [e_mem357]; exact hP
          have hD : va_D (Az sz) (fw n ad mem357) := fw_D hD
          have h_mem357 : mem357 ((20 + 2 * Ec)) = .inr (2, [.int (6), .int (nI S331), .int (hi312), as313, pa314, ne315, .ref (ad (21 + 2 * Ec))]) := by rw [e_mem357, va_up_self]
          have hh358 := (va_up_ne mem351 (.inr (2, [.int (6), .int (nI S331), .int (hi312), as313, pa314, ne315, .ref (ad (21 + 2 * Ec))])) (show (222 : Nat) ≠ (20 + 2 * Ec) by first | decide | assumption | omega)).trans hh352
          rw [← e_mem357] at hh358
          have hh359 := (va_up_ne mem351 (.inr (2, [.int (6), .int (nI S331), .int (hi312), as313, pa314, ne315, .ref (ad (21 + 2 * Ec))])) (show (1 : Nat) ≠ (20 + 2 * Ec) by first | decide | assumption | omega)).trans hh353
          rw [← e_mem357] at hh359
          have hh360 := (va_up_ne mem351 (.inr (2, [.int (6), .int (nI S331), .int (hi312), as313, pa314, ne315, .ref (ad (21 + 2 * Ec))])) (show (5 : Nat) ≠ (20 + 2 * Ec) by first | decide | assumption | omega)).trans hh354
          rw [← e_mem357] at hh360
          have hh361 := (va_up_ne mem351 (.inr (2, [.int (6), .int (nI S331), .int (hi312), as313, pa314, ne315, .ref (ad (21 + 2 * Ec))])) (show (220 : Nat) ≠ (20 + 2 * Ec) by first | decide | assumption | omega)).trans hh355
          rw [← e_mem357] at hh361
          have hRX362 : RX cy ad lim (a320) (R) (Ec + 1) (to) (nm) m0 mem357 := by rw [e_mem357]; exact hRX356.el (by omega) (hRX356.1.mk (by omega) (hRX356.1.1.upEl (by omega) ho_317))
          refine lv_aload_n Bx.1 Bx.2.1 d_Rd_readValue_174 rfl (lv_at hl 5 rfl) ?_
          refine f_get Bx hP (by omega) hh358 rfl inRd 1 (by decide) kw_145 rfl rfl d_Rd_readValue_175 ?_
          refine f_getN Bx hP (by omega) hh360 rfl inGr 2 (by decide) kw_120 rfl rfl d_Rd_readValue_178 ?_
          refine lv_iload Bx.1 Bx.2.1 d_Rd_readValue_181 (lv_at hl 0 rfl) ?_
          refine f_callVv (na := 1) (As := [.int (r318)]) (rest := []) Bx hml E hP hD hS (by omega) hh361 rfl (m_Ch_appendX l hn hT hf hRX362 (by omega)) kw_462 kw_318 kw_319 kw_2 kw_320 (by decide +kernel) ⟨rfl, rfl⟩ ⟨Nat.le_of_ble_eq_true rfl, Nat.le_of_ble_eq_true rfl⟩ rfl hl.1 (Nat.le_of_ble_eq_true rfl) d_Rd_readValue_183 ⟨Nat.le_of_ble_eq_true rfl, Nat.le_of_ble_eq_true rfl⟩ (fun mem365 H locs hRX363 hP hS => ?_)
          have hD : va_D (Az sz) (fw n ad mem365) := fw_D hD
          obtain ⟨ft366, h9_367⟩ := hRX363.2.1
          have h1_368 : mem365 1 = .inr (0, [.ref (ad 2), .int (nI Z)]) := (hRX363.1.2.2 1 (by omega)).trans hT.1
          have h2_369 : mem365 2 = .inl (cy 0, 240, .inl f) := (hRX363.1.2.2 2 (by omega)).trans hT.2.2
          have h5_370 := hRX363.1.1.2.1
          have hbd376 := hRX363.1.1.1
          obtain ⟨S371, g372, hS_373, h220_374, h221_375⟩ := hRX363.1.1.2.2.2.2.2.2
          obtain ⟨k377, lo378, hi379, as380, pa381, ne382, he_383, ho_384⟩ := (hRX363.1.1.2.2.2.2.2.1 Ec (by omega)).1
          refine lv_iconst (v := 0) Bx.1 Bx.2.1 d_Rd_readValue_186 (by decide) ?_
          refine lv_istore (lv' := [(6, .int (0)), (5, .int (r318)), (4, .ref (ad (20 + 2 * Ec))), (3, .int (16)), (2, .int (120)), (1, .int (nI a)), (0, .ref (ad 222))]) Bx.1 Bx.2.1 d_Rd_readValue_187 hl (by decide) rfl (fun ls hl => ?_)
          have hec9 := hec297
          have loop385 : ∀ (d386 : Nat) (mem9 : Nat → va_E) (a1 : Nat) (k : Nat) (ls : Array Slot) (H : Heap) (locs : List Loc), (3 - k < d386) → (RX cy ad lim a1 R (Ec + 1) to nm m0 mem9) → (a < a1 ∧ a1 ≤ Z ∧ k ≤ 3) → (furP T Z 16 (3 - k) a1 = furP T Z 16 3 a320) → (va_P D vcl (fw n ad mem9) H) → (va_D (Az sz) (fw n ad mem9)) → (va_S (Az sz) s.heap H locs) → (lv_has ls 7 [(6, .int (nI k)), (4, .ref (ad (20 + 2 * Ec))), (3, .int (16)), (1, .int (nI a)), (0, .ref (ad 222))]) → W p l e (headSpec (Cond.code y_Rd_readValue c_Rd_readValue 7 (some (.object "AbnfChart$Element")) :: tg) ({ frames := 12, cells := 1, slots := 6, locals := 280 } : Room)).room s m [.ref (ad 222)].toArray below meth c H locs 0 0 (vx_MQ below (QX (QR (fun r mem' => Ec < 100 ∧ ∃ (ba : Int32) (a' : Nat), ((smF (hereF Z T (a + 1)) = 100 ∧ ba = 10) ∨ (smF (hereF Z T (a + 1)) = 120 ∧ ba = 16)) ∧ numsP T Z (a + 1 + 1) ba = some a' ∧ r = ad (20 + 2 * Ec) ∧ a < a' ∧ a' ≤ Z ∧ RX cy ad lim a' R (Ec + 1) to nm m0 mem') (PP D n ad) (Az sz))) (XQ D sz n ad (fun X mem' => ((X = cIA ∨ X = cIS) ∧ ∃ rc' ec' : Nat, RS cy ad lim rc' ec' m0 mem') ∧ ((¬ smF (hereF Z T (a + 1)) = 100 ∧ ¬ smF (hereF Z T (a + 1)) = 120) ∨ Ec = 100 ∨ ∃ ba : Int32, ((smF (hereF Z T (a + 1)) = 100 ∧ ba = 10) ∨ (smF (hereF Z T (a + 1)) = 120 ∧ ba = 16)) ∧ numsP T Z (a + 1 + 1) ba = none))) [.ref (ad 222)].toArray s 1 6 (Az sz)) (F0 m 189 ls []) := by
            intro d386
            induction d386 with
            | zero => intro mem9 a1 k ls H locs hmeas391; exact absurd hmeas391 (Nat.not_lt_zero _)
            | succ d386 ih390 =>
              intro mem9 a1 k ls H locs hmeas391 hz387 hz388 hz389 hP hD hS hl
              obtain ⟨ft392, h9_393⟩ := hz387.2.1
              have h1_394 : mem9 1 = .inr (0, [.ref (ad 2), .int (nI Z)]) := (hz387.1.2.2 1 (by omega)).trans hT.1
              have h2_395 : mem9 2 = .inl (cy 0, 240, .inl f) := (hz387.1.2.2 2 (by omega)).trans hT.2.2
              have h5_396 := hz387.1.1.2.1
              have hbd402 := hz387.1.1.1
              obtain ⟨S397, g398, hS_399, h220_400, h221_401⟩ := hz387.1.1.2.2.2.2.2.2
              obtain ⟨k403, lo404, hi405, as406, pa407, ne408, he_409, ho_410⟩ := (hz387.1.1.2.2.2.2.2.1 Ec (by omega)).1
              have hbd8 := hz388
              refine lv_iload Bx.1 Bx.2.1 d_Rd_readValue_189 (lv_at hl 0 rfl) ?_
              refine lv_iconst (v := 3) Bx.1 Bx.2.1 d_Rd_readValue_191 (by decide) ?_
              refine lv_icmp_ge Bx.1 Bx.2.1 d_Rd_readValue_192 rfl (fun hb411 => ?_) (fun hb411 => ?_)
              · have hN412 : 3 ≤ k := (nI_leI (by omega) (by omega)).mp (show nI (3) ≤ nI (k) from hb411)
                refine lv_aload Bx.1 Bx.2.1 d_Rd_readValue_236 (lv_at hl 1 rfl) ?_
                refine lv_aload_n Bx.1 Bx.2.1 d_Rd_readValue_238 rfl (lv_at hl 4 rfl) ?_
                refine f_get Bx hP (by omega) h9_393 rfl inRd 1 (by decide) kw_145 rfl rfl d_Rd_readValue_239 ?_
                refine f_getN Bx hP (by omega) h5_396 rfl inGr 2 (by decide) kw_120 rfl rfl d_Rd_readValue_242 ?_
                refine f_getN Bx hP (by omega) h220_400 rfl inCh 1 (by decide) kw_33 rfl rfl d_Rd_readValue_245 ?_
                refine f_putN Bx hP hD hS (by omega) he_409 rfl inEl tyEl okEl nmEl 2 (by decide) kw_82 rfl rfl rfl rfl (Nat.le_of_ble_eq_true rfl) d_Rd_readValue_248 (fun H locs hP hS => ?_)
                obtain ⟨mem413, e_mem413⟩ : ∃ z, z = va_up mem9 ((20 + 2 * Ec)) (.inr (2, [.int (k403), .int (lo404), .int (nI S397), as406, pa407, ne408, .ref (ad (21 + 2 * Ec))])) := ⟨_, rfl⟩
                have hP : va_P D vcl (fw n ad mem413) H := by rw [e_mem413]; exact hP
                have hD : va_D (Az sz) (fw n ad mem413) := fw_D hD
                have h_mem413 : mem413 ((20 + 2 * Ec)) = .inr (2, [.int (k403), .int (lo404), .int (nI S397), as406, pa407, ne408, .ref (ad (21 + 2 * Ec))]) := by rw [e_mem413, va_up_self]
                have hh414 := (va_up_ne mem9 (.inr (2, [.int (k403), .int (lo404), .int (nI S397), as406, pa407, ne408, .ref (ad (21 + 2 * Ec))])) (show (222 : Nat) ≠ (20 + 2 * Ec) by first | decide | assumption | omega)).trans h9_393
                rw [← e_mem413] at hh414
                have hh415 := (va_up_ne mem9 (.inr (2, [.int (k403), .int (lo404), .int (nI S397), as406, pa407, ne408, .ref (ad (21 + 2 * Ec))])) (show (1 : Nat) ≠ (20 + 2 * Ec) by first | decide | assumption | omega)).trans h1_394
                rw [← e_mem413] at hh415
                have hh416 := (va_up_ne mem9 (.inr (2, [.int (k403), .int (lo404), .int (nI S397), as406, pa407, ne408, .ref (ad (21 + 2 * Ec))])) (show (5 : Nat) ≠ (20 + 2 * Ec) by first | decide | assumption | omega)).trans h5_396
                rw [← e_mem413] at hh416
                have hh417 := (va_up_ne mem9 (.inr (2, [.int (k403), .int (lo404), .int (nI S397), as406, pa407, ne408, .ref (ad (21 + 2 * Ec))])) (show (220 : Nat) ≠ (20 + 2 * Ec) by first | decide | assumption | omega)).trans h220_400
                rw [← e_mem413] at hh417
                have hRX418 : RX cy ad lim (a1) (R) (Ec + 1) (to) (nm) m0 mem413 := by rw [e_mem413]; exact hz387.el (by omega) (hz387.1.mk (by omega) (hz387.1.1.upEl (by omega) ho_410))
                refine lv_aload Bx.1 Bx.2.1 d_Rd_readValue_251 (lv_at hl 1 rfl) ?_
                exact x_aret hx hb hlocks hr (⟨by omega, 16, a1, Or.inr ⟨hb281, rfl⟩, (by rw [numsP_fu hns321 hb350, ← hz389]; exact by rw [show 3 - k = 0 by omega]; rfl), rfl, by omega, by omega, hRX418⟩) hP hS d_Rd_readValue_253
              · have hN419 : ¬ 3 ≤ k := fun q9 => hb411 (show nI (3) ≤ nI (k) from (nI_leI (by omega) (by omega)).mpr q9)
                refine lv_aload_n Bx.1 Bx.2.1 d_Rd_readValue_195 rfl (lv_at hl 4 rfl) ?_
                refine f_callVi (na := 0) (As := []) (rest := []) Bx hml E hP hD hS (by omega) h9_393 rfl (m_Rd_peekX l hn hT hf hz387 (by omega)) kw_353 kw_355 sel_Rd_peek kw_6 kw_356 (by decide +kernel) ⟨rfl, rfl⟩ ⟨Nat.le_of_ble_eq_true rfl, Nat.le_of_ble_eq_true rfl⟩ rfl hl.1 (Nat.le_of_ble_eq_true rfl) d_Rd_readValue_196 ⟨Nat.le_of_ble_eq_true rfl, Nat.le_of_ble_eq_true rfl⟩ (fun r421 mem422 H locs hq hP hS => ?_)
                have hD : va_D (Az sz) (fw n ad mem422) := fw_D hD
                obtain ⟨hqe, hpk420⟩ := hq
                rw [hqe] at hP hD
                subst hpk420
                refine lv_bipush (v := 46) Bx.1 Bx.2.1 d_Rd_readValue_199 (by decide) ?_
                refine lv_icmp_ne Bx.1 Bx.2.1 d_Rd_readValue_201 rfl (fun hb424 => ?_) (fun hb424 => ?_)
                · refine lv_aload Bx.1 Bx.2.1 d_Rd_readValue_236 (lv_at hl 1 rfl) ?_
                  refine lv_aload_n Bx.1 Bx.2.1 d_Rd_readValue_238 rfl (lv_at hl 4 rfl) ?_
                  refine f_get Bx hP (by omega) h9_393 rfl inRd 1 (by decide) kw_145 rfl rfl d_Rd_readValue_239 ?_
                  refine f_getN Bx hP (by omega) h5_396 rfl inGr 2 (by decide) kw_120 rfl rfl d_Rd_readValue_242 ?_
                  refine f_getN Bx hP (by omega) h220_400 rfl inCh 1 (by decide) kw_33 rfl rfl d_Rd_readValue_245 ?_
                  refine f_putN Bx hP hD hS (by omega) he_409 rfl inEl tyEl okEl nmEl 2 (by decide) kw_82 rfl rfl rfl rfl (Nat.le_of_ble_eq_true rfl) d_Rd_readValue_248 (fun H locs hP hS => ?_)
                  obtain ⟨mem425, e_mem425⟩ : ∃ z, z = va_up mem9 ((20 + 2 * Ec)) (.inr (2, [.int (k403), .int (lo404), .int (nI S397), as406, pa407, ne408, .ref (ad (21 + 2 * Ec))])) := ⟨_, rfl⟩
                  have hP : va_P D vcl (fw n ad mem425) H := by rw [e_mem425]; exact hP
                  have hD : va_D (Az sz) (fw n ad mem425) := fw_D hD
                  have h_mem425 : mem425 ((20 + 2 * Ec)) = .inr (2, [.int (k403), .int (lo404), .int (nI S397), as406, pa407, ne408, .ref (ad (21 + 2 * Ec))]) := by rw [e_mem425, va_up_self]
                  have hh426 := (va_up_ne mem9 (.inr (2, [.int (k403), .int (lo404), .int (nI S397), as406, pa407, ne408, .ref (ad (21 + 2 * Ec))])) (show (222 : Nat) ≠ (20 + 2 * Ec) by first | decide | assumption | omega)).trans h9_393
                  rw [← e_mem425] at hh426
                  have hh427 := (va_up_ne mem9 (.inr (2, [.int (k403), .int (lo404), .int (nI S397), as406, pa407, ne408, .ref (ad (21 + 2 * Ec))])) (show (1 : Nat) ≠ (20 + 2 * Ec) by first | decide | assumption | omega)).trans h1_394
                  rw [← e_mem425] at hh427
                  have hh428 := (va_up_ne mem9 (.inr (2, [.int (k403), .int (lo404), .int (nI S397), as406, pa407, ne408, .ref (ad (21 + 2 * Ec))])) (show (5 : Nat) ≠ (20 + 2 * Ec) by first | decide | assumption | omega)).trans h5_396
                  rw [← e_mem425] at hh428
                  have hh429 := (va_up_ne mem9 (.inr (2, [.int (k403), .int (lo404), .int (nI S397), as406, pa407, ne408, .ref (ad (21 + 2 * Ec))])) (show (220 : Nat) ≠ (20 + 2 * Ec) by first | decide | assumption | omega)).trans h220_400
                  rw [← e_mem425] at hh429
                  have hRX430 : RX cy ad lim (a1) (R) (Ec + 1) (to) (nm) m0 mem425 := by rw [e_mem425]; exact hz387.el (by omega) (hz387.1.mk (by omega) (hz387.1.1.upEl (by omega) ho_410))
                  refine lv_aload Bx.1 Bx.2.1 d_Rd_readValue_251 (lv_at hl 1 rfl) ?_
                  exact x_aret hx hb hlocks hr (⟨by omega, 16, a1, Or.inr ⟨hb281, rfl⟩, (by rw [numsP_fu hns321 hb350, ← hz389]; exact furP_no hb424), rfl, by omega, by omega, hRX430⟩) hP hS d_Rd_readValue_253
                · have hlt431 := hereF_lt (by rw [hb424]; decide)
                  refine lv_aload_n Bx.1 Bx.2.1 d_Rd_readValue_204 rfl (lv_at hl 4 rfl) ?_
                  refine lv_dup Bx.1 Bx.2.1 d_Rd_readValue_205 rfl ?_
                  refine f_get Bx hP (by omega) h9_393 rfl inRd 2 (by decide) kw_146 rfl rfl d_Rd_readValue_206 ?_
                  refine lv_iconst (v := 1) Bx.1 Bx.2.1 d_Rd_readValue_209 (by decide) ?_
                  refine lv_iadd Bx.1 Bx.2.1 d_Rd_readValue_210 ?_
                  rw [show nI a1 + 1 = nI (a1 + 1) from nI_add (a1) (1)]
                  refine f_put Bx hP hD hS (by omega) h9_393 rfl inRd tyRd okRd nmRd 2 (by decide) kw_146 rfl rfl rfl rfl (Nat.le_of_ble_eq_true rfl) d_Rd_readValue_211 (fun H locs hP hS => ?_)
                  obtain ⟨mem432, e_mem432⟩ : ∃ z, z = va_up mem9 (222) (.inr (4, [.ref (ad 1), .ref (ad 5), .int (nI (a1 + 1)), .int (ft392)])) := ⟨_, rfl⟩
                  have hP : va_P D vcl (fw n ad mem432) H := by rw [e_mem432]; exact hP
                  have hD : va_D (Az sz) (fw n ad mem432) := fw_D hD
                  have h_mem432 : mem432 (222) = .inr (4, [.ref (ad 1), .ref (ad 5), .int (nI (a1 + 1)), .int (ft392)]) := by rw [e_mem432, va_up_self]
                  have hh433 := (va_up_ne mem9 (.inr (4, [.ref (ad 1), .ref (ad 5), .int (nI (a1 + 1)), .int (ft392)])) (show (1 : Nat) ≠ 222 by first | decide | assumption | omega)).trans h1_394
                  rw [← e_mem432] at hh433
                  have hh434 := (va_up_ne mem9 (.inr (4, [.ref (ad 1), .ref (ad 5), .int (nI (a1 + 1)), .int (ft392)])) (show (5 : Nat) ≠ 222 by first | decide | assumption | omega)).trans h5_396
                  rw [← e_mem432] at hh434
                  have hh435 := (va_up_ne mem9 (.inr (4, [.ref (ad 1), .ref (ad 5), .int (nI (a1 + 1)), .int (ft392)])) (show (220 : Nat) ≠ 222 by first | decide | assumption | omega)).trans h220_400
                  rw [← e_mem432] at hh435
                  have hh436 := (va_up_ne mem9 (.inr (4, [.ref (ad 1), .ref (ad 5), .int (nI (a1 + 1)), .int (ft392)])) (show ((20 + 2 * Ec) : Nat) ≠ 222 by first | decide | assumption | omega)).trans he_409
                  rw [← e_mem432] at hh436
                  have hRX437 : RX cy ad lim (a1 + 1) (R) (Ec + 1) (to) (nm) m0 mem432 := by rw [e_mem432]; exact hz387.at
                  refine lv_aload_n Bx.1 Bx.2.1 d_Rd_readValue_214 rfl (lv_at hl 4 rfl) ?_
                  refine f_get Bx hP (by omega) h_mem432 rfl inRd 1 (by decide) kw_145 rfl rfl d_Rd_readValue_215 ?_
                  refine f_getN Bx hP (by omega) hh434 rfl inGr 2 (by decide) kw_120 rfl rfl d_Rd_readValue_218 ?_
                  refine lv_aload_n Bx.1 Bx.2.1 d_Rd_readValue_221 rfl (lv_at hl 4 rfl) ?_
                  refine lv_iload_n Bx.1 Bx.2.1 d_Rd_readValue_222 rfl (lv_at hl 3 rfl) ?_
                  refine lv_iload_n Bx.1 Bx.2.1 d_Rd_readValue_223 rfl (lv_at hl 2 rfl) ?_
                  refine f_xVi (na := 2) (As := [.int (nI a), .int (16)]) (rest := [.ref (ad 220)]) Bx hml E hP hD hS (by omega) h_mem432 rfl (m_Rd_readNumberX l hlt hn hT hf hRX437 (by omega) (by omega)) kw_471 kw_473 sel_Rd_readNumber kw_6 kw_474 (by decide +kernel) ⟨rfl, rfl⟩ ⟨Nat.le_of_ble_eq_true rfl, Nat.le_of_ble_eq_true rfl⟩ rfl hl.1 (Nat.le_of_ble_eq_true rfl) d_Rd_readValue_224 ⟨Nat.le_of_ble_eq_true rfl, Nat.le_of_ble_eq_true rfl⟩ (fun X ce q9 memx H locs hx9 hP hS g1 g2 g3 => f_out hlocks hno hP hS g1 g2 g3 ⟨Nat.le_of_ble_eq_true rfl, Nat.le_of_ble_eq_true rfl⟩ ⟨hx9.1, Or.inr (Or.inr ⟨16, Or.inr ⟨hb281, rfl⟩, (by rw [numsP_fu hns321 hb350, ← hz389, show 3 - k = (3 - (k + 1)) + 1 by omega]; exact furP_bad hb424 hx9.2)⟩)⟩) (fun r438 mem439 H locs hq hP hS => ?_)
                  have hD : va_D (Az sz) (fw n ad mem439) := fw_D hD
                  obtain ⟨a440, hns441, hg442, hg443, hRX444, hfr445⟩ := hq
                  obtain ⟨ft446, h9_447⟩ := hRX444.2.1
                  have h1_448 : mem439 1 = .inr (0, [.ref (ad 2), .int (nI Z)]) := (hRX444.1.2.2 1 (by omega)).trans hT.1
                  have h2_449 : mem439 2 = .inl (cy 0, 240, .inl f) := (hRX444.1.2.2 2 (by omega)).trans hT.2.2
                  have h5_450 := hRX444.1.1.2.1
                  have hbd456 := hRX444.1.1.1
                  obtain ⟨S451, g452, hS_453, h220_454, h221_455⟩ := hRX444.1.1.2.2.2.2.2.2
                  obtain ⟨k457, lo458, hi459, as460, pa461, ne462, he_463, ho_464⟩ := (hRX444.1.1.2.2.2.2.2.1 Ec (by omega)).1
                  have hel465 := (hfr445 (20 + 2 * Ec) (by omega)).trans hh436
                  refine f_callVv (na := 1) (As := [.int (r438)]) (rest := []) Bx hml E hP hD hS (by omega) h220_454 rfl (m_Ch_appendX l hn hT hf hRX444 (by omega)) kw_462 kw_318 kw_319 kw_2 kw_320 (by decide +kernel) ⟨rfl, rfl⟩ ⟨Nat.le_of_ble_eq_true rfl, Nat.le_of_ble_eq_true rfl⟩ rfl hl.1 (Nat.le_of_ble_eq_true rfl) d_Rd_readValue_227 ⟨Nat.le_of_ble_eq_true rfl, Nat.le_of_ble_eq_true rfl⟩ (fun mem468 H locs hRX466 hP hS => ?_)
                  have hD : va_D (Az sz) (fw n ad mem468) := fw_D hD
                  obtain ⟨ft469, h9_470⟩ := hRX466.2.1
                  have h1_471 : mem468 1 = .inr (0, [.ref (ad 2), .int (nI Z)]) := (hRX466.1.2.2 1 (by omega)).trans hT.1
                  have h2_472 : mem468 2 = .inl (cy 0, 240, .inl f) := (hRX466.1.2.2 2 (by omega)).trans hT.2.2
                  have h5_473 := hRX466.1.1.2.1
                  have hbd479 := hRX466.1.1.1
                  obtain ⟨S474, g475, hS_476, h220_477, h221_478⟩ := hRX466.1.1.2.2.2.2.2.2
                  obtain ⟨k480, lo481, hi482, as483, pa484, ne485, he_486, ho_487⟩ := (hRX466.1.1.2.2.2.2.2.1 Ec (by omega)).1
                  refine lv_iinc (lv' := [(6, .int ((nI k + (1)))), (4, .ref (ad (20 + 2 * Ec))), (3, .int (16)), (1, .int (nI a)), (0, .ref (ad 222))]) Bx.1 Bx.2.1 d_Rd_readValue_230 hl (k := 0) rfl rfl (by decide) rfl (fun ls hl => ?_)
                  rw [show (nI k + (1) : Int32) = nI (k + 1) from nI_1 (k)] at hl
                  refine lv_goto Bx.1 Bx.2.1 d_Rd_readValue_233 rfl ?_
                  exact ih390 mem468 (a440) (k + 1) _ _ _ (by have := hmeas391; omega) (hRX466) (⟨by omega, by omega, by omega⟩) (by rw [← hz389, show 3 - k = (3 - (k + 1)) + 1 by omega, furP_on hb424 hns441]) hP hD hS (lv_sub hl [0, 1, 2, 3, 4] rfl)
          exact loop385 _ mem365 (a320) (0) _ _ _ (Nat.lt_succ_self _) (hRX363) (⟨by omega, by omega, by omega⟩) (rfl) hP hD hS (lv_sub hl [0, 2, 3, 5, 6] rfl)
        · have hlt488 := hereF_lt (by rw [hb350]; decide)
          refine lv_aload_n Bx.1 Bx.2.1 d_Rd_readValue_98 rfl (lv_at hl 5 rfl) ?_
          refine lv_dup Bx.1 Bx.2.1 d_Rd_readValue_99 rfl ?_
          refine f_get Bx hP (by omega) h9_327 rfl inRd 2 (by decide) kw_146 rfl rfl d_Rd_readValue_100 ?_
          refine lv_iconst (v := 1) Bx.1 Bx.2.1 d_Rd_readValue_103 (by decide) ?_
          refine lv_iadd Bx.1 Bx.2.1 d_Rd_readValue_104 ?_
          rw [show nI a320 + 1 = nI (a320 + 1) from nI_add (a320) (1)]
          refine f_put Bx hP hD hS (by omega) h9_327 rfl inRd tyRd okRd nmRd 2 (by decide) kw_146 rfl rfl rfl rfl (Nat.le_of_ble_eq_true rfl) d_Rd_readValue_105 (fun H locs hP hS => ?_)
          obtain ⟨mem489, e_mem489⟩ : ∃ z, z = va_up mem319 (222) (.inr (4, [.ref (ad 1), .ref (ad 5), .int (nI (a320 + 1)), .int (ft326)])) := ⟨_, rfl⟩
          have hP : va_P D vcl (fw n ad mem489) H := by rw [e_mem489]; exact hP
          have hD : va_D (Az sz) (fw n ad mem489) := fw_D hD
          have h_mem489 : mem489 (222) = .inr (4, [.ref (ad 1), .ref (ad 5), .int (nI (a320 + 1)), .int (ft326)]) := by rw [e_mem489, va_up_self]
          have hh490 := (va_up_ne mem319 (.inr (4, [.ref (ad 1), .ref (ad 5), .int (nI (a320 + 1)), .int (ft326)])) (show (1 : Nat) ≠ 222 by first | decide | assumption | omega)).trans h1_328
          rw [← e_mem489] at hh490
          have hh491 := (va_up_ne mem319 (.inr (4, [.ref (ad 1), .ref (ad 5), .int (nI (a320 + 1)), .int (ft326)])) (show (5 : Nat) ≠ 222 by first | decide | assumption | omega)).trans h5_330
          rw [← e_mem489] at hh491
          have hh492 := (va_up_ne mem319 (.inr (4, [.ref (ad 1), .ref (ad 5), .int (nI (a320 + 1)), .int (ft326)])) (show (220 : Nat) ≠ 222 by first | decide | assumption | omega)).trans h220_334
          rw [← e_mem489] at hh492
          have hh493 := (va_up_ne mem319 (.inr (4, [.ref (ad 1), .ref (ad 5), .int (nI (a320 + 1)), .int (ft326)])) (show ((20 + 2 * Ec) : Nat) ≠ 222 by first | decide | assumption | omega)).trans hel345
          rw [← e_mem489] at hh493
          have hRX494 : RX cy ad lim (a320 + 1) (R) (Ec + 1) (to) (nm) m0 mem489 := by rw [e_mem489]; exact hRX324.at
          refine lv_aload Bx.1 Bx.2.1 d_Rd_readValue_108 (lv_at hl 1 rfl) ?_
          refine lv_iload Bx.1 Bx.2.1 d_Rd_readValue_110 (lv_at hl 0 rfl) ?_
          refine f_putN Bx hP hD hS (by omega) hh493 rfl inEl tyEl okEl nmEl 1 (by decide) kw_79 rfl rfl rfl rfl (Nat.le_of_ble_eq_true rfl) d_Rd_readValue_112 (fun H locs hP hS => ?_)
          obtain ⟨mem495, e_mem495⟩ : ∃ z, z = va_up mem489 ((20 + 2 * Ec)) (.inr (2, [.int (k310), .int (r318), .int (hi312), as313, pa314, ne315, .ref (ad (21 + 2 * Ec))])) := ⟨_, rfl⟩
          have hP : va_P D vcl (fw n ad mem495) H := by rw [e_mem495]; exact hP
          have hD : va_D (Az sz) (fw n ad mem495) := fw_D hD
          have h_mem495 : mem495 ((20 + 2 * Ec)) = .inr (2, [.int (k310), .int (r318), .int (hi312), as313, pa314, ne315, .ref (ad (21 + 2 * Ec))]) := by rw [e_mem495, va_up_self]
          have hh496 := (va_up_ne mem489 (.inr (2, [.int (k310), .int (r318), .int (hi312), as313, pa314, ne315, .ref (ad (21 + 2 * Ec))])) (show (222 : Nat) ≠ (20 + 2 * Ec) by first | decide | assumption | omega)).trans h_mem489
          rw [← e_mem495] at hh496
          have hh497 := (va_up_ne mem489 (.inr (2, [.int (k310), .int (r318), .int (hi312), as313, pa314, ne315, .ref (ad (21 + 2 * Ec))])) (show (1 : Nat) ≠ (20 + 2 * Ec) by first | decide | assumption | omega)).trans hh490
          rw [← e_mem495] at hh497
          have hh498 := (va_up_ne mem489 (.inr (2, [.int (k310), .int (r318), .int (hi312), as313, pa314, ne315, .ref (ad (21 + 2 * Ec))])) (show (5 : Nat) ≠ (20 + 2 * Ec) by first | decide | assumption | omega)).trans hh491
          rw [← e_mem495] at hh498
          have hh499 := (va_up_ne mem489 (.inr (2, [.int (k310), .int (r318), .int (hi312), as313, pa314, ne315, .ref (ad (21 + 2 * Ec))])) (show (220 : Nat) ≠ (20 + 2 * Ec) by first | decide | assumption | omega)).trans hh492
          rw [← e_mem495] at hh499
          have hRX500 : RX cy ad lim (a320 + 1) (R) (Ec + 1) (to) (nm) m0 mem495 := by rw [e_mem495]; exact hRX494.el (by omega) (hRX494.1.mk (by omega) (hRX494.1.1.upEl (by omega) ho_317))
          refine lv_aload Bx.1 Bx.2.1 d_Rd_readValue_115 (lv_at hl 1 rfl) ?_
          refine lv_aload_n Bx.1 Bx.2.1 d_Rd_readValue_117 rfl (lv_at hl 5 rfl) ?_
          refine lv_iload_n Bx.1 Bx.2.1 d_Rd_readValue_118 rfl (lv_at hl 4 rfl) ?_
          refine lv_iload_n Bx.1 Bx.2.1 d_Rd_readValue_119 rfl (lv_at hl 2 rfl) ?_
          refine f_xVi (na := 2) (As := [.int (nI a), .int (16)]) (rest := [.ref (ad (20 + 2 * Ec))]) Bx hml E hP hD hS (by omega) hh496 rfl (m_Rd_readNumberX l hlt hn hT hf hRX500 (by omega) (by omega)) kw_471 kw_473 sel_Rd_readNumber kw_6 kw_474 (by decide +kernel) ⟨rfl, rfl⟩ ⟨Nat.le_of_ble_eq_true rfl, Nat.le_of_ble_eq_true rfl⟩ rfl hl.1 (Nat.le_of_ble_eq_true rfl) d_Rd_readValue_120 ⟨Nat.le_of_ble_eq_true rfl, Nat.le_of_ble_eq_true rfl⟩ (fun X ce q9 memx H locs hx9 hP hS g1 g2 g3 => f_out hlocks hno hP hS g1 g2 g3 ⟨Nat.le_of_ble_eq_true rfl, Nat.le_of_ble_eq_true rfl⟩ ⟨hx9.1, Or.inr (Or.inr ⟨16, Or.inr ⟨hb281, rfl⟩, numsP_n2 hns321 hb350 hx9.2⟩)⟩) (fun r501 mem502 H locs hq hP hS => ?_)
          have hD : va_D (Az sz) (fw n ad mem502) := fw_D hD
          obtain ⟨a503, hns504, hg505, hg506, hRX507, hfr508⟩ := hq
          obtain ⟨ft509, h9_510⟩ := hRX507.2.1
          have h1_511 : mem502 1 = .inr (0, [.ref (ad 2), .int (nI Z)]) := (hRX507.1.2.2 1 (by omega)).trans hT.1
          have h2_512 : mem502 2 = .inl (cy 0, 240, .inl f) := (hRX507.1.2.2 2 (by omega)).trans hT.2.2
          have h5_513 := hRX507.1.1.2.1
          have hbd519 := hRX507.1.1.1
          obtain ⟨S514, g515, hS_516, h220_517, h221_518⟩ := hRX507.1.1.2.2.2.2.2.2
          obtain ⟨k520, lo521, hi522, as523, pa524, ne525, he_526, ho_527⟩ := (hRX507.1.1.2.2.2.2.2.1 Ec (by omega)).1
          have hel528 := (hfr508 (20 + 2 * Ec) (by omega)).trans h_mem495
          refine f_putN Bx hP hD hS (by omega) hel528 rfl inEl tyEl okEl nmEl 2 (by decide) kw_82 rfl rfl rfl rfl (Nat.le_of_ble_eq_true rfl) d_Rd_readValue_123 (fun H locs hP hS => ?_)
          obtain ⟨mem529, e_mem529⟩ : ∃ z, z = va_up mem502 ((20 + 2 * Ec)) (.inr (2, [.int (k310), .int (r318), .int (r501), as313, pa314, ne315, .ref (ad (21 + 2 * Ec))])) := ⟨_, rfl⟩
          have hP : va_P D vcl (fw n ad mem529) H := by rw [e_mem529]; exact hP
          have hD : va_D (Az sz) (fw n ad mem529) := fw_D hD
          have h_mem529 : mem529 ((20 + 2 * Ec)) = .inr (2, [.int (k310), .int (r318), .int (r501), as313, pa314, ne315, .ref (ad (21 + 2 * Ec))]) := by rw [e_mem529, va_up_self]
          have hh530 := (va_up_ne mem502 (.inr (2, [.int (k310), .int (r318), .int (r501), as313, pa314, ne315, .ref (ad (21 + 2 * Ec))])) (show (222 : Nat) ≠ (20 + 2 * Ec) by first | decide | assumption | omega)).trans h9_510
          rw [← e_mem529] at hh530
          have hh531 := (va_up_ne mem502 (.inr (2, [.int (k310), .int (r318), .int (r501), as313, pa314, ne315, .ref (ad (21 + 2 * Ec))])) (show (1 : Nat) ≠ (20 + 2 * Ec) by first | decide | assumption | omega)).trans h1_511
          rw [← e_mem529] at hh531
          have hh532 := (va_up_ne mem502 (.inr (2, [.int (k310), .int (r318), .int (r501), as313, pa314, ne315, .ref (ad (21 + 2 * Ec))])) (show (5 : Nat) ≠ (20 + 2 * Ec) by first | decide | assumption | omega)).trans h5_513
          rw [← e_mem529] at hh532
          have hh533 := (va_up_ne mem502 (.inr (2, [.int (k310), .int (r318), .int (r501), as313, pa314, ne315, .ref (ad (21 + 2 * Ec))])) (show (220 : Nat) ≠ (20 + 2 * Ec) by first | decide | assumption | omega)).trans h220_517
          rw [← e_mem529] at hh533
          have hRX534 : RX cy ad lim (a503) (R) (Ec + 1) (to) (nm) m0 mem529 := by rw [e_mem529]; exact hRX507.el (by omega) (hRX507.1.mk (by omega) (hRX507.1.1.upEl (by omega) ho_317))
          refine lv_aload_n Bx.1 Bx.2.1 d_Rd_readValue_126 rfl (lv_at hl 5 rfl) ?_
          refine lv_aload Bx.1 Bx.2.1 d_Rd_readValue_127 (lv_at hl 1 rfl) ?_
          refine f_getN Bx hP (by omega) h_mem529 rfl inEl 1 (by decide) kw_79 rfl rfl d_Rd_readValue_129 ?_
          refine lv_aload Bx.1 Bx.2.1 d_Rd_readValue_132 (lv_at hl 1 rfl) ?_
          refine f_getN Bx hP (by omega) h_mem529 rfl inEl 2 (by decide) kw_82 rfl rfl d_Rd_readValue_134 ?_
          refine lv_icmp_gt Bx.1 Bx.2.1 d_Rd_readValue_137 rfl (fun hb535 => ?_) (fun hb535 => ?_)
          · refine lv_iconst (v := 0) Bx.1 Bx.2.1 d_Rd_readValue_144 (by decide) ?_
            refine lv_iload_n Bx.1 Bx.2.1 d_Rd_readValue_145 rfl (lv_at hl 4 rfl) ?_
            refine f_xVv (na := 2) (As := [.int (0), .int (nI a)]) (rest := []) Bx hml E hP hD hS (by omega) hh530 rfl (m_Rd_needReadableX l hlt hn hT hf hRX534 (by omega)) kw_360 kw_362 sel_Rd_needReadable kw_6 kw_363 (by decide +kernel) ⟨rfl, rfl⟩ ⟨Nat.le_of_ble_eq_true rfl, Nat.le_of_ble_eq_true rfl⟩ rfl hl.1 (Nat.le_of_ble_eq_true rfl) d_Rd_readValue_146 ⟨Nat.le_of_ble_eq_true rfl, Nat.le_of_ble_eq_true rfl⟩ (fun X ce q9 memx H locs hx9 hP hS g1 g2 g3 => f_out hlocks hno hP hS g1 g2 g3 ⟨Nat.le_of_ble_eq_true rfl, Nat.le_of_ble_eq_true rfl⟩ ⟨hx9.1, Or.inr (Or.inr ⟨16, Or.inr ⟨hb281, rfl⟩, numsP_lt hns321 hb350 hns504 hb535⟩)⟩) (fun mem537 H locs hq hP hS => ?_)
            have hD : va_D (Az sz) (fw n ad mem537) := fw_D hD
            obtain ⟨hqe, hg538⟩ := hq
            rw [hqe] at hP hD
            exact absurd rfl hg538
          · refine lv_iconst (v := 1) Bx.1 Bx.2.1 d_Rd_readValue_140 (by decide) ?_
            refine lv_goto Bx.1 Bx.2.1 d_Rd_readValue_141 rfl ?_
            refine lv_iload_n Bx.1 Bx.2.1 d_Rd_readValue_145 rfl (lv_at hl 4 rfl) ?_
            refine f_xVv (na := 2) (As := [.int (1), .int (nI a)]) (rest := []) Bx hml E hP hD hS (by omega) hh530 rfl (m_Rd_needReadableX l hlt hn hT hf hRX534 (by omega)) kw_360 kw_362 sel_Rd_needReadable kw_6 kw_363 (by decide +kernel) ⟨rfl, rfl⟩ ⟨Nat.le_of_ble_eq_true rfl, Nat.le_of_ble_eq_true rfl⟩ rfl hl.1 (Nat.le_of_ble_eq_true rfl) d_Rd_readValue_146 ⟨Nat.le_of_ble_eq_true rfl, Nat.le_of_ble_eq_true rfl⟩ (fun X ce q9 memx H locs hx9 hP hS g1 g2 g3 => f_out hlocks hno hP hS g1 g2 g3 ⟨Nat.le_of_ble_eq_true rfl, Nat.le_of_ble_eq_true rfl⟩ ⟨hx9.1, absurd hx9.2 (by decide)⟩) (fun mem540 H locs hq hP hS => ?_)
            have hD : va_D (Az sz) (fw n ad mem540) := fw_D hD
            obtain ⟨hqe, hg541⟩ := hq
            rw [hqe] at hP hD
            refine lv_aload Bx.1 Bx.2.1 d_Rd_readValue_149 (lv_at hl 1 rfl) ?_
            exact x_aret hx hb hlocks hr (⟨by omega, 16, a503, Or.inr ⟨hb281, rfl⟩, numsP_rg hns321 hb350 hns504 hb535, rfl, by omega, by omega, hRX534⟩) hP hS d_Rd_readValue_151
      · exact absurd hb293 (by decide)
set_option maxHeartbeats 4000000 in
set_option maxRecDepth 100000 in
theorem m_Rd_readAskedNameX (l : Launch) {D : va_G} {cy : Nat → ClassId} {sz n : Nat} {ad : Nat → Nat} {mem : Nat → va_E} {Z a R Ec lim : Nat} {f T : Nat → Int32} {to : Nat → Int32} {nm : Nat → Int64} {m0 : Nat → va_E} {A : Ro} (hlt : l.stackTraces = false) (hn : 224 ≤ n) (hT : TX cy ad Z f m0) (hf : ∀ k, k < Z → f k = T k) (hRX : RX cy ad lim a R Ec to nm m0 mem) (haB : a ≤ 300) (haZ : a ≤ Z) : NXr l D cy sz n ad y_Rd_readAskedName c_Rd_readAskedName 4 (some (.object "AbnfChart$Element")) ({ frames := 10, cells := 1, slots := 6, locals := 220 } : Room) mem [.ref (ad 222)] (fun r mem' => ∃ i a' R' A' nm', nameS T Z a R A nm = some (i, a', R', A', nm') ∧ ¬ ltF (hereF Z T a) = 0 ∧ Ec < 100 ∧ r = ad (20 + 2 * Ec) ∧ R ≤ R' ∧ a < a' ∧ a' ≤ Z ∧ (∀ j, j ≠ 227 → A' j = A j) ∧ TOK R R' (A 227) (A' 227) ∧ ∃ to', TOK R R' to to' ∧ RX cy ad lim a' R' (Ec + 1) to' nm' m0 mem') (fun X mem' => ((X = cIA ∨ X = cIS) ∧ ∃ rc' ec' : Nat, RS cy ad lim rc' ec' m0 mem') ∧ (ltF (hereF Z T a) = 0 ∨ nameS T Z a R A nm = none ∨ Ec = 100)) := by
  refine vx_ofW (cc := c_Rd_readAskedName) (maxL := 4) (ret := (some (.object "AbnfChart$Element"))) (by decide) rfl ?_
  intro p e s m args below meth c s₁ B hml hno hv
  obtain ⟨rfl, E, hP, hD⟩ := hv
  have hx := B.exec
  have hb := B.bytes
  have hr := B.returns
  have hlocks := B.notSynchronized
  have Bx : MB p s m [.ref (ad 222)].toArray c c_Rd_readAskedName "AbnfChart$Reader" D cy := ⟨hx, hb, tb_all (atoms_spec B.pre) E.2.1, findClass_of_methodNamed B.named, E.1⟩
  have hS : va_S (Az sz) s.heap s.heap [] := va_S.rf
  have hl := lv_entry ([.ref (ad 222)]) (n := 4) (Nat.le_of_ble_eq_true rfl)
  rw [lg_entry_eq]
  generalize (lg_sl ([.ref (ad 222)]) ++ List.replicate (4 - (lg_sl ([.ref (ad 222)])).length) Slot.unset).toArray = ls at hl ⊢
  have hl : lv_has ls 4 [(0, .ref (ad 222))] := hl
  have hZ9 := hT.2.1
  have hbd9 := hRX.1.1.1
  obtain ⟨ft1, h9_2⟩ := hRX.2.1
  have h1_3 : mem 1 = .inr (0, [.ref (ad 2), .int (nI Z)]) := (hRX.1.2.2 1 (by omega)).trans hT.1
  have h2_4 : mem 2 = .inl (cy 0, 240, .inl f) := (hRX.1.2.2 2 (by omega)).trans hT.2.2
  have h5_5 := hRX.1.1.2.1
  have hbd11 := hRX.1.1.1
  obtain ⟨S6, g7, hS_8, h220_9, h221_10⟩ := hRX.1.1.2.2.2.2.2.2
  refine lv_aload_n Bx.1 Bx.2.1 d_Rd_readAskedName_0 rfl (lv_at hl 0 rfl) ?_
  refine f_get Bx hP (by omega) h9_2 rfl inRd 2 (by decide) kw_146 rfl rfl d_Rd_readAskedName_1 ?_
  refine lv_istore_n (lv' := [(1, .int (nI a)), (0, .ref (ad 222))]) Bx.1 Bx.2.1 d_Rd_readAskedName_4 rfl hl (by decide) rfl (fun ls hl => ?_)
  refine lv_aload_n Bx.1 Bx.2.1 d_Rd_readAskedName_5 rfl (lv_at hl 1 rfl) ?_
  refine f_xVr (na := 0) (As := []) (rest := []) Bx hml E hP hD hS (by omega) h9_2 rfl (m_Rd_readNameX l hlt hn hT hf hRX (by omega) (A := A) (by omega)) kw_349 kw_351 sel_Rd_readName kw_6 kw_352 (by decide +kernel) ⟨rfl, rfl⟩ ⟨Nat.le_of_ble_eq_true rfl, Nat.le_of_ble_eq_true rfl⟩ rfl hl.1 (Nat.le_of_ble_eq_true rfl) d_Rd_readAskedName_6 ⟨Nat.le_of_ble_eq_true rfl, Nat.le_of_ble_eq_true rfl⟩ (fun X ce q9 memx H locs hx9 hP hS g1 g2 g3 => f_out hlocks hno hP hS g1 g2 g3 ⟨Nat.le_of_ble_eq_true rfl, Nat.le_of_ble_eq_true rfl⟩ ⟨hx9.1, hx9.2.elim Or.inl (fun z => Or.inr (Or.inl z))⟩) (fun r12 mem13 H locs hq hP hS => ?_)
  have hD : va_D (Az sz) (fw n ad mem13) := fw_D hD
  obtain ⟨i, a1, R1, A1, nm1, hsn, hr9, hi, hR1, ha1, ha2, hA1, htk, ⟨to1, htk1, hRXn⟩, hle⟩ := hq
  subst hr9
  obtain ⟨ft14, h9_15⟩ := hRXn.2.1
  have h1_16 : mem13 1 = .inr (0, [.ref (ad 2), .int (nI Z)]) := (hRXn.1.2.2 1 (by omega)).trans hT.1
  have h2_17 : mem13 2 = .inl (cy 0, 240, .inl f) := (hRXn.1.2.2 2 (by omega)).trans hT.2.2
  have h5_18 := hRXn.1.1.2.1
  have hbd24 := hRXn.1.1.1
  obtain ⟨S19, g20, hS_21, h220_22, h221_23⟩ := hRXn.1.1.2.2.2.2.2.2
  refine lv_astore_n (lv' := [(2, .ref (ad (7 + i))), (1, .int (nI a)), (0, .ref (ad 222))]) Bx.1 Bx.2.1 d_Rd_readAskedName_9 rfl hl (by decide) rfl (fun ls hl => ?_)
  refine lv_aload_n Bx.1 Bx.2.1 d_Rd_readAskedName_10 rfl (lv_at hl 2 rfl) ?_
  refine lv_iconst (v := 4) Bx.1 Bx.2.1 d_Rd_readAskedName_11 (by decide) ?_
  refine lv_iload_n Bx.1 Bx.2.1 d_Rd_readAskedName_12 rfl (lv_at hl 1 rfl) ?_
  refine f_xVr (na := 2) (As := [.int (4), .int (nI a)]) (rest := []) Bx hml E hP hD hS (by omega) h9_15 rfl (m_Rd_addElementX l hlt hn hT hf hRXn (by omega)) kw_419 kw_421 sel_Rd_addElement kw_6 kw_422 (by decide +kernel) ⟨rfl, rfl⟩ ⟨Nat.le_of_ble_eq_true rfl, Nat.le_of_ble_eq_true rfl⟩ rfl hl.1 (Nat.le_of_ble_eq_true rfl) d_Rd_readAskedName_13 ⟨Nat.le_of_ble_eq_true rfl, Nat.le_of_ble_eq_true rfl⟩ (fun X ce q9 memx H locs hx9 hP hS g1 g2 g3 => f_out hlocks hno hP hS g1 g2 g3 ⟨Nat.le_of_ble_eq_true rfl, Nat.le_of_ble_eq_true rfl⟩ ⟨hx9.1, Or.inr (Or.inr hx9.2)⟩) (fun r25 mem26 H locs hq hP hS => ?_)
  have hD : va_D (Az sz) (fw n ad mem26) := fw_D hD
  obtain ⟨hr929, hec28, hRX27⟩ := hq
  subst hr929
  obtain ⟨ft30, h9_31⟩ := hRX27.2.1
  have h1_32 : mem26 1 = .inr (0, [.ref (ad 2), .int (nI Z)]) := (hRX27.1.2.2 1 (by omega)).trans hT.1
  have h2_33 : mem26 2 = .inl (cy 0, 240, .inl f) := (hRX27.1.2.2 2 (by omega)).trans hT.2.2
  have h5_34 := hRX27.1.1.2.1
  have hbd40 := hRX27.1.1.1
  obtain ⟨S35, g36, hS_37, h220_38, h221_39⟩ := hRX27.1.1.2.2.2.2.2.2
  obtain ⟨k41, lo42, hi43, as44, pa45, ne46, he_47, ho_48⟩ := (hRX27.1.1.2.2.2.2.2.1 Ec (by omega)).1
  refine lv_astore_n (lv' := [(3, .ref (ad (20 + 2 * Ec))), (2, .ref (ad (7 + i))), (1, .int (nI a)), (0, .ref (ad 222))]) Bx.1 Bx.2.1 d_Rd_readAskedName_16 rfl hl (by decide) rfl (fun ls hl => ?_)
  refine lv_aload_n Bx.1 Bx.2.1 d_Rd_readAskedName_17 rfl (lv_at hl 0 rfl) ?_
  refine lv_aload_n Bx.1 Bx.2.1 d_Rd_readAskedName_18 rfl (lv_at hl 1 rfl) ?_
  refine f_putN Bx hP hD hS (by omega) he_47 rfl inEl tyEl okEl nmEl 3 (by decide) kw_85 rfl rfl rfl rfl (Nat.le_of_ble_eq_true rfl) d_Rd_readAskedName_19 (fun H locs hP hS => ?_)
  obtain ⟨mem49, e_mem49⟩ : ∃ z, z = va_up mem26 ((20 + 2 * Ec)) (.inr (2, [.int (k41), .int (lo42), .int (hi43), .ref (ad (7 + i)), pa45, ne46, .ref (ad (21 + 2 * Ec))])) := ⟨_, rfl⟩
  have hP : va_P D vcl (fw n ad mem49) H := by rw [e_mem49]; exact hP
  have hD : va_D (Az sz) (fw n ad mem49) := fw_D hD
  have h_mem49 : mem49 ((20 + 2 * Ec)) = .inr (2, [.int (k41), .int (lo42), .int (hi43), .ref (ad (7 + i)), pa45, ne46, .ref (ad (21 + 2 * Ec))]) := by rw [e_mem49, va_up_self]
  have hh50 := (va_up_ne mem26 (.inr (2, [.int (k41), .int (lo42), .int (hi43), .ref (ad (7 + i)), pa45, ne46, .ref (ad (21 + 2 * Ec))])) (show (222 : Nat) ≠ (20 + 2 * Ec) by first | decide | assumption | omega)).trans h9_31
  rw [← e_mem49] at hh50
  have hh51 := (va_up_ne mem26 (.inr (2, [.int (k41), .int (lo42), .int (hi43), .ref (ad (7 + i)), pa45, ne46, .ref (ad (21 + 2 * Ec))])) (show (1 : Nat) ≠ (20 + 2 * Ec) by first | decide | assumption | omega)).trans h1_32
  rw [← e_mem49] at hh51
  have hh52 := (va_up_ne mem26 (.inr (2, [.int (k41), .int (lo42), .int (hi43), .ref (ad (7 + i)), pa45, ne46, .ref (ad (21 + 2 * Ec))])) (show (5 : Nat) ≠ (20 + 2 * Ec) by first | decide | assumption | omega)).trans h5_34
  rw [← e_mem49] at hh52
  have hh53 := (va_up_ne mem26 (.inr (2, [.int (k41), .int (lo42), .int (hi43), .ref (ad (7 + i)), pa45, ne46, .ref (ad (21 + 2 * Ec))])) (show (220 : Nat) ≠ (20 + 2 * Ec) by first | decide | assumption | omega)).trans h220_38
  rw [← e_mem49] at hh53
  have hRX54 : RX cy ad lim (a1) (R1) (Ec + 1) (to1) (nm1) m0 mem49 := by rw [e_mem49]; exact hRX27.el (by omega) (hRX27.1.mk (by omega) (hRX27.1.1.upEl (by omega) (fun q9 => ⟨Or.inr ⟨i, by omega, rfl⟩, (ho_48 q9).2⟩)))
  refine lv_aload_n Bx.1 Bx.2.1 d_Rd_readAskedName_22 rfl (lv_at hl 0 rfl) ?_
  exact x_aret hx hb hlocks hr (⟨i, a1, R1, A1, nm1, hsn, hle, hec28, rfl, hR1, ha1, ha2, hA1, htk, to1, htk1, hRX54⟩) hP hS d_Rd_readAskedName_23
