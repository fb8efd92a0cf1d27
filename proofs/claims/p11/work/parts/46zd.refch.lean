/-- a place of the chart -/
def inR (G E q : Nat) : Prop := ∃ p i, p < E ∧ i ≤ G ∧ q = 25 * p + i
def Pre (A : Ro) (G E : Nat) (h : Nat → Int32) : Prop := ∀ p, p < E → ∀ i, i ≤ G → sub (fitF A G p i h) (h (25 * p + i))
def Lst (A : Ro) (G E : Nat) (g : Nat → Int32) : Prop := ∀ h, Pre A G E h → (∀ q, ¬ inR G E q → sub (g q) (h q)) → ple g h
def Fx (A : Ro) (G E : Nat) (g : Nat → Int32) : Prop := ∀ p, p < E → ∀ i, i ≤ G → fitF A G p i g = g (25 * p + i)
theorem Lst.up {A : Ro} {G E p i : Nat} {g : Nat → Int32} (h : Lst A G E g) (hp : p < E) (hi : i ≤ G) : Lst A G E (upd g (25 * p + i) (fitF A G p i g)) := by
  intro h' hpre hout
  have hple : ple g h' := h h' hpre (fun q hq => by
    have := hout q hq
    rw [upd_ne (fun z => hq ⟨p, i, hp, hi, z⟩)] at this
    exact this)
  intro q
  by_cases e : q = 25 * p + i
  · subst e; rw [upd_self]; exact (fitF_mono hple).trans (hpre p hp i hi)
  · rw [upd_ne e]; exact hple q
theorem Lst.zero {A : Ro} {G E : Nat} {g : Nat → Int32} (hG : G ≤ 24) (h : ∀ q, q < 25 * E → g q = 0) : Lst A G E g := by
  intro h' hpre hout q
  by_cases e : inR G E q
  · obtain ⟨p, i, hp, hi, rfl⟩ := e
    rw [h _ (by omega)]; exact sub.zero _
  · exact hout q e
set_option maxHeartbeats 4000000 in
set_option maxRecDepth 100000 in
theorem m_Mo_chartX (l : Launch) {D : va_G} {cy : Nat → ClassId} {sz n : Nat} {ad : Nat → Nat} {mem : Nat → va_E} {J : Nat → Int32} {A : Nat → Nat → Int32} {nm : Nat → Int64} {m0 : Nat → va_E} {G R Ec u : Nat} (hn : 242 ≤ n) (hM : MW cy ad J A nm m0 mem) (h24 : J 24 = nI G) (hGb : G ≤ 24) (h7 : J 7 = nI Ec) (hEb : Ec ≤ 100) (hRb : R ≤ 12) (hub : u ≤ 240) (hGd : Gd R Ec u A) (hng : NoG m0) : MV l D cy sz n ad y_Mo_chart c_Mo_chart 5 ({ frames := 4, cells := 0, slots := 0, locals := 120 } : Room) mem [.ref (ad 224)] (fun mem' => ∃ J' A', MW cy ad J' A' nm m0 mem' ∧ (∀ i, i ≠ 26 → J' i = J i) ∧ (∀ j, j ≠ 241 → A' j = A j) ∧ J' 26 = 0 ∧ ((J 26 = 0 ∧ A' = A) ∨ (Fx A G Ec (A' 241) ∧ Lst A G Ec (A' 241)))) := by
  refine Met.ofW (cc := c_Mo_chart) (maxL := 5) (ret := none) (by decide) rfl ?_
  intro p e s m args below meth c s₁ B hml hv
  obtain ⟨rfl, E, hP, hD⟩ := hv
  have hx := B.exec
  have hb := B.bytes
  have hr := B.returns
  have hlocks := B.notSynchronized
  have Bx : MB p s m [.ref (ad 224)].toArray c c_Mo_chart "AbnfChartModel" D cy := ⟨hx, hb, tb_all (atoms_spec B.pre) E.2.1, findClass_of_methodNamed B.named, E.1⟩
  have hS : va_S (Az sz) s.heap s.heap [] := va_S.rf
  have hl := lv_entry ([.ref (ad 224)]) (n := 5) (Nat.le_of_ble_eq_true rfl)
  rw [lg_entry_eq]
  generalize (lg_sl ([.ref (ad 224)]) ++ List.replicate (5 - (lg_sl ([.ref (ad 224)])).length) Slot.unset).toArray = ls at hl ⊢
  have hl : lv_has ls 5 [(0, .ref (ad 224))] := hl
  refine lv_aload_n Bx.1 Bx.2.1 d_Mo_chart_0 rfl (lv_at hl 0 rfl) ?_
  refine f_get Bx hP (by omega) hM.1 rfl inMo 26 (by decide) kw_682 rfl rfl d_Mo_chart_1 ?_
  refine lv_if_ne Bx.1 Bx.2.1 d_Mo_chart_4 rfl (fun hb1 => ?_) (fun hb1 => ?_)
  · refine lv_aload_n Bx.1 Bx.2.1 d_Mo_chart_8 rfl (lv_at hl 0 rfl) ?_
    refine lv_iconst (v := 0) Bx.1 Bx.2.1 d_Mo_chart_9 (by decide) ?_
    refine f_put Bx hP hD hS (by omega) hM.1 rfl inMo tyMo okMo nmMo 26 (by decide) kw_682 rfl rfl rfl rfl (Nat.le_of_ble_eq_true rfl) d_Mo_chart_10 (fun H locs hP hS => ?_)
    obtain ⟨J2, eJ2⟩ : ∃ z, z = va_up J 26 (0) := ⟨_, rfl⟩
    obtain ⟨mem3, e_mem3⟩ : ∃ z, z = va_up mem 224 (moC ad J2) := ⟨_, rfl⟩
    have hP : va_P D vcl (fw n ad mem3) H := by rw [e_mem3, eJ2]; exact hP
    have hD : va_D (Az sz) (fw n ad mem3) := fw_D hD
    have hW4 : MW cy ad J2 A nm m0 mem3 := by rw [e_mem3]; exact hM.upG hng
    have kk5 : J2 24 = nI G := by rw [eJ2]; exact h24
    have kk6 : J2 7 = nI Ec := by rw [eJ2]; exact h7
    have kk7 : J2 26 = 0 := by rw [eJ2, va_up_self]
    refine lv_iconst (v := 0) Bx.1 Bx.2.1 d_Mo_chart_13 (by decide) ?_
    refine lv_istore_n (lv' := [(1, .int (0)), (0, .ref (ad 224))]) Bx.1 Bx.2.1 d_Mo_chart_14 rfl hl (by decide) rfl (fun ls hl => ?_)
    have loop8 : ∀ (d9 : Nat) (mem8 : Nat → va_E) (A8 : Nat → Nat → Int32) (k : Nat) (ls : Array Slot) (H : Heap) (locs : List Loc), (25 * Ec - k < d9) → (MW cy ad J2 A8 nm m0 mem8) → (∀ j, j ≠ 241 → A8 j = A j) → (∀ q9, q9 < k → A8 241 q9 = 0) → (k ≤ 25 * Ec) → (va_P D vcl (fw n ad mem8) H) → (va_D (Az sz) (fw n ad mem8)) → (va_S (Az sz) s.heap H locs) → (lv_has ls 5 [(1, .int (nI k)), (0, .ref (ad 224))]) → W p l e (headSpec (Cond.code y_Mo_chart c_Mo_chart 5 none :: tg) ({ frames := 4, cells := 0, slots := 0, locals := 120 } : Room)).room s m [.ref (ad 224)].toArray below meth c H locs 0 0 (MQ below (va_Qv (fun mem' => ∃ J' A', MW cy ad J' A' nm m0 mem' ∧ (∀ i, i ≠ 26 → J' i = J i) ∧ (∀ j, j ≠ 241 → A' j = A j) ∧ J' 26 = 0 ∧ ((J 26 = 0 ∧ A' = A) ∨ (Fx A G Ec (A' 241) ∧ Lst A G Ec (A' 241)))) (PP D n ad) (Az sz)) [.ref (ad 224)].toArray s 0 0 (Az sz)) (F0 m 15 ls []) := by
      intro d9
      induction d9 with
      | zero => intro mem8 A8 k ls H locs hmeas15; exact absurd hmeas15 (Nat.not_lt_zero _)
      | succ d9 ih14 =>
        intro mem8 A8 k ls H locs hmeas15 hz10 hz11 hz12 hz13 hP hD hS hl
        refine lv_iload_n Bx.1 Bx.2.1 d_Mo_chart_15 rfl (lv_at hl 0 rfl) ?_
        refine lv_bipush (v := 25) Bx.1 Bx.2.1 d_Mo_chart_16 (by decide) ?_
        refine lv_aload_n Bx.1 Bx.2.1 d_Mo_chart_18 rfl (lv_at hl 1 rfl) ?_
        refine f_get Bx hP (by omega) hz10.1 rfl inMo 7 (by decide) kw_663 rfl rfl d_Mo_chart_19 ?_
        rw [kk6]
        refine lv_imul Bx.1 Bx.2.1 d_Mo_chart_22 ?_
        rw [show 25 * nI Ec = nI (25 * Ec) from nI_mulR (25) (Ec)]
        refine lv_icmp_ge Bx.1 Bx.2.1 d_Mo_chart_23 rfl (fun hb16 => ?_) (fun hb16 => ?_)
        · have hN17 : 25 * Ec ≤ k := (nI_leI (by omega) (by omega)).mp (show nI (25 * Ec) ≤ nI (k) from hb16)
          refine lv_iconst (v := 1) Bx.1 Bx.2.1 d_Mo_chart_39 (by decide) ?_
          refine lv_istore_n (lv' := [(1, .int (1)), (0, .ref (ad 224))]) Bx.1 Bx.2.1 d_Mo_chart_40 rfl hl (by decide) rfl (fun ls hl => ?_)
          have hpf : Pfx A G Ec (A8 241) ∧ Lst A G Ec (A8 241) := ⟨fun p hp i hi => by rw [hz12 (25 * p + i) (by omega)]; exact sub.zero _, Lst.zero hGb (fun q hq => hz12 q (by omega))⟩
          have loop18 : ∀ (d19 : Nat) (mem9 : Nat → va_E) (A9 : Nat → Nat → Int32) (b : Nat) (ls : Array Slot) (H : Heap) (locs : List Loc), ((mu (A9 241) 2500 + b) < d19) → (MW cy ad J2 A9 nm m0 mem9) → (∀ j, j ≠ 241 → A9 j = A j) → (Pfx A G Ec (A9 241) ∧ Lst A G Ec (A9 241)) → (b ≤ 1) → (b = 0 → Fx A G Ec (A9 241)) → (va_P D vcl (fw n ad mem9) H) → (va_D (Az sz) (fw n ad mem9)) → (va_S (Az sz) s.heap H locs) → (lv_has ls 5 [(1, .int (nI b)), (0, .ref (ad 224))]) → W p l e (headSpec (Cond.code y_Mo_chart c_Mo_chart 5 none :: tg) ({ frames := 4, cells := 0, slots := 0, locals := 120 } : Room)).room s m [.ref (ad 224)].toArray below meth c H locs 0 0 (MQ below (va_Qv (fun mem' => ∃ J' A', MW cy ad J' A' nm m0 mem' ∧ (∀ i, i ≠ 26 → J' i = J i) ∧ (∀ j, j ≠ 241 → A' j = A j) ∧ J' 26 = 0 ∧ ((J 26 = 0 ∧ A' = A) ∨ (Fx A G Ec (A' 241) ∧ Lst A G Ec (A' 241)))) (PP D n ad) (Az sz)) [.ref (ad 224)].toArray s 0 0 (Az sz)) (F0 m 41 ls []) := by
            intro d19
            induction d19 with
            | zero => intro mem9 A9 b ls H locs hmeas26; exact absurd hmeas26 (Nat.not_lt_zero _)
            | succ d19 ih25 =>
              intro mem9 A9 b ls H locs hmeas26 hz20 hz21 hz22 hz23 hz24 hP hD hS hl
              refine lv_iload_n Bx.1 Bx.2.1 d_Mo_chart_41 rfl (lv_at hl 0 rfl) ?_
              refine lv_if_eq Bx.1 Bx.2.1 d_Mo_chart_42 rfl (fun hb27 => ?_) (fun hb27 => ?_)
              · have hN28 : b = 0 := (nI_eq (by omega) (by omega)).mp (show nI (b) = nI (0) from hb27)
                exact W.vret hx hb hr (fun t ht hW => ⟨⟨mem9, rfl, ⟨J2, A9, hz20, fun i hi => by rw [eJ2, va_up_ne _ _ hi], hz21, kk7, Or.inr ⟨hz24 (by omega), hz22.2⟩⟩, by show va_P _ _ _ t.heap; rw [ht]; exact hP⟩, hS.F ht⟩) hS.2.2 d_Mo_chart_130
              · have hN29 : ¬ b = 0 := fun q9 => hb27 (show nI (b) = nI (0) from (nI_eq (by omega) (by omega)).mpr q9)
                refine lv_iconst (v := 0) Bx.1 Bx.2.1 d_Mo_chart_45 (by decide) ?_
                refine lv_istore_n (lv' := [(1, .int (0)), (0, .ref (ad 224))]) Bx.1 Bx.2.1 d_Mo_chart_46 rfl hl (by decide) rfl (fun ls hl => ?_)
                refine lv_aload_n Bx.1 Bx.2.1 d_Mo_chart_47 rfl (lv_at hl 1 rfl) ?_
                refine f_get Bx hP (by omega) hz20.1 rfl inMo 7 (by decide) kw_663 rfl rfl d_Mo_chart_48 ?_
                rw [kk6]
                refine lv_iconst (v := 1) Bx.1 Bx.2.1 d_Mo_chart_51 (by decide) ?_
                refine lv_isub Bx.1 Bx.2.1 d_Mo_chart_52 ?_
                refine lv_istore_n (lv' := [(2, .int (nI Ec - 1)), (1, .int (0)), (0, .ref (ad 224))]) Bx.1 Bx.2.1 d_Mo_chart_53 rfl hl (by decide) rfl (fun ls hl => ?_)
                have loop30 : ∀ (d31 : Nat) (mem10 : Nat → va_E) (A10 : Nat → Nat → Int32) (kk : Nat) (b2 : Nat) (ls : Array Slot) (H : Heap) (locs : List Loc), (kk < d31) → (MW cy ad J2 A10 nm m0 mem10) → (∀ j, j ≠ 241 → A10 j = A j) → (Pfx A G Ec (A10 241) ∧ Lst A G Ec (A10 241)) → (mu (A10 241) 2500 ≤ mu (A9 241) 2500 ∧ (b2 ≠ 0 → mu (A10 241) 2500 < mu (A9 241) 2500)) → (kk ≤ Ec ∧ b2 ≤ 1) → (b2 = 0 → A10 241 = A9 241 ∧ ∀ p, kk ≤ p → p < Ec → ∀ i, i ≤ G → fitF A G (p) (i) (A9 241) = A9 241 (25 * (p) + (i))) → (va_P D vcl (fw n ad mem10) H) → (va_D (Az sz) (fw n ad mem10)) → (va_S (Az sz) s.heap H locs) → (lv_has ls 5 [(2, .int (nI kk + (-1))), (1, .int (nI b2)), (0, .ref (ad 224))]) → W p l e (headSpec (Cond.code y_Mo_chart c_Mo_chart 5 none :: tg) ({ frames := 4, cells := 0, slots := 0, locals := 120 } : Room)).room s m [.ref (ad 224)].toArray below meth c H locs 0 0 (MQ below (va_Qv (fun mem' => ∃ J' A', MW cy ad J' A' nm m0 mem' ∧ (∀ i, i ≠ 26 → J' i = J i) ∧ (∀ j, j ≠ 241 → A' j = A j) ∧ J' 26 = 0 ∧ ((J 26 = 0 ∧ A' = A) ∨ (Fx A G Ec (A' 241) ∧ Lst A G Ec (A' 241)))) (PP D n ad) (Az sz)) [.ref (ad 224)].toArray s 0 0 (Az sz)) (F0 m 54 ls []) := by
                  intro d31
                  induction d31 with
                  | zero => intro mem10 A10 kk b2 ls H locs hmeas39; exact absurd hmeas39 (Nat.not_lt_zero _)
                  | succ d31 ih38 =>
                    intro mem10 A10 kk b2 ls H locs hmeas39 hz32 hz33 hz34 hz35 hz36 hz37 hP hD hS hl
                    refine lv_iload_n Bx.1 Bx.2.1 d_Mo_chart_54 rfl (lv_at hl 0 rfl) ?_
                    refine lv_if_lt Bx.1 Bx.2.1 d_Mo_chart_55 rfl (fun hb40 => ?_) (fun hb40 => ?_)
                    · have hkk : kk = 0 := by
                        rcases kk with _ | j
                        · rfl
                        · exact absurd hb40 (by rw [nI_m1]; exact nI_pos (by omega))
                      refine lv_goto Bx.1 Bx.2.1 d_Mo_chart_127 rfl ?_
                      exact ih25 mem10 (A10) (b2) _ _ _ (by have := hmeas26; have := hz35; omega) (hz32) (hz33) (hz34) (by omega) (fun q9 p hp i hi => by have q8 := (hz37 q9); rw [q8.1]; exact q8.2 p (by omega) hp i hi) hP hD hS (lv_sub hl [1, 2] rfl)
                    · obtain ⟨p1, rfl⟩ : ∃ j, kk = j + 1 := by
                        rcases kk with _ | j
                        · exact absurd (by rw [nI_0m1]; decide) hb40
                        · exact ⟨j, rfl⟩
                      rw [nI_m1] at hl
                      refine lv_iconst (v := 0) Bx.1 Bx.2.1 d_Mo_chart_58 (by decide) ?_
                      refine lv_istore_n (lv' := [(3, .int (0)), (2, .int (nI p1)), (1, .int (nI b2)), (0, .ref (ad 224))]) Bx.1 Bx.2.1 d_Mo_chart_59 rfl hl (by decide) rfl (fun ls hl => ?_)
                      have loop41 : ∀ (d42 : Nat) (mem11 : Nat → va_E) (A11 : Nat → Nat → Int32) (ii : Nat) (b3 : Nat) (ls : Array Slot) (H : Heap) (locs : List Loc), (G + 1 - ii < d42) → (MW cy ad J2 A11 nm m0 mem11) → (∀ j, j ≠ 241 → A11 j = A j) → (Pfx A G Ec (A11 241) ∧ Lst A G Ec (A11 241)) → (mu (A11 241) 2500 ≤ mu (A9 241) 2500 ∧ (b3 ≠ 0 → mu (A11 241) 2500 < mu (A9 241) 2500)) → (ii ≤ G + 1 ∧ b3 ≤ 1) → (b3 = 0 → A11 241 = A9 241 ∧ (∀ p, p1 + 1 ≤ p → p < Ec → ∀ i, i ≤ G → fitF A G (p) (i) (A9 241) = A9 241 (25 * (p) + (i))) ∧ ∀ i, i < ii → fitF A G (p1) (i) (A9 241) = A9 241 (25 * (p1) + (i))) → (va_P D vcl (fw n ad mem11) H) → (va_D (Az sz) (fw n ad mem11)) → (va_S (Az sz) s.heap H locs) → (lv_has ls 5 [(3, .int (nI ii)), (2, .int (nI p1)), (1, .int (nI b3)), (0, .ref (ad 224))]) → W p l e (headSpec (Cond.code y_Mo_chart c_Mo_chart 5 none :: tg) ({ frames := 4, cells := 0, slots := 0, locals := 120 } : Room)).room s m [.ref (ad 224)].toArray below meth c H locs 0 0 (MQ below (va_Qv (fun mem' => ∃ J' A', MW cy ad J' A' nm m0 mem' ∧ (∀ i, i ≠ 26 → J' i = J i) ∧ (∀ j, j ≠ 241 → A' j = A j) ∧ J' 26 = 0 ∧ ((J 26 = 0 ∧ A' = A) ∨ (Fx A G Ec (A' 241) ∧ Lst A G Ec (A' 241)))) (PP D n ad) (Az sz)) [.ref (ad 224)].toArray s 0 0 (Az sz)) (F0 m 60 ls []) := by
                        intro d42
                        induction d42 with
                        | zero => intro mem11 A11 ii b3 ls H locs hmeas50; exact absurd hmeas50 (Nat.not_lt_zero _)
                        | succ d42 ih49 =>
                          intro mem11 A11 ii b3 ls H locs hmeas50 hz43 hz44 hz45 hz46 hz47 hz48 hP hD hS hl
                          refine lv_iload_n Bx.1 Bx.2.1 d_Mo_chart_60 rfl (lv_at hl 0 rfl) ?_
                          refine lv_aload_n Bx.1 Bx.2.1 d_Mo_chart_61 rfl (lv_at hl 3 rfl) ?_
                          refine f_get Bx hP (by omega) hz43.1 rfl inMo 24 (by decide) kw_680 rfl rfl d_Mo_chart_62 ?_
                          rw [kk5]
                          refine lv_icmp_gt Bx.1 Bx.2.1 d_Mo_chart_65 rfl (fun hb51 => ?_) (fun hb51 => ?_)
                          · have hN52 : G < ii := (nI_ltI (by omega) (by omega)).mp (show nI (G) < nI (ii) from hb51)
                            refine lv_iinc (lv' := [(2, .int ((nI p1 + (-1)))), (3, .int (nI ii)), (1, .int (nI b3)), (0, .ref (ad 224))]) Bx.1 Bx.2.1 d_Mo_chart_121 hl (k := 1) rfl rfl (by decide) rfl (fun ls hl => ?_)
                            refine lv_goto Bx.1 Bx.2.1 d_Mo_chart_124 rfl ?_
                            exact ih38 mem11 (A11) (p1) (b3) _ _ _ (by have := hmeas39; omega) (hz43) (hz44) (hz45) (hz46) (by omega) (fun q9 => ⟨(hz48 q9).1, fun p hp1 hp2 i hi => by
                              by_cases e9 : p = p1
                              · rw [e9]; exact (hz48 q9).2.2 i (by omega)
                              · exact (hz48 q9).2.1 p (by omega) hp2 i hi⟩) hP hD hS (lv_sub hl [0, 2, 3] rfl)
                          · have hN53 : ¬ G < ii := fun q9 => hb51 (show nI (G) < nI (ii) from (nI_ltI (by omega) (by omega)).mpr q9)
                            have hil : ii ≤ G := by omega
                            refine lv_aload_n Bx.1 Bx.2.1 d_Mo_chart_68 rfl (lv_at hl 3 rfl) ?_
                            refine lv_iload_n Bx.1 Bx.2.1 d_Mo_chart_69 rfl (lv_at hl 1 rfl) ?_
                            refine lv_iload_n Bx.1 Bx.2.1 d_Mo_chart_70 rfl (lv_at hl 0 rfl) ?_
                            refine f_callVi (na := 2) (As := [.int (nI p1), .int (nI ii)]) (rest := []) Bx hml E hP hD hS (by omega) hz43.1 rfl (m_Mo_fits l hn hz43 kk5 hGb hEb hRb hub (hGd.congr hz44) (p9 := p1) (i9 := ii) (by omega) hil) kw_886 kw_888 sel_Mo_fits kw_8 kw_889 (by decide +kernel) ⟨rfl, rfl⟩ ⟨Nat.le_of_ble_eq_true rfl, Nat.le_of_ble_eq_true rfl⟩ rfl hl.1 (Nat.le_of_ble_eq_true rfl) d_Mo_chart_71 ⟨Nat.le_of_ble_eq_true rfl, Nat.le_of_ble_eq_true rfl⟩ (fun r54 mem55 H locs hq hP hS => ?_)
                            have hD : va_D (Az sz) (fw n ad mem55) := fw_D hD
                            obtain ⟨hre, hq⟩ := hq
                            rw [hq] at hP hD
                            rw [fitF_congr hz44] at hre
                            subst hre
                            have hsb := hz45.1 p1 (by omega) ii hil
                            refine lv_istore (lv' := [(4, .int (fitF A G p1 ii (A11 241))), (3, .int (nI ii)), (2, .int (nI p1)), (1, .int (nI b3)), (0, .ref (ad 224))]) Bx.1 Bx.2.1 d_Mo_chart_74 hl (by decide) rfl (fun ls hl => ?_)
                            refine lv_iload_n Bx.1 Bx.2.1 d_Mo_chart_76 rfl (lv_at hl 3 rfl) ?_
                            refine lv_if_ne Bx.1 Bx.2.1 d_Mo_chart_77 rfl (fun hb56 => ?_) (fun hb56 => ?_)
                            · have hN57 : ¬ b3 = 0 := fun q9 => hb56 (show nI (b3) = nI (0) from (nI_eq (by omega) (by omega)).mpr q9)
                              refine lv_iconst (v := 1) Bx.1 Bx.2.1 d_Mo_chart_96 (by decide) ?_
                              refine lv_goto Bx.1 Bx.2.1 d_Mo_chart_97 rfl ?_
                              refine lv_istore_n (lv' := [(1, .int (1)), (4, .int (fitF A G p1 ii (A11 241))), (3, .int (nI ii)), (2, .int (nI p1)), (0, .ref (ad 224))]) Bx.1 Bx.2.1 d_Mo_chart_101 rfl hl (by decide) rfl (fun ls hl => ?_)
                              refine lv_aload_n Bx.1 Bx.2.1 d_Mo_chart_102 rfl (lv_at hl 4 rfl) ?_
                              refine f_get Bx hP (by omega) hz43.1 rfl inMo 27 (by decide) kw_683 rfl rfl d_Mo_chart_103 ?_
                              refine lv_bipush (v := 25) Bx.1 Bx.2.1 d_Mo_chart_106 (by decide) ?_
                              refine lv_iload_n Bx.1 Bx.2.1 d_Mo_chart_108 rfl (lv_at hl 3 rfl) ?_
                              refine lv_imul Bx.1 Bx.2.1 d_Mo_chart_109 ?_
                              rw [show 25 * nI p1 = nI (25 * p1) from nI_mulR (25) (p1)]
                              refine lv_iload_n Bx.1 Bx.2.1 d_Mo_chart_110 rfl (lv_at hl 2 rfl) ?_
                              refine lv_iadd Bx.1 Bx.2.1 d_Mo_chart_111 ?_
                              rw [show nI (25 * p1) + nI ii = nI (25 * p1 + ii) from nI_add (25 * p1) (ii)]
                              refine lv_iload Bx.1 Bx.2.1 d_Mo_chart_112 (lv_at hl 1 rfl) ?_
                              refine f_iast (x := fitF A G p1 ii (A11 241)) (i := nI (25 * p1 + ii)) Bx hP hD hS (by omega) (show mem11 241 = .inl (cy 1, 2500, .inl (A11 241)) from hz43.2.2.1 241 (by decide) (by decide) (by decide)) (vp_in_nI (n := 25 * p1 + ii) (by omega) (by decide)) d_Mo_chart_114 (fun H locs hP hS => ?_)
                              rw [nI_clamp (n := 25 * p1 + ii) (by omega)] at hP
                              obtain ⟨A58, eA58⟩ : ∃ z, z = va_up A11 241 (upd (A11 241) (25 * p1 + ii) (fitF A G p1 ii (A11 241))) := ⟨_, rfl⟩
                              obtain ⟨mem59, e_mem59⟩ : ∃ z, z = va_up mem11 241 (.inl (cy 1, 2500, .inl (upd (A11 241) (25 * p1 + ii) (fitF A G p1 ii (A11 241))))) := ⟨_, rfl⟩
                              have hP : va_P D vcl (fw n ad mem59) H := by rw [e_mem59]; exact hP
                              have hD : va_D (Az sz) (fw n ad mem59) := fw_D hD
                              have hW60 : MW cy ad J2 A58 nm m0 mem59 := by rw [e_mem59, eA58]; exact hz43.upA (j := 241) (by decide) (by decide) (by decide) (Or.inl (by decide))
                              refine lv_iinc (lv' := [(3, .int ((nI ii + (1)))), (1, .int (1)), (4, .int (fitF A G p1 ii (A11 241))), (2, .int (nI p1)), (0, .ref (ad 224))]) Bx.1 Bx.2.1 d_Mo_chart_115 hl (k := 2) rfl rfl (by decide) rfl (fun ls hl => ?_)
                              rw [show (nI ii + (1) : Int32) = nI (ii + 1) from nI_1 (ii)] at hl
                              refine lv_goto Bx.1 Bx.2.1 d_Mo_chart_118 rfl ?_
                              have hA12 : A58 241 = upd (A11 241) (25 * p1 + ii) (fitF A G p1 ii (A11 241)) := by rw [eA58, va_up_self]
                              have hml := mu_le (n := 2500) (by omega) hsb
                              exact ih49 mem59 (A58) (ii + 1) (1) _ _ _ (by have := hmeas50; omega) (hW60) (fun j hj => by rw [eA58, va_up_ne _ _ hj]; exact hz44 j hj) (by rw [hA12]; exact ⟨hz45.1.up hGb (by omega) hil, hz45.2.up (by omega) hil⟩) (by rw [hA12]; have := hz46; exact ⟨by omega, fun _ => by omega⟩) (⟨by omega, by omega⟩) (fun z => absurd z (by decide)) hP hD hS (lv_sub hl [0, 3, 1, 4] rfl)
                            · have hN61 : b3 = 0 := (nI_eq (by omega) (by omega)).mp (show nI (b3) = nI (0) from hb56)
                              refine lv_iload Bx.1 Bx.2.1 d_Mo_chart_80 (lv_at hl 0 rfl) ?_
                              refine lv_aload_n Bx.1 Bx.2.1 d_Mo_chart_82 rfl (lv_at hl 4 rfl) ?_
                              refine f_get Bx hP (by omega) hz43.1 rfl inMo 27 (by decide) kw_683 rfl rfl d_Mo_chart_83 ?_
                              refine lv_bipush (v := 25) Bx.1 Bx.2.1 d_Mo_chart_86 (by decide) ?_
                              refine lv_iload_n Bx.1 Bx.2.1 d_Mo_chart_88 rfl (lv_at hl 2 rfl) ?_
                              refine lv_imul Bx.1 Bx.2.1 d_Mo_chart_89 ?_
                              rw [show 25 * nI p1 = nI (25 * p1) from nI_mulR (25) (p1)]
                              refine lv_iload_n Bx.1 Bx.2.1 d_Mo_chart_90 rfl (lv_at hl 1 rfl) ?_
                              refine lv_iadd Bx.1 Bx.2.1 d_Mo_chart_91 ?_
                              rw [show nI (25 * p1) + nI ii = nI (25 * p1 + ii) from nI_add (25 * p1) (ii)]
                              refine f_iald Bx hP (by omega) (show mem11 241 = .inl (cy 1, 2500, .inl (A11 241)) from hz43.2.2.1 241 (by decide) (by decide) (by decide)) (vp_in_nI (n := 25 * p1 + ii) (by omega) (by decide)) d_Mo_chart_92 ?_
                              rw [nI_clamp (n := 25 * p1 + ii) (by omega)]
                              refine lv_icmp_eq Bx.1 Bx.2.1 d_Mo_chart_93 rfl (fun hb62 => ?_) (fun hb62 => ?_)
                              · refine lv_iconst (v := 0) Bx.1 Bx.2.1 d_Mo_chart_100 (by decide) ?_
                                refine lv_istore_n (lv' := [(1, .int (0)), (4, .int (fitF A G p1 ii (A11 241))), (3, .int (nI ii)), (2, .int (nI p1)), (0, .ref (ad 224))]) Bx.1 Bx.2.1 d_Mo_chart_101 rfl hl (by decide) rfl (fun ls hl => ?_)
                                refine lv_aload_n Bx.1 Bx.2.1 d_Mo_chart_102 rfl (lv_at hl 4 rfl) ?_
                                refine f_get Bx hP (by omega) hz43.1 rfl inMo 27 (by decide) kw_683 rfl rfl d_Mo_chart_103 ?_
                                refine lv_bipush (v := 25) Bx.1 Bx.2.1 d_Mo_chart_106 (by decide) ?_
                                refine lv_iload_n Bx.1 Bx.2.1 d_Mo_chart_108 rfl (lv_at hl 3 rfl) ?_
                                refine lv_imul Bx.1 Bx.2.1 d_Mo_chart_109 ?_
                                rw [show 25 * nI p1 = nI (25 * p1) from nI_mulR (25) (p1)]
                                refine lv_iload_n Bx.1 Bx.2.1 d_Mo_chart_110 rfl (lv_at hl 2 rfl) ?_
                                refine lv_iadd Bx.1 Bx.2.1 d_Mo_chart_111 ?_
                                rw [show nI (25 * p1) + nI ii = nI (25 * p1 + ii) from nI_add (25 * p1) (ii)]
                                refine lv_iload Bx.1 Bx.2.1 d_Mo_chart_112 (lv_at hl 1 rfl) ?_
                                refine f_iast (x := fitF A G p1 ii (A11 241)) (i := nI (25 * p1 + ii)) Bx hP hD hS (by omega) (show mem11 241 = .inl (cy 1, 2500, .inl (A11 241)) from hz43.2.2.1 241 (by decide) (by decide) (by decide)) (vp_in_nI (n := 25 * p1 + ii) (by omega) (by decide)) d_Mo_chart_114 (fun H locs hP hS => ?_)
                                rw [nI_clamp (n := 25 * p1 + ii) (by omega)] at hP
                                obtain ⟨A63, eA63⟩ : ∃ z, z = va_up A11 241 (upd (A11 241) (25 * p1 + ii) (fitF A G p1 ii (A11 241))) := ⟨_, rfl⟩
                                obtain ⟨mem64, e_mem64⟩ : ∃ z, z = va_up mem11 241 (.inl (cy 1, 2500, .inl (upd (A11 241) (25 * p1 + ii) (fitF A G p1 ii (A11 241))))) := ⟨_, rfl⟩
                                have hP : va_P D vcl (fw n ad mem64) H := by rw [e_mem64]; exact hP
                                have hD : va_D (Az sz) (fw n ad mem64) := fw_D hD
                                have hW65 : MW cy ad J2 A63 nm m0 mem64 := by rw [e_mem64, eA63]; exact hz43.upA (j := 241) (by decide) (by decide) (by decide) (Or.inl (by decide))
                                refine lv_iinc (lv' := [(3, .int ((nI ii + (1)))), (1, .int (0)), (4, .int (fitF A G p1 ii (A11 241))), (2, .int (nI p1)), (0, .ref (ad 224))]) Bx.1 Bx.2.1 d_Mo_chart_115 hl (k := 2) rfl rfl (by decide) rfl (fun ls hl => ?_)
                                rw [show (nI ii + (1) : Int32) = nI (ii + 1) from nI_1 (ii)] at hl
                                refine lv_goto Bx.1 Bx.2.1 d_Mo_chart_118 rfl ?_
                                have hA12 : A63 241 = upd (A11 241) (25 * p1 + ii) (fitF A G p1 ii (A11 241)) := by rw [eA63, va_up_self]
                                have hml := mu_le (n := 2500) (by omega) hsb
                                have hb0 : b3 = 0 := by omega
                                have hkp := hz48 hb0
                                have hsame : A63 241 = A9 241 := by rw [hA12, hb62, upd_id]; exact hkp.1
                                have hfit : fitF A G p1 ii (A9 241) = A9 241 (25 * p1 + ii) := by rw [← hkp.1]; exact hb62
                                exact ih49 mem64 (A63) (ii + 1) (0) _ _ _ (by have := hmeas50; omega) (hW65) (fun j hj => by rw [eA63, va_up_ne _ _ hj]; exact hz44 j hj) (by rw [hA12]; exact ⟨hz45.1.up hGb (by omega) hil, hz45.2.up (by omega) hil⟩) (by rw [hA12]; have := hz46; exact ⟨by omega, fun z => absurd rfl z⟩) (⟨by omega, by omega⟩) (fun _ => ⟨hsame, hkp.2.1, fun i hi => by
                                  by_cases e9 : i = ii
                                  · rw [e9]; exact hfit
                                  · exact hkp.2.2 i (by omega)⟩) hP hD hS (lv_sub hl [0, 3, 1, 4] rfl)
                              · refine lv_iconst (v := 1) Bx.1 Bx.2.1 d_Mo_chart_96 (by decide) ?_
                                refine lv_goto Bx.1 Bx.2.1 d_Mo_chart_97 rfl ?_
                                refine lv_istore_n (lv' := [(1, .int (1)), (4, .int (fitF A G p1 ii (A11 241))), (3, .int (nI ii)), (2, .int (nI p1)), (0, .ref (ad 224))]) Bx.1 Bx.2.1 d_Mo_chart_101 rfl hl (by decide) rfl (fun ls hl => ?_)
                                refine lv_aload_n Bx.1 Bx.2.1 d_Mo_chart_102 rfl (lv_at hl 4 rfl) ?_
                                refine f_get Bx hP (by omega) hz43.1 rfl inMo 27 (by decide) kw_683 rfl rfl d_Mo_chart_103 ?_
                                refine lv_bipush (v := 25) Bx.1 Bx.2.1 d_Mo_chart_106 (by decide) ?_
                                refine lv_iload_n Bx.1 Bx.2.1 d_Mo_chart_108 rfl (lv_at hl 3 rfl) ?_
                                refine lv_imul Bx.1 Bx.2.1 d_Mo_chart_109 ?_
                                rw [show 25 * nI p1 = nI (25 * p1) from nI_mulR (25) (p1)]
                                refine lv_iload_n Bx.1 Bx.2.1 d_Mo_chart_110 rfl (lv_at hl 2 rfl) ?_
                                refine lv_iadd Bx.1 Bx.2.1 d_Mo_chart_111 ?_
                                rw [show nI (25 * p1) + nI ii = nI (25 * p1 + ii) from nI_add (25 * p1) (ii)]
                                refine lv_iload Bx.1 Bx.2.1 d_Mo_chart_112 (lv_at hl 1 rfl) ?_
                                refine f_iast (x := fitF A G p1 ii (A11 241)) (i := nI (25 * p1 + ii)) Bx hP hD hS (by omega) (show mem11 241 = .inl (cy 1, 2500, .inl (A11 241)) from hz43.2.2.1 241 (by decide) (by decide) (by decide)) (vp_in_nI (n := 25 * p1 + ii) (by omega) (by decide)) d_Mo_chart_114 (fun H locs hP hS => ?_)
                                rw [nI_clamp (n := 25 * p1 + ii) (by omega)] at hP
                                obtain ⟨A66, eA66⟩ : ∃ z, z = va_up A11 241 (upd (A11 241) (25 * p1 + ii) (fitF A G p1 ii (A11 241))) := ⟨_, rfl⟩
                                obtain ⟨mem67, e_mem67⟩ : ∃ z, z = va_up mem11 241 (.inl (cy 1, 2500, .inl (upd (A11 241) (25 * p1 + ii) (fitF A G p1 ii (A11 241))))) := ⟨_, rfl⟩
                                have hP : va_P D vcl (fw n ad mem67) H := by rw [e_mem67]; exact hP
                                have hD : va_D (Az sz) (fw n ad mem67) := fw_D hD
                                have hW68 : MW cy ad J2 A66 nm m0 mem67 := by rw [e_mem67, eA66]; exact hz43.upA (j := 241) (by decide) (by decide) (by decide) (Or.inl (by decide))
                                refine lv_iinc (lv' := [(3, .int ((nI ii + (1)))), (1, .int (1)), (4, .int (fitF A G p1 ii (A11 241))), (2, .int (nI p1)), (0, .ref (ad 224))]) Bx.1 Bx.2.1 d_Mo_chart_115 hl (k := 2) rfl rfl (by decide) rfl (fun ls hl => ?_)
                                rw [show (nI ii + (1) : Int32) = nI (ii + 1) from nI_1 (ii)] at hl
                                refine lv_goto Bx.1 Bx.2.1 d_Mo_chart_118 rfl ?_
                                have hA12 : A66 241 = upd (A11 241) (25 * p1 + ii) (fitF A G p1 ii (A11 241)) := by rw [eA66, va_up_self]
                                have hml := mu_le (n := 2500) (by omega) hsb
                                exact ih49 mem67 (A66) (ii + 1) (1) _ _ _ (by have := hmeas50; omega) (hW68) (fun j hj => by rw [eA66, va_up_ne _ _ hj]; exact hz44 j hj) (by rw [hA12]; exact ⟨hz45.1.up hGb (by omega) hil, hz45.2.up (by omega) hil⟩) (by rw [hA12]; have := hz46; have := mu_lt (n := 2500) (by omega) hsb hb62; exact ⟨by omega, fun _ => by omega⟩) (⟨by omega, by omega⟩) (fun z => absurd z (by decide)) hP hD hS (lv_sub hl [0, 3, 1, 4] rfl)
                      exact loop41 _ mem10 (A10) (0) (b2) _ _ _ (Nat.lt_succ_self _) (hz32) (hz33) (hz34) (hz35) (⟨by omega, by omega⟩) (fun q9 => ⟨(hz37 q9).1, fun p hp1 hp2 i hi => (hz37 q9).2 p hp1 hp2 i hi, fun i hi => absurd hi (Nat.not_lt_zero _)⟩) hP hD hS (lv_sub hl [0, 1, 2, 3] rfl)
                exact loop30 _ mem9 (A9) (Ec) (0) _ _ _ (Nat.lt_succ_self _) (hz20) (hz21) (hz22) (⟨Nat.le_refl _, fun z => absurd rfl z⟩) (⟨Nat.le_refl _, by omega⟩) (fun _ => ⟨rfl, fun p h1 h2 => by omega⟩) hP hD hS (by rw [← nI_sub1]; exact (lv_sub hl [0, 1, 2] rfl))
          exact loop18 _ mem8 (A8) (1) _ _ _ (Nat.lt_succ_self _) (hz10) (hz11) (hpf) (by omega) (fun z => absurd z (by decide)) hP hD hS (lv_sub hl [0, 1] rfl)
        · have hN69 : ¬ 25 * Ec ≤ k := fun q9 => hb16 (show nI (25 * Ec) ≤ nI (k) from (nI_leI (by omega) (by omega)).mpr q9)
          refine lv_aload_n Bx.1 Bx.2.1 d_Mo_chart_26 rfl (lv_at hl 1 rfl) ?_
          refine f_get Bx hP (by omega) hz10.1 rfl inMo 27 (by decide) kw_683 rfl rfl d_Mo_chart_27 ?_
          refine lv_iload_n Bx.1 Bx.2.1 d_Mo_chart_30 rfl (lv_at hl 0 rfl) ?_
          refine lv_iconst (v := 0) Bx.1 Bx.2.1 d_Mo_chart_31 (by decide) ?_
          refine f_iast (x := 0) (i := nI (k)) Bx hP hD hS (by omega) (show mem8 241 = .inl (cy 1, 2500, .inl (A8 241)) from hz10.2.2.1 241 (by decide) (by decide) (by decide)) (vp_in_nI (n := k) (by omega) (by decide)) d_Mo_chart_32 (fun H locs hP hS => ?_)
          rw [nI_clamp (n := k) (by omega)] at hP
          obtain ⟨A70, eA70⟩ : ∃ z, z = va_up A8 241 (upd (A8 241) (k) (0)) := ⟨_, rfl⟩
          obtain ⟨mem71, e_mem71⟩ : ∃ z, z = va_up mem8 241 (.inl (cy 1, 2500, .inl (upd (A8 241) (k) (0)))) := ⟨_, rfl⟩
          have hP : va_P D vcl (fw n ad mem71) H := by rw [e_mem71]; exact hP
          have hD : va_D (Az sz) (fw n ad mem71) := fw_D hD
          have hW72 : MW cy ad J2 A70 nm m0 mem71 := by rw [e_mem71, eA70]; exact hz10.upA (j := 241) (by decide) (by decide) (by decide) (Or.inl (by decide))
          refine lv_iinc (lv' := [(1, .int ((nI k + (1)))), (0, .ref (ad 224))]) Bx.1 Bx.2.1 d_Mo_chart_33 hl (k := 0) rfl rfl (by decide) rfl (fun ls hl => ?_)
          rw [show (nI k + (1) : Int32) = nI (k + 1) from nI_1 (k)] at hl
          refine lv_goto Bx.1 Bx.2.1 d_Mo_chart_36 rfl ?_
          exact ih14 mem71 (A70) (k + 1) _ _ _ (by have := hmeas15; omega) (hW72) (fun j hj => by rw [eA70, va_up_ne _ _ hj]; exact hz11 j hj) (fun q9 hq9 => by
            rw [eA70, va_up_self]
            by_cases e9 : q9 = k
            · rw [e9, upd_self]
            · rw [upd_ne e9]; exact hz12 q9 (by omega)) (by omega) hP hD hS (lv_sub hl [0, 1] rfl)
    exact loop8 _ mem3 (A) (0) _ _ _ (Nat.lt_succ_self _) (hW4) (fun _ _ => rfl) (fun q9 hq9 => by omega) (by omega) hP hD hS (lv_sub hl [0, 1] rfl)
  · exact W.vret hx hb hr (fun t ht hW => ⟨⟨mem, rfl, ⟨J, A, hM, fun _ _ => rfl, fun _ _ => rfl, hb1, Or.inl ⟨hb1, rfl⟩⟩, by show va_P _ _ _ t.heap; rw [ht]; exact hP⟩, hS.F ht⟩) hS.2.2 d_Mo_chart_7
set_option maxHeartbeats 4000000 in
set_option maxRecDepth 100000 in
theorem m_Mo_endsOfX (l : Launch) {D : va_G} {cy : Nat → ClassId} {sz n : Nat} {ad : Nat → Nat} {mem : Nat → va_E} {J : Nat → Int32} {A : Nat → Nat → Int32} {nm : Nat → Int64} {m0 : Nat → va_E} {G R Ec u r0 i9 : Nat} (hn : 242 ≤ n) (hM : MW cy ad J A nm m0 mem) (h24 : J 24 = nI G) (hGb : G ≤ 24) (h7 : J 7 = nI Ec) (hEb : Ec ≤ 100) (hRb : R ≤ 12) (hub : u ≤ 240) (hGd : Gd R Ec u A) (hng : NoG m0) (hr0 : r0 < R) (hi9 : i9 ≤ G) : MI l D cy sz n ad y_Mo_endsOf c_Mo_endsOf 3 (some .int) ({ frames := 5, cells := 0, slots := 0, locals := 150 } : Room) mem [.ref (ad 224), .int (nI r0), .int (nI i9)] (fun r mem' => ∃ J' A', MW cy ad J' A' nm m0 mem' ∧ (∀ i, i ≠ 26 → J' i = J i) ∧ (∀ j, j ≠ 241 → A' j = A j) ∧ J' 26 = 0 ∧ ((J 26 = 0 ∧ A' = A) ∨ (Fx A G Ec (A' 241) ∧ Lst A G Ec (A' 241))) ∧ r = (if A 227 r0 < 0 then 0 else A' 241 (25 * (A 227 r0).toNatClampNeg + i9))) := by
  refine Met.ofW (cc := c_Mo_endsOf) (maxL := 3) (ret := (some .int)) (by decide) rfl ?_
  intro p e s m args below meth c s₁ B hml hv
  obtain ⟨rfl, E, hP, hD⟩ := hv
  have hx := B.exec
  have hb := B.bytes
  have hr := B.returns
  have hlocks := B.notSynchronized
  have Bx : MB p s m [.ref (ad 224), .int (nI r0), .int (nI i9)].toArray c c_Mo_endsOf "AbnfChartModel" D cy := ⟨hx, hb, tb_all (atoms_spec B.pre) E.2.1, findClass_of_methodNamed B.named, E.1⟩
  have hS : va_S (Az sz) s.heap s.heap [] := va_S.rf
  have hl := lv_entry ([.ref (ad 224), .int (nI r0), .int (nI i9)]) (n := 3) (Nat.le_of_ble_eq_true rfl)
  rw [lg_entry_eq]
  generalize (lg_sl ([.ref (ad 224), .int (nI r0), .int (nI i9)]) ++ List.replicate (3 - (lg_sl ([.ref (ad 224), .int (nI r0), .int (nI i9)])).length) Slot.unset).toArray = ls at hl ⊢
  have hl : lv_has ls 3 [(0, .ref (ad 224)), (1, .int (nI r0)), (2, .int (nI i9))] := hl
  refine lv_aload_n Bx.1 Bx.2.1 d_Mo_endsOf_0 rfl (lv_at hl 0 rfl) ?_
  refine f_callVv (na := 0) (As := []) (rest := []) Bx hml E hP hD hS (by omega) hM.1 rfl (m_Mo_chartX l hn hM h24 hGb h7 hEb hRb hub hGd hng) kw_882 kw_884 sel_Mo_chart kw_8 kw_885 (by decide +kernel) ⟨rfl, rfl⟩ ⟨Nat.le_of_ble_eq_true rfl, Nat.le_of_ble_eq_true rfl⟩ rfl hl.1 (Nat.le_of_ble_eq_true rfl) d_Mo_endsOf_1 ⟨Nat.le_of_ble_eq_true rfl, Nat.le_of_ble_eq_true rfl⟩ (fun mem2 H locs hq hP hS => ?_)
  have hD : va_D (Az sz) (fw n ad mem2) := fw_D hD
  obtain ⟨J2, A2, h2, hj2, ha2, h26, hcs⟩ := hq
  have htp := hGd.2.1 r0 hr0
  have ht7 : A2 227 r0 = A 227 r0 := by rw [ha2 227 (by decide)]
  refine lv_aload_n Bx.1 Bx.2.1 d_Mo_endsOf_4 rfl (lv_at hl 0 rfl) ?_
  refine f_get Bx hP (by omega) h2.1 rfl inMo 6 (by decide) kw_662 rfl rfl d_Mo_endsOf_5 ?_
  refine lv_iload_n Bx.1 Bx.2.1 d_Mo_endsOf_8 rfl (lv_at hl 1 rfl) ?_
  refine f_iald Bx hP (by omega) (show mem2 227 = .inl (cy 1, 12, .inl (A2 227)) from h2.2.2.1 227 (by decide) (by decide) (by decide)) (vp_in_nI (n := r0) (by omega) (by decide)) d_Mo_endsOf_9 ?_
  rw [nI_clamp (n := r0) (by omega)]
  rcases htp with htp | ⟨j, hj, htp⟩
  · rw [ht7, htp]
    refine lv_if_ge Bx.1 Bx.2.1 d_Mo_endsOf_10 rfl (fun hb3 => ?_) (fun hb3 => ?_)
    · exact absurd hb3 (by decide)
    · refine lv_iconst (v := 0) Bx.1 Bx.2.1 d_Mo_endsOf_13 (by decide) ?_
      refine lv_goto Bx.1 Bx.2.1 d_Mo_endsOf_14 rfl ?_
      exact W.iret (v := 0) hx hb hr (fun t ht hW => ⟨⟨0, mem2, rfl, ⟨J2, A2, h2, hj2, ha2, h26, hcs, by rw [if_pos (by decide)]⟩, by show va_P _ _ _ t.heap; rw [ht]; exact hP⟩, hS.F ht⟩) hS.2.2 d_Mo_endsOf_33
  · rw [ht7, htp]
    refine lv_if_ge Bx.1 Bx.2.1 d_Mo_endsOf_10 rfl (fun hb4 => ?_) (fun hb4 => ?_)
    · refine lv_aload_n Bx.1 Bx.2.1 d_Mo_endsOf_17 rfl (lv_at hl 0 rfl) ?_
      refine f_get Bx hP (by omega) h2.1 rfl inMo 27 (by decide) kw_683 rfl rfl d_Mo_endsOf_18 ?_
      refine lv_bipush (v := 25) Bx.1 Bx.2.1 d_Mo_endsOf_21 (by decide) ?_
      refine lv_aload_n Bx.1 Bx.2.1 d_Mo_endsOf_23 rfl (lv_at hl 0 rfl) ?_
      refine f_get Bx hP (by omega) h2.1 rfl inMo 6 (by decide) kw_662 rfl rfl d_Mo_endsOf_24 ?_
      refine lv_iload_n Bx.1 Bx.2.1 d_Mo_endsOf_27 rfl (lv_at hl 1 rfl) ?_
      refine f_iald Bx hP (by omega) (show mem2 227 = .inl (cy 1, 12, .inl (A2 227)) from h2.2.2.1 227 (by decide) (by decide) (by decide)) (vp_in_nI (n := r0) (by omega) (by decide)) d_Mo_endsOf_28 ?_
      rw [nI_clamp (n := r0) (by omega)]
      rw [ht7, htp]
      refine lv_imul Bx.1 Bx.2.1 d_Mo_endsOf_29 ?_
      rw [show 25 * nI j = nI (25 * j) from nI_mulR (25) (j)]
      refine lv_iload_n Bx.1 Bx.2.1 d_Mo_endsOf_30 rfl (lv_at hl 2 rfl) ?_
      refine lv_iadd Bx.1 Bx.2.1 d_Mo_endsOf_31 ?_
      rw [show nI (25 * j) + nI i9 = nI (25 * j + i9) from nI_add (25 * j) (i9)]
      refine f_iald Bx hP (by omega) (show mem2 241 = .inl (cy 1, 2500, .inl (A2 241)) from h2.2.2.1 241 (by decide) (by decide) (by decide)) (vp_in_nI (n := 25 * j + i9) (by omega) (by decide)) d_Mo_endsOf_32 ?_
      rw [nI_clamp (n := 25 * j + i9) (by omega)]
      exact W.iret (v := A2 241 (25 * j + i9)) hx hb hr (fun t ht hW => ⟨⟨A2 241 (25 * j + i9), mem2, rfl, ⟨J2, A2, h2, hj2, ha2, h26, hcs, by rw [if_neg (nI_pos (by omega)), nI_clamp (n := j) (by omega)]⟩, by show va_P _ _ _ t.heap; rw [ht]; exact hP⟩, hS.F ht⟩) hS.2.2 d_Mo_endsOf_33
    · exact absurd hb4 (by first | exact nI_pos (by omega) | exact fun q9 => q9 (nI_pos' (by omega)))
