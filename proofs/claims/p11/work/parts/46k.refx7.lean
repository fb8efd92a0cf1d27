def St9 (L G : Nat) (T : Nat → Int32) (a u R E f : Nat) (pe : Bool) (J : Nat → Int32) (A : Ro) : Prop := Num L G a u R E f J ∧ Bnd L a u R E f ∧ A 225 = T ∧ J 28 = (if pe then 1 else 0) ∧ ∃ c s t, Inv R E u f (J 28 = 0) c s t A (fun _ => False) ∧ A 239 f = -1
def Res9 (L G : Nat) (T : Nat → Int32) (a : Nat) (J : Nat → Int32) (A : Ro) (nm : Nat → Int64) (o : Option Cg) : Prop := (BAD L G T J A ∧ o = none) ∨ ∃ a' u R E f pe, a < a' ∧ o = some (a', u, R, E, f, A, nm, pe) ∧ St9 L G T a' u R E f pe J A
def ResE9 (L G : Nat) (T : Nat → Int32) (a : Nat) (J : Nat → Int32) (A : Ro) (nm : Nat → Int64) (o : Option Cg) : Prop := (BAD L G T J A ∧ o = none) ∨ ∃ a' u R E f pe, a ≤ a' ∧ o = some (a', u, R, E, f, A, nm, pe) ∧ St9 L G T a' u R E f pe J A
theorem Res9.mono {L G a a2 : Nat} {T J : Nat → Int32} {A : Ro} {nm : Nat → Int64} {o o' : Option Cg} (h : Res9 L G T a2 J A nm o) (ha : a ≤ a2) (ho : o' = o) : Res9 L G T a J A nm o' := by
  subst ho
  exact h.imp id (fun ⟨a', u, R, E, f, pe, h1, h2⟩ => ⟨a', u, R, E, f, pe, by omega, h2⟩)
theorem ResE9.res {L G a a2 : Nat} {T J : Nat → Int32} {A : Ro} {nm : Nat → Int64} {o o' : Option Cg} (h : ResE9 L G T a2 J A nm o) (ha : a < a2) (ho : o' = o) : Res9 L G T a J A nm o' := by
  subst ho
  exact h.imp id (fun ⟨a', u, R, E, f, pe, h1, h2⟩ => ⟨a', u, R, E, f, pe, by omega, h2⟩)
theorem updid (A : Ro) (i : Nat) : va_up A i (A i) = A := by
  funext j
  by_cases q9 : j = i
  · rw [q9, va_up_self]
  · rw [va_up_ne _ _ q9]
theorem strN_on {T : Nat → Int32} {L r a : Nat} (h1 : ¬ (hereF L T a < 32 ∨ 126 < hereF L T a)) (h2 : hereF L T a ≠ 34) : strN T L (r + 1) a = strN T L r (a + 1) + 1 := by
  conv => lhs; rw [strN, if_pos ⟨h1, h2⟩]
theorem strN_no {T : Nat → Int32} {L r a : Nat} (h : (hereF L T a < 32 ∨ 126 < hereF L T a) ∨ hereF L T a = 34) : strN T L r a = 0 := by
  cases r with
  | zero => rfl
  | succ r => rw [strN, if_neg (fun z => h.elim z.1 z.2)]
theorem strS_no {T : Nat → Int32} {L a u e : Nat} {A : Ro} (k : Nat) (hk : strN T L 12 (a + 1) = k) (h : hereF L T (a + 1 + k) ≠ 34) : strS T L a u e A = none := by
  unfold strS
  simp only [hk]
  rw [if_neg h]
theorem strS_ok {T : Nat → Int32} {L a u e : Nat} {A : Ro} (k : Nat) (hk : strN T L 12 (a + 1) = k) (h : hereF L T (a + 1 + k) = 34) : strS T L a u e A = some (a + 1 + k + 1, u + k, va_up (va_up (va_up A 229 (upd (A 229) e (nI u))) 234 (chrS T L u (a + 1) (A 234) k)) 230 (upd (A 230) e (nI k))) := by
  unfold strS
  simp only [hk]
  rw [if_pos h]
theorem wi_0 {x : Int32} (h : (if x < 32 ∨ 126 < x then (0 : Int32) else 1) = 0) : x < 32 ∨ 126 < x := by
  by_cases q : x < 32 ∨ 126 < x
  · exact q
  · rw [if_neg q] at h; exact absurd h (by decide)
theorem wi_1 {x : Int32} (h : ¬ (if x < 32 ∨ 126 < x then (0 : Int32) else 1) = 0) : ¬ (x < 32 ∨ 126 < x) := fun q => h (if_pos q)
set_option maxHeartbeats 4000000 in
set_option maxRecDepth 100000 in
theorem m_Mo_stringX (l : Launch) {D : va_G} {cy : Nat → ClassId} {sz n : Nat} {ad : Nat → Nat} {mem : Nat → va_E} {J : Nat → Int32} {A : Nat → Nat → Int32} {nm : Nat → Int64} {m0 : Nat → va_E} {L G a u R f : Nat} {T : Nat → Int32} {fc fs ft : Nat → Nat} {e9 : Nat} (hn : 242 ≤ n) (hM : MW cy ad J A nm m0 mem) (hNm : Num L G a u R (e9 + 1) f J) (hBd : L ≤ 240 ∧ a ≤ L ∧ u ≤ a ∧ R ≤ 12 ∧ f ≤ 6) (hEb : e9 + 1 ≤ 100) (hT : A 225 = T) (hp : J 28 = 0) (hI : Inv R (e9 + 1) u f True fc fs ft A (fun _ => False)) (h4 : A 228 e9 = 4) (hC : CL e9 A) (hse : fs f < e9) (hrr : A 239 f = -1 ∨ ∃ r, A 239 f = nI r ∧ fs f < r ∧ r < e9) (hla : a < L) : MV l D cy sz n ad y_Mo_string c_Mo_string 3 ({ frames := 3, cells := 0, slots := 0, locals := 90 } : Room) mem [.ref (ad 224), .int (nI e9)] (fun mem' => ∃ J' A' nm', MW cy ad J' A' nm' m0 mem' ∧ Res9 L G T a J' A' nm' (plS R (e9 + 1) f e9 nm (strS T L a u e9 A))) := by
  refine Met.ofW (cc := c_Mo_string) (maxL := 3) (ret := none) (by decide) rfl ?_
  intro p e s m args below meth c s₁ B hml hv
  obtain ⟨rfl, E, hP, hD⟩ := hv
  have hx := B.exec
  have hb := B.bytes
  have hr := B.returns
  have hlocks := B.notSynchronized
  have Bx : MB p s m [.ref (ad 224), .int (nI e9)].toArray c c_Mo_string "AbnfChartModel" D cy := ⟨hx, hb, tb_all (atoms_spec B.pre) E.2.1, findClass_of_methodNamed B.named, E.1⟩
  have hS : va_S (Az sz) s.heap s.heap [] := va_S.rf
  have hl := lv_entry ([.ref (ad 224), .int (nI e9)]) (n := 3) (Nat.le_of_ble_eq_true rfl)
  rw [lg_entry_eq]
  generalize (lg_sl ([.ref (ad 224), .int (nI e9)]) ++ List.replicate (3 - (lg_sl ([.ref (ad 224), .int (nI e9)])).length) Slot.unset).toArray = ls at hl ⊢
  have hl : lv_has ls 3 [(0, .ref (ad 224)), (1, .int (nI e9))] := hl
  obtain ⟨hL, haL, huA, hRb, hfb⟩ := hBd
  obtain ⟨g1, g2, g3, g4, g5, g6, g7, g8⟩ := hNm
  refine lv_aload_n Bx.1 Bx.2.1 d_Mo_string_0 rfl (lv_at hl 0 rfl) ?_
  refine lv_dup Bx.1 Bx.2.1 d_Mo_string_1 rfl ?_
  refine f_get Bx hP (by omega) hM.1 rfl inMo 16 (by decide) kw_672 rfl rfl d_Mo_string_2 ?_
  rw [g3]
  refine lv_iconst (v := 1) Bx.1 Bx.2.1 d_Mo_string_5 (by decide) ?_
  refine lv_iadd Bx.1 Bx.2.1 d_Mo_string_6 ?_
  rw [show nI a + 1 = nI (a + 1) from nI_add (a) (1)]
  refine f_put Bx hP hD hS (by omega) hM.1 rfl inMo tyMo okMo nmMo 16 (by decide) kw_672 rfl rfl rfl rfl (Nat.le_of_ble_eq_true rfl) d_Mo_string_7 (fun H locs hP hS => ?_)
  obtain ⟨J9, eJ9⟩ : ∃ z, z = va_up J 16 (nI (a + 1)) := ⟨_, rfl⟩
  obtain ⟨mem10, e_mem10⟩ : ∃ z, z = va_up mem 224 (moC ad J9) := ⟨_, rfl⟩
  have hP : va_P D vcl (fw n ad mem10) H := by rw [e_mem10, eJ9]; exact hP
  have hD : va_D (Az sz) (fw n ad mem10) := fw_D hD
  have hW11 : MW cy ad J9 A nm m0 mem10 := by rw [e_mem10]; exact hM.upJ (by rw [eJ9]; exact va_up_ne _ _ (by decide))
  have kk12 : J9 1 = nI L := by rw [eJ9]; exact g1
  have kk13 : J9 24 = nI G := by rw [eJ9]; exact g2
  have kk14 : J9 17 = 0 := by rw [eJ9]; exact g4
  have kk15 : J9 14 = nI u := by rw [eJ9]; exact g5
  have kk16 : J9 4 = nI R := by rw [eJ9]; exact g6
  have kk17 : J9 7 = nI (e9 + 1) := by rw [eJ9]; exact g7
  have kk18 : J9 18 = nI (f + 1) := by rw [eJ9]; exact g8
  have kk19 : J9 28 = 0 := by rw [eJ9]; exact hp
  have kk20 : J9 16 = nI (a + 1) := by rw [eJ9, va_up_self]
  refine lv_aload_n Bx.1 Bx.2.1 d_Mo_string_10 rfl (lv_at hl 0 rfl) ?_
  refine f_get Bx hP (by omega) hW11.1 rfl inMo 9 (by decide) kw_665 rfl rfl d_Mo_string_11 ?_
  refine lv_iload_n Bx.1 Bx.2.1 d_Mo_string_14 rfl (lv_at hl 1 rfl) ?_
  refine lv_aload_n Bx.1 Bx.2.1 d_Mo_string_15 rfl (lv_at hl 0 rfl) ?_
  refine f_get Bx hP (by omega) hW11.1 rfl inMo 14 (by decide) kw_670 rfl rfl d_Mo_string_16 ?_
  rw [kk15]
  refine f_iast (x := nI u) (i := nI (e9)) Bx hP hD hS (by omega) (show mem10 229 = .inl (cy 1, 100, .inl (A 229)) from hW11.2.2.1 229 (by decide) (by decide) (by decide)) (vp_in_nI (n := e9) (by omega) (by decide)) d_Mo_string_19 (fun H locs hP hS => ?_)
  rw [nI_clamp (n := e9) (by omega)] at hP
  obtain ⟨A21, eA21⟩ : ∃ z, z = va_up A 229 (upd (A 229) (e9) (nI u)) := ⟨_, rfl⟩
  obtain ⟨mem22, e_mem22⟩ : ∃ z, z = va_up mem10 229 (.inl (cy 1, 100, .inl (upd (A 229) (e9) (nI u)))) := ⟨_, rfl⟩
  have hP : va_P D vcl (fw n ad mem22) H := by rw [e_mem22]; exact hP
  have hD : va_D (Az sz) (fw n ad mem22) := fw_D hD
  have hW23 : MW cy ad J9 A21 nm m0 mem22 := by rw [e_mem22, eA21]; exact hW11.upA (j := 229) (by decide) (by decide) (by decide) (Or.inl (by decide))
  have tT24 : A21 225 = T := by rw [eA21]; exact hT
  refine lv_iconst (v := 0) Bx.1 Bx.2.1 d_Mo_string_20 (by decide) ?_
  refine lv_istore_n (lv' := [(2, .int (0)), (0, .ref (ad 224)), (1, .int (nI e9))]) Bx.1 Bx.2.1 d_Mo_string_21 rfl hl (by decide) rfl (fun ls hl => ?_)
  have hn16 : J9 16 = nI (a + 1 + 0) := kk20
  have loop25 : ∀ (d26 : Nat) (mem9 : Nat → va_E) (J9 : Nat → Int32) (A9 : Nat → Nat → Int32) (k : Nat) (ls : Array Slot) (H : Heap) (locs : List Loc), (12 - k < d26) → (Num L G (a + 1 + k) (u + k) R (e9 + 1) f J9 ∧ J9 28 = 0) → (MW cy ad J9 A9 nm m0 mem9) → (A9 = va_up A21 234 (chrS T L u (a + 1) (A21 234) k) ∧ strN T L (12 - k) (a + 1 + k) + k = strN T L 12 (a + 1)) → (a + 1 + k ≤ L ∧ k ≤ 12) → (va_P D vcl (fw n ad mem9) H) → (va_D (Az sz) (fw n ad mem9)) → (va_S (Az sz) s.heap H locs) → (lv_has ls 3 [(2, .int (nI k)), (0, .ref (ad 224)), (1, .int (nI e9))]) → W p l e (headSpec (Cond.code y_Mo_string c_Mo_string 3 none :: tg) ({ frames := 3, cells := 0, slots := 0, locals := 90 } : Room)).room s m [.ref (ad 224), .int (nI e9)].toArray below meth c H locs 0 0 (MQ below (va_Qv (fun mem' => ∃ J' A' nm', MW cy ad J' A' nm' m0 mem' ∧ Res9 L G T a J' A' nm' (plS R (e9 + 1) f e9 nm (strS T L a u e9 A))) (PP D n ad) (Az sz)) [.ref (ad 224), .int (nI e9)].toArray s 0 0 (Az sz)) (F0 m 22 ls []) := by
    intro d26
    induction d26 with
    | zero => intro mem9 J9 A9 k ls H locs hmeas32; exact absurd hmeas32 (Nat.not_lt_zero _)
    | succ d26 ih31 =>
      intro mem9 J9 A9 k ls H locs hmeas32 hz27 hz28 hz29 hz30 hP hD hS hl
      obtain ⟨g33, g34, g35, g36, g37, g38, g39, g40⟩ := hz27.1
      obtain ⟨hA9, hsk⟩ := hz29
      have hz2 : ∀ j, j ≠ 234 → A9 j = A21 j := fun j hj => by rw [hA9, va_up_ne _ _ hj]
      have tT41 : A9 225 = T := (hz2 225 (by decide)).trans tT24
      refine lv_iload_n Bx.1 Bx.2.1 d_Mo_string_22 rfl (lv_at hl 0 rfl) ?_
      refine lv_bipush (v := 12) Bx.1 Bx.2.1 d_Mo_string_23 (by decide) ?_
      refine lv_icmp_ge Bx.1 Bx.2.1 d_Mo_string_25 rfl (fun hb42 => ?_) (fun hb42 => ?_)
      · have hN43 : 12 ≤ k := (nI_leI (by omega) (by omega)).mp (show nI (12) ≤ nI (k) from hb42)
        have hN : strN T L 12 (a + 1) = k := by rw [← hsk, show 12 - k = 0 by omega]; show 0 + k = k; omega
        refine lv_aload_n Bx.1 Bx.2.1 d_Mo_string_90 rfl (lv_at hl 1 rfl) ?_
        refine f_get Bx hP (by omega) hz28.1 rfl inMo 10 (by decide) kw_666 rfl rfl d_Mo_string_91 ?_
        refine lv_iload_n Bx.1 Bx.2.1 d_Mo_string_94 rfl (lv_at hl 2 rfl) ?_
        refine lv_iload_n Bx.1 Bx.2.1 d_Mo_string_95 rfl (lv_at hl 0 rfl) ?_
        refine f_iast (x := nI k) (i := nI (e9)) Bx hP hD hS (by omega) (show mem9 230 = .inl (cy 1, 100, .inl (A9 230)) from hz28.2.2.1 230 (by decide) (by decide) (by decide)) (vp_in_nI (n := e9) (by omega) (by decide)) d_Mo_string_96 (fun H locs hP hS => ?_)
        rw [nI_clamp (n := e9) (by omega)] at hP
        obtain ⟨A44, eA44⟩ : ∃ z, z = va_up A9 230 (upd (A9 230) (e9) (nI k)) := ⟨_, rfl⟩
        obtain ⟨mem45, e_mem45⟩ : ∃ z, z = va_up mem9 230 (.inl (cy 1, 100, .inl (upd (A9 230) (e9) (nI k)))) := ⟨_, rfl⟩
        have hP : va_P D vcl (fw n ad mem45) H := by rw [e_mem45]; exact hP
        have hD : va_D (Az sz) (fw n ad mem45) := fw_D hD
        have hW46 : MW cy ad J9 A44 nm m0 mem45 := by rw [e_mem45, eA44]; exact hz28.upA (j := 230) (by decide) (by decide) (by decide) (Or.inl (by decide))
        have tT47 : A44 225 = T := by rw [eA44]; exact tT41
        refine lv_aload_n Bx.1 Bx.2.1 d_Mo_string_97 rfl (lv_at hl 1 rfl) ?_
        refine f_callVi (na := 0) (As := []) (rest := []) Bx hml E hP hD hS (by omega) hW46.1 rfl (m_Mo_here l hn hW46 g33 hL g35 (by omega)) kw_778 kw_780 sel_Mo_here kw_8 kw_781 (by decide +kernel) ⟨rfl, rfl⟩ ⟨Nat.le_of_ble_eq_true rfl, Nat.le_of_ble_eq_true rfl⟩ rfl hl.1 (Nat.le_of_ble_eq_true rfl) d_Mo_string_98 ⟨Nat.le_of_ble_eq_true rfl, Nat.le_of_ble_eq_true rfl⟩ (fun r48 mem49 H locs hq hP hS => ?_)
        have hD : va_D (Az sz) (fw n ad mem49) := fw_D hD
        obtain ⟨hre, hq⟩ := hq
        rw [hq] at hP hD
        subst hre
        rw [show hereF L (A44 225) (a + 1 + k) = hereF L T (a + 1 + k) by rw [tT47]]
        refine lv_bipush (v := 34) Bx.1 Bx.2.1 d_Mo_string_101 (by decide) ?_
        refine lv_icmp_eq Bx.1 Bx.2.1 d_Mo_string_103 rfl (fun hb50 => ?_) (fun hb50 => ?_)
        · have hlt51 := hereF_lt (by rw [hb50]; decide)
          refine lv_aload_n Bx.1 Bx.2.1 d_Mo_string_115 rfl (lv_at hl 1 rfl) ?_
          refine lv_dup Bx.1 Bx.2.1 d_Mo_string_116 rfl ?_
          refine f_get Bx hP (by omega) hW46.1 rfl inMo 16 (by decide) kw_672 rfl rfl d_Mo_string_117 ?_
          rw [g35]
          refine lv_iconst (v := 1) Bx.1 Bx.2.1 d_Mo_string_120 (by decide) ?_
          refine lv_iadd Bx.1 Bx.2.1 d_Mo_string_121 ?_
          rw [show nI (a + 1 + k) + 1 = nI (a + 1 + k + 1) from nI_add (a + 1 + k) (1)]
          refine f_put Bx hP hD hS (by omega) hW46.1 rfl inMo tyMo okMo nmMo 16 (by decide) kw_672 rfl rfl rfl rfl (Nat.le_of_ble_eq_true rfl) d_Mo_string_122 (fun H locs hP hS => ?_)
          obtain ⟨J52, eJ52⟩ : ∃ z, z = va_up J9 16 (nI (a + 1 + k + 1)) := ⟨_, rfl⟩
          obtain ⟨mem53, e_mem53⟩ : ∃ z, z = va_up mem45 224 (moC ad J52) := ⟨_, rfl⟩
          have hP : va_P D vcl (fw n ad mem53) H := by rw [e_mem53, eJ52]; exact hP
          have hD : va_D (Az sz) (fw n ad mem53) := fw_D hD
          have hW54 : MW cy ad J52 A44 nm m0 mem53 := by rw [e_mem53]; exact hW46.upJ (by rw [eJ52]; exact va_up_ne _ _ (by decide))
          have kk55 : J52 1 = nI L := by rw [eJ52]; exact g33
          have kk56 : J52 24 = nI G := by rw [eJ52]; exact g34
          have kk57 : J52 17 = 0 := by rw [eJ52]; exact g36
          have kk58 : J52 14 = nI (u + k) := by rw [eJ52]; exact g37
          have kk59 : J52 4 = nI R := by rw [eJ52]; exact g38
          have kk60 : J52 7 = nI (e9 + 1) := by rw [eJ52]; exact g39
          have kk61 : J52 18 = nI (f + 1) := by rw [eJ52]; exact g40
          have kk62 : J52 28 = 0 := by rw [eJ52]; exact hz27.2
          have kk63 : J52 16 = nI (a + 1 + k + 1) := by rw [eJ52, va_up_self]
          refine lv_aload_n Bx.1 Bx.2.1 d_Mo_string_125 rfl (lv_at hl 1 rfl) ?_
          refine f_get Bx hP (by omega) hW54.1 rfl inMo 17 (by decide) kw_673 rfl rfl d_Mo_string_126 ?_
          rw [kk57]
          refine lv_if_ne Bx.1 Bx.2.1 d_Mo_string_129 rfl (fun hb64 => ?_) (fun hb64 => ?_)
          · exact absurd hb64 (by decide)
          · refine lv_aload_n Bx.1 Bx.2.1 d_Mo_string_132 rfl (lv_at hl 1 rfl) ?_
            refine lv_iload_n Bx.1 Bx.2.1 d_Mo_string_133 rfl (lv_at hl 2 rfl) ?_
            have hno := hI.note (A' := A44) (e := e9) (u' := u + k) (by omega) (fun j q8 q9 q0 q1 q4 => by simp [eA44, hz2, eA21, va_up, q0, q9, q4]) (fun i hi => by simp [eA44, hz2, eA21, va_up, upd, hi]) (Or.inl (by simp [eA44, hz2, eA21, va_up])) (by simp [eA44, hz2, eA21, va_up, h4]) (fun _ => ⟨u, k, by simp [eA44, hz2, eA21, va_up, upd], by simp [eA44, hz2, eA21, va_up, upd], by omega⟩)
            have hrr2 : A44 239 f = -1 ∨ ∃ r, A44 239 f = nI r ∧ fs f < r ∧ r < e9 := by simp only [eA44, va_up, hz2 239 (by decide), eA21]; exact hrr
            have hC2 : CL e9 A44 := fun i hi => by simp only [eA44, va_up, hz2 232 (by decide), hz2 233 (by decide), eA21]; exact hC i hi
            refine f_callVv (na := 1) (As := [.int (nI e9)]) (rest := []) Bx hml E hP hD hS (by omega) hW54.1 rfl (m_Mo_placedX l hn hW54 (e9 := e9) kk61 (by omega) (by omega) hno (by omega) hse hrr2 hC2) kw_834 kw_836 sel_Mo_placed kw_8 kw_837 (by decide +kernel) ⟨rfl, rfl⟩ ⟨Nat.le_of_ble_eq_true rfl, Nat.le_of_ble_eq_true rfl⟩ rfl hl.1 (Nat.le_of_ble_eq_true rfl) d_Mo_string_134 ⟨Nat.le_of_ble_eq_true rfl, Nat.le_of_ble_eq_true rfl⟩ (fun mem66 H locs hq hP hS => ?_)
            have hD : va_D (Az sz) (fw n ad mem66) := fw_D hD
            obtain ⟨hW68, hinv69, h3970, hj71⟩ := hq
            obtain ⟨A67, eA67⟩ : ∃ z, z = plcS A44 (f) (e9) := ⟨_, rfl⟩
            rw [← eA67] at hW68 hinv69 h3970 hj71
            have tT72 : A67 225 = T := (hj71 225 (by decide) (by decide) (by decide)).trans tT47
            exact W.vret hx hb hr (fun t ht hW => ⟨⟨mem66, rfl, ⟨J52, A67, nm, hW68, Or.inr ⟨a + 1 + k + 1, u + k, R, e9 + 1, f, false, by omega, by rw [strS_ok k hN hb50, eA67, eA44, hA9, eA21]; rfl, ⟨kk55, kk56, kk63, kk57, kk58, kk59, kk60, kk61⟩, ⟨by omega, by omega, by omega, by omega, by omega, by omega⟩, tT72, kk62, fc, fs, ft, hinv69.qT, h3970⟩⟩, by show va_P _ _ _ t.heap; rw [ht]; exact hP⟩, hS.F ht⟩) hS.2.2 d_Mo_string_137
        · refine lv_aload_n Bx.1 Bx.2.1 d_Mo_string_106 rfl (lv_at hl 1 rfl) ?_
          refine lv_iconst (v := 1) Bx.1 Bx.2.1 d_Mo_string_107 (by decide) ?_
          refine lv_aload_n Bx.1 Bx.2.1 d_Mo_string_108 rfl (lv_at hl 1 rfl) ?_
          refine f_get Bx hP (by omega) hW46.1 rfl inMo 16 (by decide) kw_672 rfl rfl d_Mo_string_109 ?_
          rw [g35]
          refine f_callVv (na := 2) (As := [.int (1), .int (nI (a + 1 + k))]) (rest := []) Bx hml E hP hD hS (by omega) hW46.1 rfl (m_Mo_wrong l hn hW46 (Or.inl g36) (by first | exact Or.inl rfl | exact Or.inr rfl)) kw_799 kw_801 sel_Mo_wrong kw_8 kw_802 (by decide +kernel) ⟨rfl, rfl⟩ ⟨Nat.le_of_ble_eq_true rfl, Nat.le_of_ble_eq_true rfl⟩ rfl hl.1 (Nat.le_of_ble_eq_true rfl) d_Mo_string_112 ⟨Nat.le_of_ble_eq_true rfl, Nat.le_of_ble_eq_true rfl⟩ (fun mem74 H locs hq hP hS => ?_)
          have hD : va_D (Az sz) (fw n ad mem74) := fw_D hD
          obtain ⟨J75, hW76, hwr77⟩ := hq
          have kk78 : J75 1 = nI L := (show J75 1 = J9 1 from hwr77.2 1 (by decide) (by decide)).trans g33
          have kk79 : J75 24 = nI G := (show J75 24 = J9 24 from hwr77.2 24 (by decide) (by decide)).trans g34
          have kk80 : J75 16 = nI (a + 1 + k) := (show J75 16 = J9 16 from hwr77.2 16 (by decide) (by decide)).trans g35
          have kk81 : J75 14 = nI (u + k) := (show J75 14 = J9 14 from hwr77.2 14 (by decide) (by decide)).trans g37
          have kk82 : J75 4 = nI R := (show J75 4 = J9 4 from hwr77.2 4 (by decide) (by decide)).trans g38
          have kk83 : J75 7 = nI (e9 + 1) := (show J75 7 = J9 7 from hwr77.2 7 (by decide) (by decide)).trans g39
          have kk84 : J75 18 = nI (f + 1) := (show J75 18 = J9 18 from hwr77.2 18 (by decide) (by decide)).trans g40
          have kk85 : J75 28 = 0 := (show J75 28 = J9 28 from hwr77.2 28 (by decide) (by decide)).trans hz27.2
          refine lv_aload_n Bx.1 Bx.2.1 d_Mo_string_115 rfl (lv_at hl 1 rfl) ?_
          refine lv_dup Bx.1 Bx.2.1 d_Mo_string_116 rfl ?_
          refine f_get Bx hP (by omega) hW76.1 rfl inMo 16 (by decide) kw_672 rfl rfl d_Mo_string_117 ?_
          rw [kk80]
          refine lv_iconst (v := 1) Bx.1 Bx.2.1 d_Mo_string_120 (by decide) ?_
          refine lv_iadd Bx.1 Bx.2.1 d_Mo_string_121 ?_
          rw [show nI (a + 1 + k) + 1 = nI (a + 1 + k + 1) from nI_add (a + 1 + k) (1)]
          refine f_put Bx hP hD hS (by omega) hW76.1 rfl inMo tyMo okMo nmMo 16 (by decide) kw_672 rfl rfl rfl rfl (Nat.le_of_ble_eq_true rfl) d_Mo_string_122 (fun H locs hP hS => ?_)
          obtain ⟨J86, eJ86⟩ : ∃ z, z = va_up J75 16 (nI (a + 1 + k + 1)) := ⟨_, rfl⟩
          obtain ⟨mem87, e_mem87⟩ : ∃ z, z = va_up mem74 224 (moC ad J86) := ⟨_, rfl⟩
          have hP : va_P D vcl (fw n ad mem87) H := by rw [e_mem87, eJ86]; exact hP
          have hD : va_D (Az sz) (fw n ad mem87) := fw_D hD
          have hW88 : MW cy ad J86 A44 nm m0 mem87 := by rw [e_mem87]; exact hW76.upJ (by rw [eJ86]; exact va_up_ne _ _ (by decide))
          have kk89 : J86 1 = nI L := by rw [eJ86]; exact kk78
          have kk90 : J86 24 = nI G := by rw [eJ86]; exact kk79
          have kk91 : J86 14 = nI (u + k) := by rw [eJ86]; exact kk81
          have kk92 : J86 4 = nI R := by rw [eJ86]; exact kk82
          have kk93 : J86 7 = nI (e9 + 1) := by rw [eJ86]; exact kk83
          have kk94 : J86 18 = nI (f + 1) := by rw [eJ86]; exact kk84
          have kk95 : J86 28 = 0 := by rw [eJ86]; exact kk85
          have kk96 : J86 16 = nI (a + 1 + k + 1) := by rw [eJ86, va_up_self]
          have bd97 : b12 (J86 17) := by rw [eJ86]; exact hwr77.1
          refine lv_aload_n Bx.1 Bx.2.1 d_Mo_string_125 rfl (lv_at hl 1 rfl) ?_
          refine f_get Bx hP (by omega) hW88.1 rfl inMo 17 (by decide) kw_673 rfl rfl d_Mo_string_126 ?_
          refine lv_if_ne Bx.1 Bx.2.1 d_Mo_string_129 rfl (fun hb98 => ?_) (fun hb98 => ?_)
          · exact W.vret hx hb hr (fun t ht hW => ⟨⟨mem87, rfl, ⟨J86, A44, nm, hW88, Or.inl ⟨⟨kk89, kk90, tT47, bd97, _, by omega, kk96⟩, by rw [strS_no k hN hb50]; rfl⟩⟩, by show va_P _ _ _ t.heap; rw [ht]; exact hP⟩, hS.F ht⟩) hS.2.2 d_Mo_string_137
          · exact absurd hb98 bd97.ne
      · have hN99 : ¬ 12 ≤ k := fun q9 => hb42 (show nI (12) ≤ nI (k) from (nI_leI (by omega) (by omega)).mpr q9)
        refine lv_aload_n Bx.1 Bx.2.1 d_Mo_string_28 rfl (lv_at hl 1 rfl) ?_
        refine f_callVi (na := 0) (As := []) (rest := []) Bx hml E hP hD hS (by omega) hz28.1 rfl (m_Mo_here l hn hz28 g33 hL g35 (by omega)) kw_778 kw_780 sel_Mo_here kw_8 kw_781 (by decide +kernel) ⟨rfl, rfl⟩ ⟨Nat.le_of_ble_eq_true rfl, Nat.le_of_ble_eq_true rfl⟩ rfl hl.1 (Nat.le_of_ble_eq_true rfl) d_Mo_string_29 ⟨Nat.le_of_ble_eq_true rfl, Nat.le_of_ble_eq_true rfl⟩ (fun r100 mem101 H locs hq hP hS => ?_)
        have hD : va_D (Az sz) (fw n ad mem101) := fw_D hD
        obtain ⟨hre, hq⟩ := hq
        rw [hq] at hP hD
        subst hre
        rw [show hereF L (A9 225) (a + 1 + k) = hereF L T (a + 1 + k) by rw [tT41]]
        refine lv_bipush (v := 32) Bx.1 Bx.2.1 d_Mo_string_32 (by decide) ?_
        refine lv_bipush (v := 126) Bx.1 Bx.2.1 d_Mo_string_34 (by decide) ?_
        refine f_callSi (na := 3) (As := [.int (hereF L T (a + 1 + k)), .int (32), .int (126)]) (rest := []) Bx hml E.2.1 (m_Mo_within l (hereF L T (a + 1 + k)) (32) (126)) kw_754 kw_755 kw_8 kw_756 (by decide +kernel) ⟨rfl, rfl⟩ ⟨Nat.le_of_ble_eq_true rfl, Nat.le_of_ble_eq_true rfl⟩ rfl hl.1 (Nat.le_of_ble_eq_true rfl) d_Mo_string_36 ⟨Nat.le_of_ble_eq_true rfl, Nat.le_of_ble_eq_true rfl⟩ (fun r103 hs102 => ?_)
        subst hs102
        refine lv_if_eq Bx.1 Bx.2.1 d_Mo_string_39 rfl (fun hb104 => ?_) (fun hb104 => ?_)
        · have hN : strN T L 12 (a + 1) = k := by rw [← hsk, strN_no (Or.inl (wi_0 hb104))]; omega
          refine lv_aload_n Bx.1 Bx.2.1 d_Mo_string_90 rfl (lv_at hl 1 rfl) ?_
          refine f_get Bx hP (by omega) hz28.1 rfl inMo 10 (by decide) kw_666 rfl rfl d_Mo_string_91 ?_
          refine lv_iload_n Bx.1 Bx.2.1 d_Mo_string_94 rfl (lv_at hl 2 rfl) ?_
          refine lv_iload_n Bx.1 Bx.2.1 d_Mo_string_95 rfl (lv_at hl 0 rfl) ?_
          refine f_iast (x := nI k) (i := nI (e9)) Bx hP hD hS (by omega) (show mem9 230 = .inl (cy 1, 100, .inl (A9 230)) from hz28.2.2.1 230 (by decide) (by decide) (by decide)) (vp_in_nI (n := e9) (by omega) (by decide)) d_Mo_string_96 (fun H locs hP hS => ?_)
          rw [nI_clamp (n := e9) (by omega)] at hP
          obtain ⟨A105, eA105⟩ : ∃ z, z = va_up A9 230 (upd (A9 230) (e9) (nI k)) := ⟨_, rfl⟩
          obtain ⟨mem106, e_mem106⟩ : ∃ z, z = va_up mem9 230 (.inl (cy 1, 100, .inl (upd (A9 230) (e9) (nI k)))) := ⟨_, rfl⟩
          have hP : va_P D vcl (fw n ad mem106) H := by rw [e_mem106]; exact hP
          have hD : va_D (Az sz) (fw n ad mem106) := fw_D hD
          have hW107 : MW cy ad J9 A105 nm m0 mem106 := by rw [e_mem106, eA105]; exact hz28.upA (j := 230) (by decide) (by decide) (by decide) (Or.inl (by decide))
          have tT108 : A105 225 = T := by rw [eA105]; exact tT41
          refine lv_aload_n Bx.1 Bx.2.1 d_Mo_string_97 rfl (lv_at hl 1 rfl) ?_
          refine f_callVi (na := 0) (As := []) (rest := []) Bx hml E hP hD hS (by omega) hW107.1 rfl (m_Mo_here l hn hW107 g33 hL g35 (by omega)) kw_778 kw_780 sel_Mo_here kw_8 kw_781 (by decide +kernel) ⟨rfl, rfl⟩ ⟨Nat.le_of_ble_eq_true rfl, Nat.le_of_ble_eq_true rfl⟩ rfl hl.1 (Nat.le_of_ble_eq_true rfl) d_Mo_string_98 ⟨Nat.le_of_ble_eq_true rfl, Nat.le_of_ble_eq_true rfl⟩ (fun r109 mem110 H locs hq hP hS => ?_)
          have hD : va_D (Az sz) (fw n ad mem110) := fw_D hD
          obtain ⟨hre, hq⟩ := hq
          rw [hq] at hP hD
          subst hre
          rw [show hereF L (A105 225) (a + 1 + k) = hereF L T (a + 1 + k) by rw [tT108]]
          refine lv_bipush (v := 34) Bx.1 Bx.2.1 d_Mo_string_101 (by decide) ?_
          refine lv_icmp_eq Bx.1 Bx.2.1 d_Mo_string_103 rfl (fun hb111 => ?_) (fun hb111 => ?_)
          · have hlt112 := hereF_lt (by rw [hb111]; decide)
            refine lv_aload_n Bx.1 Bx.2.1 d_Mo_string_115 rfl (lv_at hl 1 rfl) ?_
            refine lv_dup Bx.1 Bx.2.1 d_Mo_string_116 rfl ?_
            refine f_get Bx hP (by omega) hW107.1 rfl inMo 16 (by decide) kw_672 rfl rfl d_Mo_string_117 ?_
            rw [g35]
            refine lv_iconst (v := 1) Bx.1 Bx.2.1 d_Mo_string_120 (by decide) ?_
            refine lv_iadd Bx.1 Bx.2.1 d_Mo_string_121 ?_
            rw [show nI (a + 1 + k) + 1 = nI (a + 1 + k + 1) from nI_add (a + 1 + k) (1)]
            refine f_put Bx hP hD hS (by omega) hW107.1 rfl inMo tyMo okMo nmMo 16 (by decide) kw_672 rfl rfl rfl rfl (Nat.le_of_ble_eq_true rfl) d_Mo_string_122 (fun H locs hP hS => ?_)
            obtain ⟨J113, eJ113⟩ : ∃ z, z = va_up J9 16 (nI (a + 1 + k + 1)) := ⟨_, rfl⟩
            obtain ⟨mem114, e_mem114⟩ : ∃ z, z = va_up mem106 224 (moC ad J113) := ⟨_, rfl⟩
            have hP : va_P D vcl (fw n ad mem114) H := by rw [e_mem114, eJ113]; exact hP
            have hD : va_D (Az sz) (fw n ad mem114) := fw_D hD
            have hW115 : MW cy ad J113 A105 nm m0 mem114 := by rw [e_mem114]; exact hW107.upJ (by rw [eJ113]; exact va_up_ne _ _ (by decide))
            have kk116 : J113 1 = nI L := by rw [eJ113]; exact g33
            have kk117 : J113 24 = nI G := by rw [eJ113]; exact g34
            have kk118 : J113 17 = 0 := by rw [eJ113]; exact g36
            have kk119 : J113 14 = nI (u + k) := by rw [eJ113]; exact g37
            have kk120 : J113 4 = nI R := by rw [eJ113]; exact g38
            have kk121 : J113 7 = nI (e9 + 1) := by rw [eJ113]; exact g39
            have kk122 : J113 18 = nI (f + 1) := by rw [eJ113]; exact g40
            have kk123 : J113 28 = 0 := by rw [eJ113]; exact hz27.2
            have kk124 : J113 16 = nI (a + 1 + k + 1) := by rw [eJ113, va_up_self]
            refine lv_aload_n Bx.1 Bx.2.1 d_Mo_string_125 rfl (lv_at hl 1 rfl) ?_
            refine f_get Bx hP (by omega) hW115.1 rfl inMo 17 (by decide) kw_673 rfl rfl d_Mo_string_126 ?_
            rw [kk118]
            refine lv_if_ne Bx.1 Bx.2.1 d_Mo_string_129 rfl (fun hb125 => ?_) (fun hb125 => ?_)
            · exact absurd hb125 (by decide)
            · refine lv_aload_n Bx.1 Bx.2.1 d_Mo_string_132 rfl (lv_at hl 1 rfl) ?_
              refine lv_iload_n Bx.1 Bx.2.1 d_Mo_string_133 rfl (lv_at hl 2 rfl) ?_
              have hno := hI.note (A' := A105) (e := e9) (u' := u + k) (by omega) (fun j q8 q9 q0 q1 q4 => by simp [eA105, hz2, eA21, va_up, q0, q9, q4]) (fun i hi => by simp [eA105, hz2, eA21, va_up, upd, hi]) (Or.inl (by simp [eA105, hz2, eA21, va_up])) (by simp [eA105, hz2, eA21, va_up, h4]) (fun _ => ⟨u, k, by simp [eA105, hz2, eA21, va_up, upd], by simp [eA105, hz2, eA21, va_up, upd], by omega⟩)
              have hrr2 : A105 239 f = -1 ∨ ∃ r, A105 239 f = nI r ∧ fs f < r ∧ r < e9 := by simp only [eA105, va_up, hz2 239 (by decide), eA21]; exact hrr
              have hC2 : CL e9 A105 := fun i hi => by simp only [eA105, va_up, hz2 232 (by decide), hz2 233 (by decide), eA21]; exact hC i hi
              refine f_callVv (na := 1) (As := [.int (nI e9)]) (rest := []) Bx hml E hP hD hS (by omega) hW115.1 rfl (m_Mo_placedX l hn hW115 (e9 := e9) kk122 (by omega) (by omega) hno (by omega) hse hrr2 hC2) kw_834 kw_836 sel_Mo_placed kw_8 kw_837 (by decide +kernel) ⟨rfl, rfl⟩ ⟨Nat.le_of_ble_eq_true rfl, Nat.le_of_ble_eq_true rfl⟩ rfl hl.1 (Nat.le_of_ble_eq_true rfl) d_Mo_string_134 ⟨Nat.le_of_ble_eq_true rfl, Nat.le_of_ble_eq_true rfl⟩ (fun mem127 H locs hq hP hS => ?_)
              have hD : va_D (Az sz) (fw n ad mem127) := fw_D hD
              obtain ⟨hW129, hinv130, h39131, hj132⟩ := hq
              obtain ⟨A128, eA128⟩ : ∃ z, z = plcS A105 (f) (e9) := ⟨_, rfl⟩
              rw [← eA128] at hW129 hinv130 h39131 hj132
              have tT133 : A128 225 = T := (hj132 225 (by decide) (by decide) (by decide)).trans tT108
              exact W.vret hx hb hr (fun t ht hW => ⟨⟨mem127, rfl, ⟨J113, A128, nm, hW129, Or.inr ⟨a + 1 + k + 1, u + k, R, e9 + 1, f, false, by omega, by rw [strS_ok k hN hb111, eA128, eA105, hA9, eA21]; rfl, ⟨kk116, kk117, kk124, kk118, kk119, kk120, kk121, kk122⟩, ⟨by omega, by omega, by omega, by omega, by omega, by omega⟩, tT133, kk123, fc, fs, ft, hinv130.qT, h39131⟩⟩, by show va_P _ _ _ t.heap; rw [ht]; exact hP⟩, hS.F ht⟩) hS.2.2 d_Mo_string_137
          · refine lv_aload_n Bx.1 Bx.2.1 d_Mo_string_106 rfl (lv_at hl 1 rfl) ?_
            refine lv_iconst (v := 1) Bx.1 Bx.2.1 d_Mo_string_107 (by decide) ?_
            refine lv_aload_n Bx.1 Bx.2.1 d_Mo_string_108 rfl (lv_at hl 1 rfl) ?_
            refine f_get Bx hP (by omega) hW107.1 rfl inMo 16 (by decide) kw_672 rfl rfl d_Mo_string_109 ?_
            rw [g35]
            refine f_callVv (na := 2) (As := [.int (1), .int (nI (a + 1 + k))]) (rest := []) Bx hml E hP hD hS (by omega) hW107.1 rfl (m_Mo_wrong l hn hW107 (Or.inl g36) (by first | exact Or.inl rfl | exact Or.inr rfl)) kw_799 kw_801 sel_Mo_wrong kw_8 kw_802 (by decide +kernel) ⟨rfl, rfl⟩ ⟨Nat.le_of_ble_eq_true rfl, Nat.le_of_ble_eq_true rfl⟩ rfl hl.1 (Nat.le_of_ble_eq_true rfl) d_Mo_string_112 ⟨Nat.le_of_ble_eq_true rfl, Nat.le_of_ble_eq_true rfl⟩ (fun mem135 H locs hq hP hS => ?_)
            have hD : va_D (Az sz) (fw n ad mem135) := fw_D hD
            obtain ⟨J136, hW137, hwr138⟩ := hq
            have kk139 : J136 1 = nI L := (show J136 1 = J9 1 from hwr138.2 1 (by decide) (by decide)).trans g33
            have kk140 : J136 24 = nI G := (show J136 24 = J9 24 from hwr138.2 24 (by decide) (by decide)).trans g34
            have kk141 : J136 16 = nI (a + 1 + k) := (show J136 16 = J9 16 from hwr138.2 16 (by decide) (by decide)).trans g35
            have kk142 : J136 14 = nI (u + k) := (show J136 14 = J9 14 from hwr138.2 14 (by decide) (by decide)).trans g37
            have kk143 : J136 4 = nI R := (show J136 4 = J9 4 from hwr138.2 4 (by decide) (by decide)).trans g38
            have kk144 : J136 7 = nI (e9 + 1) := (show J136 7 = J9 7 from hwr138.2 7 (by decide) (by decide)).trans g39
            have kk145 : J136 18 = nI (f + 1) := (show J136 18 = J9 18 from hwr138.2 18 (by decide) (by decide)).trans g40
            have kk146 : J136 28 = 0 := (show J136 28 = J9 28 from hwr138.2 28 (by decide) (by decide)).trans hz27.2
            refine lv_aload_n Bx.1 Bx.2.1 d_Mo_string_115 rfl (lv_at hl 1 rfl) ?_
            refine lv_dup Bx.1 Bx.2.1 d_Mo_string_116 rfl ?_
            refine f_get Bx hP (by omega) hW137.1 rfl inMo 16 (by decide) kw_672 rfl rfl d_Mo_string_117 ?_
            rw [kk141]
            refine lv_iconst (v := 1) Bx.1 Bx.2.1 d_Mo_string_120 (by decide) ?_
            refine lv_iadd Bx.1 Bx.2.1 d_Mo_string_121 ?_
            rw [show nI (a + 1 + k) + 1 = nI (a + 1 + k + 1) from nI_add (a + 1 + k) (1)]
            refine f_put Bx hP hD hS (by omega) hW137.1 rfl inMo tyMo okMo nmMo 16 (by decide) kw_672 rfl rfl rfl rfl (Nat.le_of_ble_eq_true rfl) d_Mo_string_122 (fun H locs hP hS => ?_)
            obtain ⟨J147, eJ147⟩ : ∃ z, z = va_up J136 16 (nI (a + 1 + k + 1)) := ⟨_, rfl⟩
            obtain ⟨mem148, e_mem148⟩ : ∃ z, z = va_up mem135 224 (moC ad J147) := ⟨_, rfl⟩
            have hP : va_P D vcl (fw n ad mem148) H := by rw [e_mem148, eJ147]; exact hP
            have hD : va_D (Az sz) (fw n ad mem148) := fw_D hD
            have hW149 : MW cy ad J147 A105 nm m0 mem148 := by rw [e_mem148]; exact hW137.upJ (by rw [eJ147]; exact va_up_ne _ _ (by decide))
            have kk150 : J147 1 = nI L := by rw [eJ147]; exact kk139
            have kk151 : J147 24 = nI G := by rw [eJ147]; exact kk140
            have kk152 : J147 14 = nI (u + k) := by rw [eJ147]; exact kk142
            have kk153 : J147 4 = nI R := by rw [eJ147]; exact kk143
            have kk154 : J147 7 = nI (e9 + 1) := by rw [eJ147]; exact kk144
            have kk155 : J147 18 = nI (f + 1) := by rw [eJ147]; exact kk145
            have kk156 : J147 28 = 0 := by rw [eJ147]; exact kk146
            have kk157 : J147 16 = nI (a + 1 + k + 1) := by rw [eJ147, va_up_self]
            have bd158 : b12 (J147 17) := by rw [eJ147]; exact hwr138.1
            refine lv_aload_n Bx.1 Bx.2.1 d_Mo_string_125 rfl (lv_at hl 1 rfl) ?_
            refine f_get Bx hP (by omega) hW149.1 rfl inMo 17 (by decide) kw_673 rfl rfl d_Mo_string_126 ?_
            refine lv_if_ne Bx.1 Bx.2.1 d_Mo_string_129 rfl (fun hb159 => ?_) (fun hb159 => ?_)
            · exact W.vret hx hb hr (fun t ht hW => ⟨⟨mem148, rfl, ⟨J147, A105, nm, hW149, Or.inl ⟨⟨kk150, kk151, tT108, bd158, _, by omega, kk157⟩, by rw [strS_no k hN hb111]; rfl⟩⟩, by show va_P _ _ _ t.heap; rw [ht]; exact hP⟩, hS.F ht⟩) hS.2.2 d_Mo_string_137
            · exact absurd hb159 bd158.ne
        · have hlt9 : a + 1 + k < L := hereF_lt (wi_ne hb104)
          refine lv_aload_n Bx.1 Bx.2.1 d_Mo_string_42 rfl (lv_at hl 1 rfl) ?_
          refine f_callVi (na := 0) (As := []) (rest := []) Bx hml E hP hD hS (by omega) hz28.1 rfl (m_Mo_here l hn hz28 g33 hL g35 (by omega)) kw_778 kw_780 sel_Mo_here kw_8 kw_781 (by decide +kernel) ⟨rfl, rfl⟩ ⟨Nat.le_of_ble_eq_true rfl, Nat.le_of_ble_eq_true rfl⟩ rfl hl.1 (Nat.le_of_ble_eq_true rfl) d_Mo_string_43 ⟨Nat.le_of_ble_eq_true rfl, Nat.le_of_ble_eq_true rfl⟩ (fun r160 mem161 H locs hq hP hS => ?_)
          have hD : va_D (Az sz) (fw n ad mem161) := fw_D hD
          obtain ⟨hre, hq⟩ := hq
          rw [hq] at hP hD
          subst hre
          rw [show hereF L (A9 225) (a + 1 + k) = hereF L T (a + 1 + k) by rw [tT41]]
          refine lv_bipush (v := 34) Bx.1 Bx.2.1 d_Mo_string_46 (by decide) ?_
          refine lv_icmp_eq Bx.1 Bx.2.1 d_Mo_string_48 rfl (fun hb162 => ?_) (fun hb162 => ?_)
          · have hlt163 := hereF_lt (by rw [hb162]; decide)
            have hN : strN T L 12 (a + 1) = k := by rw [← hsk, strN_no (Or.inr hb162)]; omega
            refine lv_aload_n Bx.1 Bx.2.1 d_Mo_string_90 rfl (lv_at hl 1 rfl) ?_
            refine f_get Bx hP (by omega) hz28.1 rfl inMo 10 (by decide) kw_666 rfl rfl d_Mo_string_91 ?_
            refine lv_iload_n Bx.1 Bx.2.1 d_Mo_string_94 rfl (lv_at hl 2 rfl) ?_
            refine lv_iload_n Bx.1 Bx.2.1 d_Mo_string_95 rfl (lv_at hl 0 rfl) ?_
            refine f_iast (x := nI k) (i := nI (e9)) Bx hP hD hS (by omega) (show mem9 230 = .inl (cy 1, 100, .inl (A9 230)) from hz28.2.2.1 230 (by decide) (by decide) (by decide)) (vp_in_nI (n := e9) (by omega) (by decide)) d_Mo_string_96 (fun H locs hP hS => ?_)
            rw [nI_clamp (n := e9) (by omega)] at hP
            obtain ⟨A164, eA164⟩ : ∃ z, z = va_up A9 230 (upd (A9 230) (e9) (nI k)) := ⟨_, rfl⟩
            obtain ⟨mem165, e_mem165⟩ : ∃ z, z = va_up mem9 230 (.inl (cy 1, 100, .inl (upd (A9 230) (e9) (nI k)))) := ⟨_, rfl⟩
            have hP : va_P D vcl (fw n ad mem165) H := by rw [e_mem165]; exact hP
            have hD : va_D (Az sz) (fw n ad mem165) := fw_D hD
            have hW166 : MW cy ad J9 A164 nm m0 mem165 := by rw [e_mem165, eA164]; exact hz28.upA (j := 230) (by decide) (by decide) (by decide) (Or.inl (by decide))
            have tT167 : A164 225 = T := by rw [eA164]; exact tT41
            refine lv_aload_n Bx.1 Bx.2.1 d_Mo_string_97 rfl (lv_at hl 1 rfl) ?_
            refine f_callVi (na := 0) (As := []) (rest := []) Bx hml E hP hD hS (by omega) hW166.1 rfl (m_Mo_here l hn hW166 g33 hL g35 (by omega)) kw_778 kw_780 sel_Mo_here kw_8 kw_781 (by decide +kernel) ⟨rfl, rfl⟩ ⟨Nat.le_of_ble_eq_true rfl, Nat.le_of_ble_eq_true rfl⟩ rfl hl.1 (Nat.le_of_ble_eq_true rfl) d_Mo_string_98 ⟨Nat.le_of_ble_eq_true rfl, Nat.le_of_ble_eq_true rfl⟩ (fun r168 mem169 H locs hq hP hS => ?_)
            have hD : va_D (Az sz) (fw n ad mem169) := fw_D hD
            obtain ⟨hre, hq⟩ := hq
            rw [hq] at hP hD
            subst hre
            rw [show hereF L (A164 225) (a + 1 + k) = hereF L T (a + 1 + k) by rw [tT167]]
            refine lv_bipush (v := 34) Bx.1 Bx.2.1 d_Mo_string_101 (by decide) ?_
            refine lv_icmp_eq Bx.1 Bx.2.1 d_Mo_string_103 rfl (fun hb170 => ?_) (fun hb170 => ?_)
            · have hlt171 := hereF_lt (by rw [hb170]; decide)
              refine lv_aload_n Bx.1 Bx.2.1 d_Mo_string_115 rfl (lv_at hl 1 rfl) ?_
              refine lv_dup Bx.1 Bx.2.1 d_Mo_string_116 rfl ?_
              refine f_get Bx hP (by omega) hW166.1 rfl inMo 16 (by decide) kw_672 rfl rfl d_Mo_string_117 ?_
              rw [g35]
              refine lv_iconst (v := 1) Bx.1 Bx.2.1 d_Mo_string_120 (by decide) ?_
              refine lv_iadd Bx.1 Bx.2.1 d_Mo_string_121 ?_
              rw [show nI (a + 1 + k) + 1 = nI (a + 1 + k + 1) from nI_add (a + 1 + k) (1)]
              refine f_put Bx hP hD hS (by omega) hW166.1 rfl inMo tyMo okMo nmMo 16 (by decide) kw_672 rfl rfl rfl rfl (Nat.le_of_ble_eq_true rfl) d_Mo_string_122 (fun H locs hP hS => ?_)
              obtain ⟨J172, eJ172⟩ : ∃ z, z = va_up J9 16 (nI (a + 1 + k + 1)) := ⟨_, rfl⟩
              obtain ⟨mem173, e_mem173⟩ : ∃ z, z = va_up mem165 224 (moC ad J172) := ⟨_, rfl⟩
              have hP : va_P D vcl (fw n ad mem173) H := by rw [e_mem173, eJ172]; exact hP
              have hD : va_D (Az sz) (fw n ad mem173) := fw_D hD
              have hW174 : MW cy ad J172 A164 nm m0 mem173 := by rw [e_mem173]; exact hW166.upJ (by rw [eJ172]; exact va_up_ne _ _ (by decide))
              have kk175 : J172 1 = nI L := by rw [eJ172]; exact g33
              have kk176 : J172 24 = nI G := by rw [eJ172]; exact g34
              have kk177 : J172 17 = 0 := by rw [eJ172]; exact g36
              have kk178 : J172 14 = nI (u + k) := by rw [eJ172]; exact g37
              have kk179 : J172 4 = nI R := by rw [eJ172]; exact g38
              have kk180 : J172 7 = nI (e9 + 1) := by rw [eJ172]; exact g39
              have kk181 : J172 18 = nI (f + 1) := by rw [eJ172]; exact g40
              have kk182 : J172 28 = 0 := by rw [eJ172]; exact hz27.2
              have kk183 : J172 16 = nI (a + 1 + k + 1) := by rw [eJ172, va_up_self]
              refine lv_aload_n Bx.1 Bx.2.1 d_Mo_string_125 rfl (lv_at hl 1 rfl) ?_
              refine f_get Bx hP (by omega) hW174.1 rfl inMo 17 (by decide) kw_673 rfl rfl d_Mo_string_126 ?_
              rw [kk177]
              refine lv_if_ne Bx.1 Bx.2.1 d_Mo_string_129 rfl (fun hb184 => ?_) (fun hb184 => ?_)
              · exact absurd hb184 (by decide)
              · refine lv_aload_n Bx.1 Bx.2.1 d_Mo_string_132 rfl (lv_at hl 1 rfl) ?_
                refine lv_iload_n Bx.1 Bx.2.1 d_Mo_string_133 rfl (lv_at hl 2 rfl) ?_
                have hno := hI.note (A' := A164) (e := e9) (u' := u + k) (by omega) (fun j q8 q9 q0 q1 q4 => by simp [eA164, hz2, eA21, va_up, q0, q9, q4]) (fun i hi => by simp [eA164, hz2, eA21, va_up, upd, hi]) (Or.inl (by simp [eA164, hz2, eA21, va_up])) (by simp [eA164, hz2, eA21, va_up, h4]) (fun _ => ⟨u, k, by simp [eA164, hz2, eA21, va_up, upd], by simp [eA164, hz2, eA21, va_up, upd], by omega⟩)
                have hrr2 : A164 239 f = -1 ∨ ∃ r, A164 239 f = nI r ∧ fs f < r ∧ r < e9 := by simp only [eA164, va_up, hz2 239 (by decide), eA21]; exact hrr
                have hC2 : CL e9 A164 := fun i hi => by simp only [eA164, va_up, hz2 232 (by decide), hz2 233 (by decide), eA21]; exact hC i hi
                refine f_callVv (na := 1) (As := [.int (nI e9)]) (rest := []) Bx hml E hP hD hS (by omega) hW174.1 rfl (m_Mo_placedX l hn hW174 (e9 := e9) kk181 (by omega) (by omega) hno (by omega) hse hrr2 hC2) kw_834 kw_836 sel_Mo_placed kw_8 kw_837 (by decide +kernel) ⟨rfl, rfl⟩ ⟨Nat.le_of_ble_eq_true rfl, Nat.le_of_ble_eq_true rfl⟩ rfl hl.1 (Nat.le_of_ble_eq_true rfl) d_Mo_string_134 ⟨Nat.le_of_ble_eq_true rfl, Nat.le_of_ble_eq_true rfl⟩ (fun mem186 H locs hq hP hS => ?_)
                have hD : va_D (Az sz) (fw n ad mem186) := fw_D hD
                obtain ⟨hW188, hinv189, h39190, hj191⟩ := hq
                obtain ⟨A187, eA187⟩ : ∃ z, z = plcS A164 (f) (e9) := ⟨_, rfl⟩
                rw [← eA187] at hW188 hinv189 h39190 hj191
                have tT192 : A187 225 = T := (hj191 225 (by decide) (by decide) (by decide)).trans tT167
                exact W.vret hx hb hr (fun t ht hW => ⟨⟨mem186, rfl, ⟨J172, A187, nm, hW188, Or.inr ⟨a + 1 + k + 1, u + k, R, e9 + 1, f, false, by omega, by rw [strS_ok k hN hb170, eA187, eA164, hA9, eA21]; rfl, ⟨kk175, kk176, kk183, kk177, kk178, kk179, kk180, kk181⟩, ⟨by omega, by omega, by omega, by omega, by omega, by omega⟩, tT192, kk182, fc, fs, ft, hinv189.qT, h39190⟩⟩, by show va_P _ _ _ t.heap; rw [ht]; exact hP⟩, hS.F ht⟩) hS.2.2 d_Mo_string_137
            · refine lv_aload_n Bx.1 Bx.2.1 d_Mo_string_106 rfl (lv_at hl 1 rfl) ?_
              refine lv_iconst (v := 1) Bx.1 Bx.2.1 d_Mo_string_107 (by decide) ?_
              refine lv_aload_n Bx.1 Bx.2.1 d_Mo_string_108 rfl (lv_at hl 1 rfl) ?_
              refine f_get Bx hP (by omega) hW166.1 rfl inMo 16 (by decide) kw_672 rfl rfl d_Mo_string_109 ?_
              rw [g35]
              refine f_callVv (na := 2) (As := [.int (1), .int (nI (a + 1 + k))]) (rest := []) Bx hml E hP hD hS (by omega) hW166.1 rfl (m_Mo_wrong l hn hW166 (Or.inl g36) (by first | exact Or.inl rfl | exact Or.inr rfl)) kw_799 kw_801 sel_Mo_wrong kw_8 kw_802 (by decide +kernel) ⟨rfl, rfl⟩ ⟨Nat.le_of_ble_eq_true rfl, Nat.le_of_ble_eq_true rfl⟩ rfl hl.1 (Nat.le_of_ble_eq_true rfl) d_Mo_string_112 ⟨Nat.le_of_ble_eq_true rfl, Nat.le_of_ble_eq_true rfl⟩ (fun mem194 H locs hq hP hS => ?_)
              have hD : va_D (Az sz) (fw n ad mem194) := fw_D hD
              obtain ⟨J195, hW196, hwr197⟩ := hq
              have kk198 : J195 1 = nI L := (show J195 1 = J9 1 from hwr197.2 1 (by decide) (by decide)).trans g33
              have kk199 : J195 24 = nI G := (show J195 24 = J9 24 from hwr197.2 24 (by decide) (by decide)).trans g34
              have kk200 : J195 16 = nI (a + 1 + k) := (show J195 16 = J9 16 from hwr197.2 16 (by decide) (by decide)).trans g35
              have kk201 : J195 14 = nI (u + k) := (show J195 14 = J9 14 from hwr197.2 14 (by decide) (by decide)).trans g37
              have kk202 : J195 4 = nI R := (show J195 4 = J9 4 from hwr197.2 4 (by decide) (by decide)).trans g38
              have kk203 : J195 7 = nI (e9 + 1) := (show J195 7 = J9 7 from hwr197.2 7 (by decide) (by decide)).trans g39
              have kk204 : J195 18 = nI (f + 1) := (show J195 18 = J9 18 from hwr197.2 18 (by decide) (by decide)).trans g40
              have kk205 : J195 28 = 0 := (show J195 28 = J9 28 from hwr197.2 28 (by decide) (by decide)).trans hz27.2
              refine lv_aload_n Bx.1 Bx.2.1 d_Mo_string_115 rfl (lv_at hl 1 rfl) ?_
              refine lv_dup Bx.1 Bx.2.1 d_Mo_string_116 rfl ?_
              refine f_get Bx hP (by omega) hW196.1 rfl inMo 16 (by decide) kw_672 rfl rfl d_Mo_string_117 ?_
              rw [kk200]
              refine lv_iconst (v := 1) Bx.1 Bx.2.1 d_Mo_string_120 (by decide) ?_
              refine lv_iadd Bx.1 Bx.2.1 d_Mo_string_121 ?_
              rw [show nI (a + 1 + k) + 1 = nI (a + 1 + k + 1) from nI_add (a + 1 + k) (1)]
              refine f_put Bx hP hD hS (by omega) hW196.1 rfl inMo tyMo okMo nmMo 16 (by decide) kw_672 rfl rfl rfl rfl (Nat.le_of_ble_eq_true rfl) d_Mo_string_122 (fun H locs hP hS => ?_)
              obtain ⟨J206, eJ206⟩ : ∃ z, z = va_up J195 16 (nI (a + 1 + k + 1)) := ⟨_, rfl⟩
              obtain ⟨mem207, e_mem207⟩ : ∃ z, z = va_up mem194 224 (moC ad J206) := ⟨_, rfl⟩
              have hP : va_P D vcl (fw n ad mem207) H := by rw [e_mem207, eJ206]; exact hP
              have hD : va_D (Az sz) (fw n ad mem207) := fw_D hD
              have hW208 : MW cy ad J206 A164 nm m0 mem207 := by rw [e_mem207]; exact hW196.upJ (by rw [eJ206]; exact va_up_ne _ _ (by decide))
              have kk209 : J206 1 = nI L := by rw [eJ206]; exact kk198
              have kk210 : J206 24 = nI G := by rw [eJ206]; exact kk199
              have kk211 : J206 14 = nI (u + k) := by rw [eJ206]; exact kk201
              have kk212 : J206 4 = nI R := by rw [eJ206]; exact kk202
              have kk213 : J206 7 = nI (e9 + 1) := by rw [eJ206]; exact kk203
              have kk214 : J206 18 = nI (f + 1) := by rw [eJ206]; exact kk204
              have kk215 : J206 28 = 0 := by rw [eJ206]; exact kk205
              have kk216 : J206 16 = nI (a + 1 + k + 1) := by rw [eJ206, va_up_self]
              have bd217 : b12 (J206 17) := by rw [eJ206]; exact hwr197.1
              refine lv_aload_n Bx.1 Bx.2.1 d_Mo_string_125 rfl (lv_at hl 1 rfl) ?_
              refine f_get Bx hP (by omega) hW208.1 rfl inMo 17 (by decide) kw_673 rfl rfl d_Mo_string_126 ?_
              refine lv_if_ne Bx.1 Bx.2.1 d_Mo_string_129 rfl (fun hb218 => ?_) (fun hb218 => ?_)
              · exact W.vret hx hb hr (fun t ht hW => ⟨⟨mem207, rfl, ⟨J206, A164, nm, hW208, Or.inl ⟨⟨kk209, kk210, tT167, bd217, _, by omega, kk216⟩, by rw [strS_no k hN hb170]; rfl⟩⟩, by show va_P _ _ _ t.heap; rw [ht]; exact hP⟩, hS.F ht⟩) hS.2.2 d_Mo_string_137
              · exact absurd hb218 bd217.ne
          · refine lv_aload_n Bx.1 Bx.2.1 d_Mo_string_51 rfl (lv_at hl 1 rfl) ?_
            refine f_get Bx hP (by omega) hz28.1 rfl inMo 15 (by decide) kw_671 rfl rfl d_Mo_string_52 ?_
            refine lv_aload_n Bx.1 Bx.2.1 d_Mo_string_55 rfl (lv_at hl 1 rfl) ?_
            refine f_get Bx hP (by omega) hz28.1 rfl inMo 14 (by decide) kw_670 rfl rfl d_Mo_string_56 ?_
            rw [g37]
            refine lv_aload_n Bx.1 Bx.2.1 d_Mo_string_59 rfl (lv_at hl 1 rfl) ?_
            refine f_callVi (na := 0) (As := []) (rest := [.int (nI (u + k)), .ref (ad 234)]) Bx hml E hP hD hS (by omega) hz28.1 rfl (m_Mo_here l hn hz28 g33 hL g35 (by omega)) kw_778 kw_780 sel_Mo_here kw_8 kw_781 (by decide +kernel) ⟨rfl, rfl⟩ ⟨Nat.le_of_ble_eq_true rfl, Nat.le_of_ble_eq_true rfl⟩ rfl hl.1 (Nat.le_of_ble_eq_true rfl) d_Mo_string_60 ⟨Nat.le_of_ble_eq_true rfl, Nat.le_of_ble_eq_true rfl⟩ (fun r219 mem220 H locs hq hP hS => ?_)
            have hD : va_D (Az sz) (fw n ad mem220) := fw_D hD
            obtain ⟨hre, hq⟩ := hq
            rw [hq] at hP hD
            subst hre
            rw [show hereF L (A9 225) (a + 1 + k) = hereF L T (a + 1 + k) by rw [tT41]]
            refine f_iast (x := hereF L T (a + 1 + k)) (i := nI (u + k)) Bx hP hD hS (by omega) (show mem9 234 = .inl (cy 1, 400, .inl (A9 234)) from hz28.2.2.1 234 (by decide) (by decide) (by decide)) (vp_in_nI (n := u + k) (by omega) (by decide)) d_Mo_string_63 (fun H locs hP hS => ?_)
            rw [nI_clamp (n := u + k) (by omega)] at hP
            obtain ⟨A221, eA221⟩ : ∃ z, z = va_up A9 234 (upd (A9 234) (u + k) (hereF L T (a + 1 + k))) := ⟨_, rfl⟩
            obtain ⟨mem222, e_mem222⟩ : ∃ z, z = va_up mem9 234 (.inl (cy 1, 400, .inl (upd (A9 234) (u + k) (hereF L T (a + 1 + k))))) := ⟨_, rfl⟩
            have hP : va_P D vcl (fw n ad mem222) H := by rw [e_mem222]; exact hP
            have hD : va_D (Az sz) (fw n ad mem222) := fw_D hD
            have hW223 : MW cy ad J9 A221 nm m0 mem222 := by rw [e_mem222, eA221]; exact hz28.upA (j := 234) (by decide) (by decide) (by decide) (Or.inl (by decide))
            have tT224 : A221 225 = T := by rw [eA221]; exact tT41
            refine lv_aload_n Bx.1 Bx.2.1 d_Mo_string_64 rfl (lv_at hl 1 rfl) ?_
            refine lv_dup Bx.1 Bx.2.1 d_Mo_string_65 rfl ?_
            refine f_get Bx hP (by omega) hW223.1 rfl inMo 14 (by decide) kw_670 rfl rfl d_Mo_string_66 ?_
            rw [g37]
            refine lv_iconst (v := 1) Bx.1 Bx.2.1 d_Mo_string_69 (by decide) ?_
            refine lv_iadd Bx.1 Bx.2.1 d_Mo_string_70 ?_
            rw [show nI (u + k) + 1 = nI (u + k + 1) from nI_add (u + k) (1)]
            refine f_put Bx hP hD hS (by omega) hW223.1 rfl inMo tyMo okMo nmMo 14 (by decide) kw_670 rfl rfl rfl rfl (Nat.le_of_ble_eq_true rfl) d_Mo_string_71 (fun H locs hP hS => ?_)
            obtain ⟨J225, eJ225⟩ : ∃ z, z = va_up J9 14 (nI (u + k + 1)) := ⟨_, rfl⟩
            obtain ⟨mem226, e_mem226⟩ : ∃ z, z = va_up mem222 224 (moC ad J225) := ⟨_, rfl⟩
            have hP : va_P D vcl (fw n ad mem226) H := by rw [e_mem226, eJ225]; exact hP
            have hD : va_D (Az sz) (fw n ad mem226) := fw_D hD
            have hW227 : MW cy ad J225 A221 nm m0 mem226 := by rw [e_mem226]; exact hW223.upJ (by rw [eJ225]; exact va_up_ne _ _ (by decide))
            have kk228 : J225 1 = nI L := by rw [eJ225]; exact g33
            have kk229 : J225 24 = nI G := by rw [eJ225]; exact g34
            have kk230 : J225 16 = nI (a + 1 + k) := by rw [eJ225]; exact g35
            have kk231 : J225 17 = 0 := by rw [eJ225]; exact g36
            have kk232 : J225 4 = nI R := by rw [eJ225]; exact g38
            have kk233 : J225 7 = nI (e9 + 1) := by rw [eJ225]; exact g39
            have kk234 : J225 18 = nI (f + 1) := by rw [eJ225]; exact g40
            have kk235 : J225 28 = 0 := by rw [eJ225]; exact hz27.2
            have kk236 : J225 14 = nI (u + k + 1) := by rw [eJ225, va_up_self]
            refine lv_iinc (lv' := [(2, .int ((nI k + (1)))), (0, .ref (ad 224)), (1, .int (nI e9))]) Bx.1 Bx.2.1 d_Mo_string_74 hl (k := 0) rfl rfl (by decide) rfl (fun ls hl => ?_)
            rw [show (nI k + (1) : Int32) = nI (k + 1) from nI_1 (k)] at hl
            refine lv_aload_n Bx.1 Bx.2.1 d_Mo_string_77 rfl (lv_at hl 1 rfl) ?_
            refine lv_dup Bx.1 Bx.2.1 d_Mo_string_78 rfl ?_
            refine f_get Bx hP (by omega) hW227.1 rfl inMo 16 (by decide) kw_672 rfl rfl d_Mo_string_79 ?_
            rw [kk230]
            refine lv_iconst (v := 1) Bx.1 Bx.2.1 d_Mo_string_82 (by decide) ?_
            refine lv_iadd Bx.1 Bx.2.1 d_Mo_string_83 ?_
            rw [show nI (a + 1 + k) + 1 = nI (a + 1 + k + 1) from nI_add (a + 1 + k) (1)]
            refine f_put Bx hP hD hS (by omega) hW227.1 rfl inMo tyMo okMo nmMo 16 (by decide) kw_672 rfl rfl rfl rfl (Nat.le_of_ble_eq_true rfl) d_Mo_string_84 (fun H locs hP hS => ?_)
            obtain ⟨J237, eJ237⟩ : ∃ z, z = va_up J225 16 (nI (a + 1 + k + 1)) := ⟨_, rfl⟩
            obtain ⟨mem238, e_mem238⟩ : ∃ z, z = va_up mem226 224 (moC ad J237) := ⟨_, rfl⟩
            have hP : va_P D vcl (fw n ad mem238) H := by rw [e_mem238, eJ237]; exact hP
            have hD : va_D (Az sz) (fw n ad mem238) := fw_D hD
            have hW239 : MW cy ad J237 A221 nm m0 mem238 := by rw [e_mem238]; exact hW227.upJ (by rw [eJ237]; exact va_up_ne _ _ (by decide))
            have kk240 : J237 1 = nI L := by rw [eJ237]; exact kk228
            have kk241 : J237 24 = nI G := by rw [eJ237]; exact kk229
            have kk242 : J237 17 = 0 := by rw [eJ237]; exact kk231
            have kk243 : J237 4 = nI R := by rw [eJ237]; exact kk232
            have kk244 : J237 7 = nI (e9 + 1) := by rw [eJ237]; exact kk233
            have kk245 : J237 18 = nI (f + 1) := by rw [eJ237]; exact kk234
            have kk246 : J237 28 = 0 := by rw [eJ237]; exact kk235
            have kk247 : J237 14 = nI (u + k + 1) := by rw [eJ237]; exact kk236
            have kk248 : J237 16 = nI (a + 1 + k + 1) := by rw [eJ237, va_up_self]
            refine lv_goto Bx.1 Bx.2.1 d_Mo_string_87 rfl ?_
            have hje : A221 = va_up A21 234 (chrS T L u (a + 1) (A21 234) (k + 1)) := by rw [eA221, hA9, up_up]; rfl
            have hsk2 : strN T L (12 - (k + 1)) (a + 1 + (k + 1)) + (k + 1) = strN T L 12 (a + 1) := by
              obtain ⟨r6, hr6⟩ : ∃ r6, 12 - k = r6 + 1 := ⟨12 - k - 1, by omega⟩
              rw [← hsk, hr6, strN_on (wi_1 hb104) hb162, show 12 - (k + 1) = r6 by omega, show a + 1 + (k + 1) = a + 1 + k + 1 by omega]; omega
            have hn16 : J237 16 = nI (a + 1 + (k + 1)) := kk248
            have hn14 : J237 14 = nI (u + (k + 1)) := kk247
            exact ih31 mem238 (J237) (A221) (k + 1) _ _ _ (by have := hmeas32; omega) (⟨⟨kk240, kk241, hn16, kk242, hn14, kk243, kk244, kk245⟩, kk246⟩) (hW239) (⟨hje, hsk2⟩) (⟨by omega, by omega⟩) hP hD hS (lv_sub hl [0, 1, 2] rfl)
  exact loop25 _ mem22 (J9) (A21) (0) _ _ _ (Nat.lt_succ_self _) (⟨⟨kk12, kk13, hn16, kk14, kk15, kk16, kk17, kk18⟩, kk19⟩) (hW23) (⟨(updid _ _).symm, rfl⟩) (⟨by omega, by omega⟩) hP hD hS (lv_sub hl [0, 1, 2] rfl)
