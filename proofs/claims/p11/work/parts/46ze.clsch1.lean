/-! the class's chart as functions; Bw: its elements as rows (228 kind, 229 low, 230 high, 231 asked, 232 part, 233 next, 227 first of a rule, 234 strings), g: the ends as they stand -/
def vE (ad : Nat → Nat) (x : Int32) : Value := if x < 0 then .null else .ref (ad (20 + 2 * x.toNatClampNeg))
def vR (ad : Nat → Nat) (x : Int32) : Value := if x < 0 then .null else .ref (ad (7 + x.toNatClampNeg))
theorem vE_m (ad : Nat → Nat) : vE ad (-1) = .null := if_pos (by decide)
theorem vR_m (ad : Nat → Nat) : vR ad (-1) = .null := if_pos (by decide)
theorem vE_n (ad : Nat → Nat) {j : Nat} (h : j < 2 ^ 31) : vE ad (nI j) = .ref (ad (20 + 2 * j)) := by unfold vE; rw [if_neg (nI_pos h), nI_clamp h]
theorem vR_n (ad : Nat → Nat) {j : Nat} (h : j < 2 ^ 31) : vR ad (nI j) = .ref (ad (7 + j)) := by unfold vR; rw [if_neg (nI_pos h), nI_clamp h]
def goN (g : Nat → Int32) (b : Nat) (pl : Int32) : Nat → Nat → Int32 → Int32
  | 0, _, acc => acc
  | n + 1, k, acc => if pl >>> (nI k &&& 31) = 0 then acc else goN g b pl n (k + 1) (if (pl >>> (nI k &&& 31)) &&& 1 = 1 then acc ||| g (b + k) else acc)
def goF (g : Nat → Int32) (G p : Nat) (pl : Int32) (i : Nat) : Int32 := goN g (25 * p) pl (G + 1 - i) i 0
def rowF (g : Nat → Int32) (G i : Nat) : List Nat → Int32 → Int32
  | [], x => x
  | p :: ps, x => rowF g G i ps (goF g G p x i)
def iterG (g : Nat → Int32) (G p i : Nat) (x : Int32) : Nat → Int32
  | 0 => x
  | n + 1 => goF g G p (iterG g G p i x n) i
def iterH (g : Nat → Int32) (G p i : Nat) : Nat → Int32 → Int32
  | 0, x => x
  | n + 1, x => if x ||| goF g G p x i = x then x else iterH g G p i n (x ||| goF g G p x i)
def repF (g : Nat → Int32) (G p i : Nat) (lo hi : Int32) : Int32 := iterH g G p i (if hi = -1 then nI G else hi - lo).toNatClampNeg (iterG g G p i (1 <<< (nI i &&& 31)) lo.toNatClampNeg)
def fcF (Bw : Ro) (G k i : Nat) (g : Nat → Int32) : Int32 :=
  if Bw 228 k = 0 then chF g G i 0 (chL (Bw 233) 100 (Bw 232 k)) 0
  else if Bw 228 k = 1 then rowF g G i (chL (Bw 233) 100 (Bw 232 k)) (1 <<< (nI i &&& 31))
  else if Bw 228 k = 2 then repF g G (Bw 232 k).toNatClampNeg i (Bw 229 k) (Bw 230 k)
  else if Bw 228 k = 3 then 1 <<< (nI i &&& 31) ||| goF g G (Bw 232 k).toNatClampNeg (1 <<< (nI i &&& 31)) i
  else if Bw 228 k = 4 then (if Bw 231 k < 0 then 0 else chF g G i 0 (chL (Bw 233) 100 (Bw 227 (Bw 231 k).toNatClampNeg)) 0)
  else g (25 * k + i)
def IY (cy : Nat → ClassId) (ad : Nat → Nat) (I : Nat) (inp : Nat → Int32) (m0 : Nat → va_E) : Prop := m0 3 = .inr (0, [.ref (ad 4), .int (nI I)]) ∧ I ≤ 24 ∧ m0 4 = .inl (cy 0, 24, .inl inp)
theorem IY.ix {cy : Nat → ClassId} {ad : Nat → Nat} {I : Nat} {inp : Nat → Int32} {m0 : Nat → va_E} (h : IY cy ad I inp m0) : IX cy ad I m0 := ⟨h.1, h.2.1, inp, h.2.2⟩
/-- the elements' cells, by rows -/
def EM (cy : Nat → ClassId) (ad : Nat → Nat) (rc ec : Nat) (Bw : Ro) (g : Nat → Int32) (mem : Nat → va_E) : Prop :=
  (∀ k, k < ec → mem (20 + 2 * k) = .inr (2, [.int (Bw 228 k), .int (Bw 229 k), .int (Bw 230 k), vR ad (Bw 231 k), vE ad (Bw 232 k), vE ad (Bw 233 k), .ref (ad (21 + 2 * k))]) ∧ cl rc (Bw 231 k) ∧ lk ec k (Bw 232 k) ∧ lk ec k (Bw 233 k) ∧ (Bw 228 k = 2 ∨ Bw 228 k = 3 → Bw 232 k ≠ -1) ∧ ∃ g' : Nat → Int32, mem (21 + 2 * k) = .inl (cy 1, 25, .inl g') ∧ ∀ i, i < 25 → g' i = g (25 * k + i)) ∧
  (∀ i, i < rc → cl ec (Bw 227 i) ∧ ∃ (nm : Int64) (w : Value), mem (7 + i) = .inr (5, [.long nm, vE ad (Bw 227 i), w])) ∧
  ∃ S : Nat, S ≤ 240 ∧ mem 220 = .inr (0, [.ref (ad 221), .int (nI S)]) ∧ mem 221 = .inl (cy 0, 240, .inl (Bw 234)) ∧ ∀ k, k < ec → Bw 228 k = 5 ∨ Bw 228 k = 6 → ∃ o t : Nat, Bw 229 k = nI o ∧ Bw 230 k = nI (o + t) ∧ o + t ≤ S
theorem clampN {x : Int32} {m : Nat} (hm : m < 2 ^ 31) : x ≤ nI m ↔ x.toNatClampNeg ≤ m := by
  by_cases h : x < 0
  · constructor
    · intro _
      have : x.toNatClampNeg = 0 := by
        unfold Int32.toNatClampNeg
        have := Int32.lt_iff_toInt_lt.mp h
        have e0 : (0 : Int32).toInt = 0 := by decide
        omega
      omega
    · intro _
      exact Int32.le_trans (Int32.le_of_lt h) (Int32.not_lt.mp (nI_pos hm))
  · obtain ⟨j, hj, rfl⟩ := nI_of h
    rw [nI_clamp hj]
    exact nI_leI hj hm
theorem clamp_lt (x : Int32) : x.toNatClampNeg < 2 ^ 31 := by
  unfold Int32.toNatClampNeg
  have := Int32.toInt_lt x
  omega
set_option maxHeartbeats 4000000 in
set_option maxRecDepth 100000 in
theorem m_Ct_goOnXN (l : Launch) {D : va_G} {cy : Nat → ClassId} {sz n : Nat} {ad : Nat → Nat} {mem : Nat → va_E} {I lim rc ec : Nat} {wh fl : Int32} {m0 : Nat → va_E} {Bw : Ro} {g inp : Nat → Int32} {pl : Int32} {i0 : Nat} (hn : 224 ≤ n) (hY : IY cy ad I inp m0) (hC : CS cy ad lim rc ec wh fl m0 mem) (hE : EM cy ad rc ec Bw g mem) (hi0 : i0 ≤ I) : MI l D cy sz n ad y_Ct_goOn c_Ct_goOn 6 (some .int) ({ frames := 0, cells := 0, slots := 0, locals := 0 } : Room) mem [.ref (ad 223), .int (pl), .null, .int (nI i0)] (fun r mem' => mem' = mem ∧ r = 0) := by
  refine Met.ofW (cc := c_Ct_goOn) (maxL := 6) (ret := (some .int)) (by decide) rfl ?_
  intro p e s m args below meth c s₁ B hml hv
  obtain ⟨rfl, E, hP, hD⟩ := hv
  have hx := B.exec
  have hb := B.bytes
  have hr := B.returns
  have hlocks := B.notSynchronized
  have Bx : MB p s m [.ref (ad 223), .int (pl), .null, .int (nI i0)].toArray c c_Ct_goOn "AbnfChart$Chart" D cy := ⟨hx, hb, tb_all (atoms_spec B.pre) E.2.1, findClass_of_methodNamed B.named, E.1⟩
  have hS : va_S (Az sz) s.heap s.heap [] := va_S.rf
  have hl := lv_entry ([.ref (ad 223), .int (pl), .null, .int (nI i0)]) (n := 6) (Nat.le_of_ble_eq_true rfl)
  rw [lg_entry_eq]
  generalize (lg_sl ([.ref (ad 223), .int (pl), .null, .int (nI i0)]) ++ List.replicate (6 - (lg_sl ([.ref (ad 223), .int (pl), .null, .int (nI i0)])).length) Slot.unset).toArray = ls at hl ⊢
  have hl : lv_has ls 6 [(0, .ref (ad 223)), (1, .int (pl)), (2, .null), (3, .int (nI i0))] := hl
  have h3_1 : mem 3 = .inr (0, [.ref (ad 4), .int (nI I)]) := (hC.2.2 3 (by omega)).trans hY.1
  have h4_2 : mem 4 = .inl (cy 0, 24, .inl inp) := (hC.2.2 4 (by omega)).trans hY.2.2
  have h223_4 : mem 223 = .inr (1, [.ref (ad 3), .ref (ad 5), .int fl]) := (hC.2.2 223 (by omega)).trans hC.2.1
  have h5_3 := hC.1.2.1
  have hbd10 := hC.1.1
  have hbI11 := hY.2.1
  obtain ⟨S5, hS_6, h220_7, h221_8, hst9⟩ := hE.2.2
  refine lv_aload_nN Bx.1 Bx.2.1 d_Ct_goOn_0 rfl (lv_at hl 2 rfl) ?_
  refine lv_ifnonnullN Bx.1 Bx.2.1 d_Ct_goOn_1 ?_
  refine lv_iconst (v := 0) Bx.1 Bx.2.1 d_Ct_goOn_4 (by decide) ?_
  exact W.iret (v := 0) hx hb hr (fun t ht hW => ⟨⟨0, mem, rfl, ⟨rfl, rfl⟩, by show va_P _ _ _ t.heap; rw [ht]; exact hP⟩, hS.F ht⟩) hS.2.2 d_Ct_goOn_5
set_option maxHeartbeats 4000000 in
set_option maxRecDepth 100000 in
theorem m_Ct_goOnXR (l : Launch) {D : va_G} {cy : Nat → ClassId} {sz n : Nat} {ad : Nat → Nat} {mem : Nat → va_E} {I lim rc ec : Nat} {wh fl : Int32} {m0 : Nat → va_E} {Bw : Ro} {g inp : Nat → Int32} {pl : Int32} {j : Nat} {i0 : Nat} (hn : 224 ≤ n) (hY : IY cy ad I inp m0) (hC : CS cy ad lim rc ec wh fl m0 mem) (hE : EM cy ad rc ec Bw g mem) (hi0 : i0 ≤ I) (hj : j < ec) : MI l D cy sz n ad y_Ct_goOn c_Ct_goOn 6 (some .int) ({ frames := 0, cells := 0, slots := 0, locals := 0 } : Room) mem [.ref (ad 223), .int (pl), .ref (ad (20 + 2 * j)), .int (nI i0)] (fun r mem' => mem' = mem ∧ r = goF g I j pl i0) := by
  refine Met.ofW (cc := c_Ct_goOn) (maxL := 6) (ret := (some .int)) (by decide) rfl ?_
  intro p e s m args below meth c s₁ B hml hv
  obtain ⟨rfl, E, hP, hD⟩ := hv
  have hx := B.exec
  have hb := B.bytes
  have hr := B.returns
  have hlocks := B.notSynchronized
  have Bx : MB p s m [.ref (ad 223), .int (pl), .ref (ad (20 + 2 * j)), .int (nI i0)].toArray c c_Ct_goOn "AbnfChart$Chart" D cy := ⟨hx, hb, tb_all (atoms_spec B.pre) E.2.1, findClass_of_methodNamed B.named, E.1⟩
  have hS : va_S (Az sz) s.heap s.heap [] := va_S.rf
  have hl := lv_entry ([.ref (ad 223), .int (pl), .ref (ad (20 + 2 * j)), .int (nI i0)]) (n := 6) (Nat.le_of_ble_eq_true rfl)
  rw [lg_entry_eq]
  generalize (lg_sl ([.ref (ad 223), .int (pl), .ref (ad (20 + 2 * j)), .int (nI i0)]) ++ List.replicate (6 - (lg_sl ([.ref (ad 223), .int (pl), .ref (ad (20 + 2 * j)), .int (nI i0)])).length) Slot.unset).toArray = ls at hl ⊢
  have hl : lv_has ls 6 [(0, .ref (ad 223)), (1, .int (pl)), (2, .ref (ad (20 + 2 * j))), (3, .int (nI i0))] := hl
  have h3_1 : mem 3 = .inr (0, [.ref (ad 4), .int (nI I)]) := (hC.2.2 3 (by omega)).trans hY.1
  have h4_2 : mem 4 = .inl (cy 0, 24, .inl inp) := (hC.2.2 4 (by omega)).trans hY.2.2
  have h223_4 : mem 223 = .inr (1, [.ref (ad 3), .ref (ad 5), .int fl]) := (hC.2.2 223 (by omega)).trans hC.2.1
  have h5_3 := hC.1.2.1
  have hbd10 := hC.1.1
  have hbI11 := hY.2.1
  obtain ⟨S5, hS_6, h220_7, h221_8, hst9⟩ := hE.2.2
  refine lv_aload_n Bx.1 Bx.2.1 d_Ct_goOn_0 rfl (lv_at hl 2 rfl) ?_
  refine lv_ifnonnull Bx.1 Bx.2.1 d_Ct_goOn_1 rfl ?_
  have he_12 := hE.1 j (by omega)
  refine lv_iconst (v := 0) Bx.1 Bx.2.1 d_Ct_goOn_6 (by decide) ?_
  refine lv_istore (lv' := [(4, .int (0)), (0, .ref (ad 223)), (1, .int (pl)), (2, .ref (ad (20 + 2 * j))), (3, .int (nI i0))]) Bx.1 Bx.2.1 d_Ct_goOn_7 hl (by decide) rfl (fun ls hl => ?_)
  refine lv_iload_n Bx.1 Bx.2.1 d_Ct_goOn_9 rfl (lv_at hl 4 rfl) ?_
  refine lv_istore (lv' := [(5, .int (nI i0)), (4, .int (0)), (0, .ref (ad 223)), (1, .int (pl)), (2, .ref (ad (20 + 2 * j))), (3, .int (nI i0))]) Bx.1 Bx.2.1 d_Ct_goOn_10 hl (by decide) rfl (fun ls hl => ?_)
  have loop13 : ∀ (d14 : Nat) (k : Nat) (en : Int32) (ls : Array Slot) (H : Heap) (locs : List Loc), (I + 1 - k < d14) → (k ≤ I + 1) → (goN g (25 * j) pl (I + 1 - k) k en = goF g I j pl i0) → (va_P D vcl (fw n ad mem) H) → (va_D (Az sz) (fw n ad mem)) → (va_S (Az sz) s.heap H locs) → (lv_has ls 6 [(5, .int (nI k)), (4, .int (en)), (0, .ref (ad 223)), (1, .int (pl)), (2, .ref (ad (20 + 2 * j))), (3, .int (nI i0))]) → W p l e (headSpec (Cond.code y_Ct_goOn c_Ct_goOn 6 (some .int) :: tg) ({ frames := 0, cells := 0, slots := 0, locals := 0 } : Room)).room s m [.ref (ad 223), .int (pl), .ref (ad (20 + 2 * j)), .int (nI i0)].toArray below meth c H locs 0 0 (MQ below (va_Qi (fun r mem' => mem' = mem ∧ r = goF g I j pl i0) (PP D n ad) (Az sz)) [.ref (ad 223), .int (pl), .ref (ad (20 + 2 * j)), .int (nI i0)].toArray s 0 0 (Az sz)) (F0 m 12 ls []) := by
    intro d14
    induction d14 with
    | zero => intro k en ls H locs hmeas18; exact absurd hmeas18 (Nat.not_lt_zero _)
    | succ d14 ih17 =>
      intro k en ls H locs hmeas18 hz15 hz16 hP hD hS hl
      refine lv_iload Bx.1 Bx.2.1 d_Ct_goOn_12 (lv_at hl 0 rfl) ?_
      refine lv_aload_n Bx.1 Bx.2.1 d_Ct_goOn_14 rfl (lv_at hl 2 rfl) ?_
      refine f_get Bx hP (by omega) h223_4 rfl inCt 0 (by decide) kw_164 rfl rfl d_Ct_goOn_15 ?_
      refine f_getN Bx hP (by omega) h3_1 rfl inCh 1 (by decide) kw_35 rfl rfl d_Ct_goOn_18 ?_
      refine lv_icmp_gt Bx.1 Bx.2.1 d_Ct_goOn_21 rfl (fun hb19 => ?_) (fun hb19 => ?_)
      · have hN20 : I < k := (nI_ltI (by omega) (by omega)).mp (show nI (I) < nI (k) from hb19)
        refine lv_iload Bx.1 Bx.2.1 d_Ct_goOn_59 (lv_at hl 1 rfl) ?_
        exact W.iret (v := en) hx hb hr (fun t ht hW => ⟨⟨en, mem, rfl, ⟨rfl, by rw [← hz16, show I + 1 - k = 0 by omega]; rfl⟩, by show va_P _ _ _ t.heap; rw [ht]; exact hP⟩, hS.F ht⟩) hS.2.2 d_Ct_goOn_61
      · have hN21 : ¬ I < k := fun q9 => hb19 (show nI (I) < nI (k) from (nI_ltI (by omega) (by omega)).mpr q9)
        obtain ⟨r6, hr6⟩ : ∃ r6, I + 1 - k = r6 + 1 := ⟨I - k, by omega⟩
        have hgo := hz16
        rw [hr6, goN] at hgo
        refine lv_iload_n Bx.1 Bx.2.1 d_Ct_goOn_24 rfl (lv_at hl 3 rfl) ?_
        refine lv_iload Bx.1 Bx.2.1 d_Ct_goOn_25 (lv_at hl 0 rfl) ?_
        refine lv_ishr Bx.1 Bx.2.1 d_Ct_goOn_27 ?_
        refine lv_if_eq Bx.1 Bx.2.1 d_Ct_goOn_28 rfl (fun hb22 => ?_) (fun hb22 => ?_)
        · rw [if_pos hb22] at hgo
          refine lv_iload Bx.1 Bx.2.1 d_Ct_goOn_59 (lv_at hl 1 rfl) ?_
          exact W.iret (v := en) hx hb hr (fun t ht hW => ⟨⟨en, mem, rfl, ⟨rfl, hgo⟩, by show va_P _ _ _ t.heap; rw [ht]; exact hP⟩, hS.F ht⟩) hS.2.2 d_Ct_goOn_61
        · rw [if_neg hb22] at hgo
          refine lv_iload_n Bx.1 Bx.2.1 d_Ct_goOn_31 rfl (lv_at hl 3 rfl) ?_
          refine lv_iload Bx.1 Bx.2.1 d_Ct_goOn_32 (lv_at hl 0 rfl) ?_
          refine lv_ishr Bx.1 Bx.2.1 d_Ct_goOn_34 ?_
          refine lv_iconst (v := 1) Bx.1 Bx.2.1 d_Ct_goOn_35 (by decide) ?_
          refine lv_iand Bx.1 Bx.2.1 d_Ct_goOn_36 ?_
          refine lv_iconst (v := 1) Bx.1 Bx.2.1 d_Ct_goOn_37 (by decide) ?_
          refine lv_icmp_ne Bx.1 Bx.2.1 d_Ct_goOn_38 rfl (fun hb23 => ?_) (fun hb23 => ?_)
          · rw [if_neg hb23] at hgo
            refine lv_iinc (lv' := [(5, .int ((nI k + (1)))), (4, .int (en)), (0, .ref (ad 223)), (1, .int (pl)), (2, .ref (ad (20 + 2 * j))), (3, .int (nI i0))]) Bx.1 Bx.2.1 d_Ct_goOn_53 hl (k := 0) rfl rfl (by decide) rfl (fun ls hl => ?_)
            rw [show (nI k + (1) : Int32) = nI (k + 1) from nI_1 (k)] at hl
            refine lv_goto Bx.1 Bx.2.1 d_Ct_goOn_56 rfl ?_
            exact ih17 (k + 1) (en) _ _ _ (by have := hmeas18; omega) (by omega) (by rw [show I + 1 - (k + 1) = r6 by omega]; exact hgo) hP hD hS (lv_sub hl [0, 1, 2, 3, 4, 5] rfl)
          · rw [if_pos hb23] at hgo
            refine lv_iload Bx.1 Bx.2.1 d_Ct_goOn_41 (lv_at hl 1 rfl) ?_
            refine lv_aload_n Bx.1 Bx.2.1 d_Ct_goOn_43 rfl (lv_at hl 4 rfl) ?_
            refine f_getN Bx hP (by omega) he_12.1 rfl inEl 6 (by decide) kw_94 rfl rfl d_Ct_goOn_44 ?_
            refine lv_iload Bx.1 Bx.2.1 d_Ct_goOn_47 (lv_at hl 0 rfl) ?_
            obtain ⟨g24, hg25, hge26⟩ := (hE.1 j (by omega)).2.2.2.2.2
            refine f_iald Bx hP (by omega) hg25 (vp_in_nI (n := k) (by omega) (by decide)) d_Ct_goOn_49 ?_
            rw [nI_clamp (n := k) (by omega), hge26 (k) (by omega)]
            refine lv_ior Bx.1 Bx.2.1 d_Ct_goOn_50 ?_
            refine lv_istore (lv' := [(4, .int (en ||| g (25 * j + k))), (5, .int (nI k)), (0, .ref (ad 223)), (1, .int (pl)), (2, .ref (ad (20 + 2 * j))), (3, .int (nI i0))]) Bx.1 Bx.2.1 d_Ct_goOn_51 hl (by decide) rfl (fun ls hl => ?_)
            refine lv_iinc (lv' := [(5, .int ((nI k + (1)))), (4, .int (en ||| g (25 * j + k))), (0, .ref (ad 223)), (1, .int (pl)), (2, .ref (ad (20 + 2 * j))), (3, .int (nI i0))]) Bx.1 Bx.2.1 d_Ct_goOn_53 hl (k := 1) rfl rfl (by decide) rfl (fun ls hl => ?_)
            rw [show (nI k + (1) : Int32) = nI (k + 1) from nI_1 (k)] at hl
            refine lv_goto Bx.1 Bx.2.1 d_Ct_goOn_56 rfl ?_
            exact ih17 (k + 1) (en ||| g (25 * j + k)) _ _ _ (by have := hmeas18; omega) (by omega) (by rw [show I + 1 - (k + 1) = r6 by omega]; exact hgo) hP hD hS (lv_sub hl [0, 1, 2, 3, 4, 5] rfl)
  exact loop13 _ (i0) (0) _ _ _ (Nat.lt_succ_self _) (by omega) (rfl) hP hD hS (lv_sub hl [0, 1, 2, 3, 4, 5] rfl)
theorem chL_m (nx : Nat → Int32) (n : Nat) : chL nx n (-1) = [] := by
  cases n with
  | zero => rfl
  | succ n => rw [chL, if_pos (by decide)]
theorem chL_n {nx : Nat → Int32} {n j : Nat} (h : j < 2 ^ 31) : chL nx (n + 1) (nI j) = j :: chL nx n (nx j) := by rw [chL, if_neg (nI_pos h), nI_clamp h]
theorem lk.val {E k : Nat} {v : Int32} (h : lk E k v) (hE : E ≤ 100) (ad : Nat → Nat) : (v = -1 ∧ vE ad v = .null) ∨ ∃ j, k < j ∧ j < E ∧ v = nI j ∧ vE ad v = .ref (ad (20 + 2 * j)) := by
  rcases h with rfl | ⟨j, h1, h2, rfl⟩
  · exact Or.inl ⟨rfl, vE_m ad⟩
  · exact Or.inr ⟨j, h1, h2, rfl, vE_n ad (by omega)⟩
theorem cl.val {E : Nat} {v : Int32} (h : cl E v) (hE : E ≤ 100) (ad : Nat → Nat) : (v = -1 ∧ vE ad v = .null) ∨ ∃ j, j < E ∧ v = nI j ∧ vE ad v = .ref (ad (20 + 2 * j)) := by
  rcases h with rfl | ⟨j, h2, rfl⟩
  · exact Or.inl ⟨rfl, vE_m ad⟩
  · exact Or.inr ⟨j, h2, rfl, vE_n ad (by omega)⟩
set_option maxHeartbeats 4000000 in
set_option maxRecDepth 100000 in
theorem m_Ct_endsOfAnyXN (l : Launch) {D : va_G} {cy : Nat → ClassId} {sz n : Nat} {ad : Nat → Nat} {mem : Nat → va_E} {I lim rc ec : Nat} {wh fl : Int32} {m0 : Nat → va_E} {Bw : Ro} {g inp : Nat → Int32} {i0 : Nat} (hn : 224 ≤ n) (hY : IY cy ad I inp m0) (hC : CS cy ad lim rc ec wh fl m0 mem) (hE : EM cy ad rc ec Bw g mem) (hi0 : i0 ≤ I) : MI l D cy sz n ad y_Ct_endsOfAny c_Ct_endsOfAny 5 (some .int) ({ frames := 0, cells := 0, slots := 0, locals := 0 } : Room) mem [.ref (ad 223), .null, .int (nI i0)] (fun r mem' => mem' = mem ∧ r = 0) := by
  refine Met.ofW (cc := c_Ct_endsOfAny) (maxL := 5) (ret := (some .int)) (by decide) rfl ?_
  intro p e s m args below meth c s₁ B hml hv
  obtain ⟨rfl, E, hP, hD⟩ := hv
  have hx := B.exec
  have hb := B.bytes
  have hr := B.returns
  have hlocks := B.notSynchronized
  have Bx : MB p s m [.ref (ad 223), .null, .int (nI i0)].toArray c c_Ct_endsOfAny "AbnfChart$Chart" D cy := ⟨hx, hb, tb_all (atoms_spec B.pre) E.2.1, findClass_of_methodNamed B.named, E.1⟩
  have hS : va_S (Az sz) s.heap s.heap [] := va_S.rf
  have hl := lv_entry ([.ref (ad 223), .null, .int (nI i0)]) (n := 5) (Nat.le_of_ble_eq_true rfl)
  rw [lg_entry_eq]
  generalize (lg_sl ([.ref (ad 223), .null, .int (nI i0)]) ++ List.replicate (5 - (lg_sl ([.ref (ad 223), .null, .int (nI i0)])).length) Slot.unset).toArray = ls at hl ⊢
  have hl : lv_has ls 5 [(0, .ref (ad 223)), (1, .null), (2, .int (nI i0))] := hl
  have h3_1 : mem 3 = .inr (0, [.ref (ad 4), .int (nI I)]) := (hC.2.2 3 (by omega)).trans hY.1
  have h4_2 : mem 4 = .inl (cy 0, 24, .inl inp) := (hC.2.2 4 (by omega)).trans hY.2.2
  have h223_4 : mem 223 = .inr (1, [.ref (ad 3), .ref (ad 5), .int fl]) := (hC.2.2 223 (by omega)).trans hC.2.1
  have h5_3 := hC.1.2.1
  have hbd10 := hC.1.1
  have hbI11 := hY.2.1
  obtain ⟨S5, hS_6, h220_7, h221_8, hst9⟩ := hE.2.2
  refine lv_iconst (v := 0) Bx.1 Bx.2.1 d_Ct_endsOfAny_0 (by decide) ?_
  refine lv_istore_n (lv' := [(3, .int (0)), (0, .ref (ad 223)), (1, .null), (2, .int (nI i0))]) Bx.1 Bx.2.1 d_Ct_endsOfAny_1 rfl hl (by decide) rfl (fun ls hl => ?_)
  refine lv_aload_nN Bx.1 Bx.2.1 d_Ct_endsOfAny_2 rfl (lv_at hl 2 rfl) ?_
  refine lv_astoreN (lv' := [(4, .null), (3, .int (0)), (0, .ref (ad 223)), (1, .null), (2, .int (nI i0))]) Bx.1 Bx.2.1 d_Ct_endsOfAny_3 hl (by decide) rfl (fun ls hl => ?_)
  refine lv_aloadN Bx.1 Bx.2.1 d_Ct_endsOfAny_5 (lv_at hl 0 rfl) ?_
  refine lv_ifnullN Bx.1 Bx.2.1 d_Ct_endsOfAny_7 rfl ?_
  refine lv_iload_n Bx.1 Bx.2.1 d_Ct_endsOfAny_30 rfl (lv_at hl 1 rfl) ?_
  exact W.iret (v := 0) hx hb hr (fun t ht hW => ⟨⟨0, mem, rfl, ⟨rfl, rfl⟩, by show va_P _ _ _ t.heap; rw [ht]; exact hP⟩, hS.F ht⟩) hS.2.2 d_Ct_endsOfAny_31
set_option maxHeartbeats 4000000 in
set_option maxRecDepth 100000 in
theorem m_Ct_endsOfAnyXR (l : Launch) {D : va_G} {cy : Nat → ClassId} {sz n : Nat} {ad : Nat → Nat} {mem : Nat → va_E} {I lim rc ec : Nat} {wh fl : Int32} {m0 : Nat → va_E} {Bw : Ro} {g inp : Nat → Int32} {j0 : Nat} {i0 : Nat} (hn : 224 ≤ n) (hY : IY cy ad I inp m0) (hC : CS cy ad lim rc ec wh fl m0 mem) (hE : EM cy ad rc ec Bw g mem) (hi0 : i0 ≤ I) (hj0 : j0 < ec) : MI l D cy sz n ad y_Ct_endsOfAny c_Ct_endsOfAny 5 (some .int) ({ frames := 0, cells := 0, slots := 0, locals := 0 } : Room) mem [.ref (ad 223), .ref (ad (20 + 2 * j0)), .int (nI i0)] (fun r mem' => mem' = mem ∧ r = chF g I i0 0 (chL (Bw 233) 100 (nI j0)) (0)) := by
  refine Met.ofW (cc := c_Ct_endsOfAny) (maxL := 5) (ret := (some .int)) (by decide) rfl ?_
  intro p e s m args below meth c s₁ B hml hv
  obtain ⟨rfl, E, hP, hD⟩ := hv
  have hx := B.exec
  have hb := B.bytes
  have hr := B.returns
  have hlocks := B.notSynchronized
  have Bx : MB p s m [.ref (ad 223), .ref (ad (20 + 2 * j0)), .int (nI i0)].toArray c c_Ct_endsOfAny "AbnfChart$Chart" D cy := ⟨hx, hb, tb_all (atoms_spec B.pre) E.2.1, findClass_of_methodNamed B.named, E.1⟩
  have hS : va_S (Az sz) s.heap s.heap [] := va_S.rf
  have hl := lv_entry ([.ref (ad 223), .ref (ad (20 + 2 * j0)), .int (nI i0)]) (n := 5) (Nat.le_of_ble_eq_true rfl)
  rw [lg_entry_eq]
  generalize (lg_sl ([.ref (ad 223), .ref (ad (20 + 2 * j0)), .int (nI i0)]) ++ List.replicate (5 - (lg_sl ([.ref (ad 223), .ref (ad (20 + 2 * j0)), .int (nI i0)])).length) Slot.unset).toArray = ls at hl ⊢
  have hl : lv_has ls 5 [(0, .ref (ad 223)), (1, .ref (ad (20 + 2 * j0))), (2, .int (nI i0))] := hl
  have h3_1 : mem 3 = .inr (0, [.ref (ad 4), .int (nI I)]) := (hC.2.2 3 (by omega)).trans hY.1
  have h4_2 : mem 4 = .inl (cy 0, 24, .inl inp) := (hC.2.2 4 (by omega)).trans hY.2.2
  have h223_4 : mem 223 = .inr (1, [.ref (ad 3), .ref (ad 5), .int fl]) := (hC.2.2 223 (by omega)).trans hC.2.1
  have h5_3 := hC.1.2.1
  have hbd10 := hC.1.1
  have hbI11 := hY.2.1
  obtain ⟨S5, hS_6, h220_7, h221_8, hst9⟩ := hE.2.2
  refine lv_iconst (v := 0) Bx.1 Bx.2.1 d_Ct_endsOfAny_0 (by decide) ?_
  refine lv_istore_n (lv' := [(3, .int (0)), (0, .ref (ad 223)), (1, .ref (ad (20 + 2 * j0))), (2, .int (nI i0))]) Bx.1 Bx.2.1 d_Ct_endsOfAny_1 rfl hl (by decide) rfl (fun ls hl => ?_)
  refine lv_aload_n Bx.1 Bx.2.1 d_Ct_endsOfAny_2 rfl (lv_at hl 2 rfl) ?_
  refine lv_astore (lv' := [(4, .ref (ad (20 + 2 * j0))), (3, .int (0)), (0, .ref (ad 223)), (1, .ref (ad (20 + 2 * j0))), (2, .int (nI i0))]) Bx.1 Bx.2.1 d_Ct_endsOfAny_3 hl (by decide) rfl (fun ls hl => ?_)
  have loop12 : ∀ (d13 : Nat) (lo : Nat) (en : Int32) (y : Int32) (nf : Nat) (ls : Array Slot) (H : Heap) (locs : List Loc), (ec - lo < d13) → (y = -1 ∨ ∃ j, lo ≤ j ∧ j < ec ∧ y = nI j) → (chF g I i0 0 (chL (Bw 233) nf y) (en) = chF g I i0 0 (chL (Bw 233) 100 (nI j0)) (0)) → (100 ≤ nf + lo) → (va_P D vcl (fw n ad mem) H) → (va_D (Az sz) (fw n ad mem)) → (va_S (Az sz) s.heap H locs) → (lv_has ls 5 [(4, vE ad y), (3, .int (en)), (0, .ref (ad 223)), (2, .int (nI i0))]) → W p l e (headSpec (Cond.code y_Ct_endsOfAny c_Ct_endsOfAny 5 (some .int) :: tg) ({ frames := 0, cells := 0, slots := 0, locals := 0 } : Room)).room s m [.ref (ad 223), .ref (ad (20 + 2 * j0)), .int (nI i0)].toArray below meth c H locs 0 0 (MQ below (va_Qi (fun r mem' => mem' = mem ∧ r = chF g I i0 0 (chL (Bw 233) 100 (nI j0)) (0)) (PP D n ad) (Az sz)) [.ref (ad 223), .ref (ad (20 + 2 * j0)), .int (nI i0)].toArray s 0 0 (Az sz)) (F0 m 5 ls []) := by
    intro d13
    induction d13 with
    | zero => intro lo en y nf ls H locs hmeas18; exact absurd hmeas18 (Nat.not_lt_zero _)
    | succ d13 ih17 =>
      intro lo en y nf ls H locs hmeas18 hz14 hz15 hz16 hP hD hS hl
      rcases hz14 with hv | ⟨j, hj1, hj2, hv⟩
      · subst hv
        rw [vE_m] at hl
        refine lv_aloadN Bx.1 Bx.2.1 d_Ct_endsOfAny_5 (lv_at hl 0 rfl) ?_
        refine lv_ifnullN Bx.1 Bx.2.1 d_Ct_endsOfAny_7 rfl ?_
        refine lv_iload_n Bx.1 Bx.2.1 d_Ct_endsOfAny_30 rfl (lv_at hl 1 rfl) ?_
        exact W.iret (v := en) hx hb hr (fun t ht hW => ⟨⟨en, mem, rfl, ⟨rfl, by rw [← hz15, chL_m]; rfl⟩, by show va_P _ _ _ t.heap; rw [ht]; exact hP⟩, hS.F ht⟩) hS.2.2 d_Ct_endsOfAny_31
      · subst hv
        obtain ⟨n6, hn6⟩ : ∃ n6, nf = n6 + 1 := ⟨nf - 1, by omega⟩
        have hfo := hz15
        rw [hn6, chL_n (by omega)] at hfo
        rw [vE_n ad (by omega)] at hl
        refine lv_aload Bx.1 Bx.2.1 d_Ct_endsOfAny_5 (lv_at hl 0 rfl) ?_
        refine lv_ifnull Bx.1 Bx.2.1 d_Ct_endsOfAny_7 ?_
        have he_19 := hE.1 j (by omega)
        refine lv_iload_n Bx.1 Bx.2.1 d_Ct_endsOfAny_10 rfl (lv_at hl 1 rfl) ?_
        refine lv_aload Bx.1 Bx.2.1 d_Ct_endsOfAny_11 (lv_at hl 0 rfl) ?_
        refine f_getN Bx hP (by omega) he_19.1 rfl inEl 6 (by decide) kw_94 rfl rfl d_Ct_endsOfAny_13 ?_
        refine lv_iload_n Bx.1 Bx.2.1 d_Ct_endsOfAny_16 rfl (lv_at hl 3 rfl) ?_
        obtain ⟨g20, hg21, hge22⟩ := (hE.1 j (by omega)).2.2.2.2.2
        refine f_iald Bx hP (by omega) hg21 (vp_in_nI (n := i0) (by omega) (by decide)) d_Ct_endsOfAny_17 ?_
        rw [nI_clamp (n := i0) (by omega), hge22 (i0) (by omega)]
        refine lv_ior Bx.1 Bx.2.1 d_Ct_endsOfAny_18 ?_
        refine lv_istore_n (lv' := [(3, .int (en ||| g (25 * j + i0))), (4, .ref (ad (20 + 2 * j))), (0, .ref (ad 223)), (2, .int (nI i0))]) Bx.1 Bx.2.1 d_Ct_endsOfAny_19 rfl hl (by decide) rfl (fun ls hl => ?_)
        refine lv_aload Bx.1 Bx.2.1 d_Ct_endsOfAny_20 (lv_at hl 1 rfl) ?_
        refine f_getN Bx hP (by omega) he_19.1 rfl inEl 5 (by decide) kw_92 rfl rfl d_Ct_endsOfAny_22 ?_
        rcases he_19.2.2.2.1.val (by omega) ad with ⟨hv, hw⟩ | ⟨j2, hk1, hk2, hv, hw⟩
        · rw [hw]
          refine lv_astoreN (lv' := [(4, .null), (3, .int (en ||| g (25 * j + i0))), (0, .ref (ad 223)), (2, .int (nI i0))]) Bx.1 Bx.2.1 d_Ct_endsOfAny_25 hl (by decide) rfl (fun ls hl => ?_)
          refine lv_goto Bx.1 Bx.2.1 d_Ct_endsOfAny_27 rfl ?_
          exact ih17 (j + 1) (en ||| g (25 * j + i0)) (-1) (n6) _ _ _ (by have := hmeas18; omega) (Or.inl rfl) (by rw [hv] at hfo; exact hfo) (by omega) hP hD hS (by rw [vE_m]; exact (lv_sub hl [0, 1, 2, 3] rfl))
        · rw [hw]
          refine lv_astore (lv' := [(4, .ref (ad (20 + 2 * j2))), (3, .int (en ||| g (25 * j + i0))), (0, .ref (ad 223)), (2, .int (nI i0))]) Bx.1 Bx.2.1 d_Ct_endsOfAny_25 hl (by decide) rfl (fun ls hl => ?_)
          refine lv_goto Bx.1 Bx.2.1 d_Ct_endsOfAny_27 rfl ?_
          exact ih17 (j + 1) (en ||| g (25 * j + i0)) (nI j2) (n6) _ _ _ (by have := hmeas18; omega) (Or.inr ⟨j2, by omega, hk2, rfl⟩) (by rw [hv] at hfo; exact hfo) (by omega) hP hD hS (by rw [vE_n ad (by omega)]; exact (lv_sub hl [0, 1, 2, 3] rfl))
  exact loop12 _ (0) (0) (nI j0) (100) _ _ _ (Nat.lt_succ_self _) (Or.inr ⟨j0, by omega, hj0, rfl⟩) (rfl) (by omega) hP hD hS (by rw [vE_n ad (by omega)]; exact (lv_sub hl [0, 1, 2, 4] rfl))
theorem m_Ct_endsOfAnyX (l : Launch) {D : va_G} {cy : Nat → ClassId} {sz n : Nat} {ad : Nat → Nat} {mem : Nat → va_E} {I lim rc ec : Nat} {wh fl : Int32} {m0 : Nat → va_E} {Bw : Ro} {g inp : Nat → Int32} {x : Int32} {i0 : Nat} (hn : 224 ≤ n) (hY : IY cy ad I inp m0) (hC : CS cy ad lim rc ec wh fl m0 mem) (hE : EM cy ad rc ec Bw g mem) (hi0 : i0 ≤ I) (hx : cl ec x) : MI l D cy sz n ad y_Ct_endsOfAny c_Ct_endsOfAny 5 (some .int) ({ frames := 0, cells := 0, slots := 0, locals := 0 } : Room) mem [.ref (ad 223), vE ad x, .int (nI i0)] (fun r mem' => mem' = mem ∧ r = chF g I i0 0 (chL (Bw 233) 100 x) (0)) := by
  have hbd := hC.1.1
  rcases hx with rfl | ⟨j, hj, rfl⟩
  · rw [vE_m, chL_m]
    exact m_Ct_endsOfAnyXN l hn hY hC hE hi0
  · rw [vE_n ad (by omega)]
    exact m_Ct_endsOfAnyXR l hn hY hC hE hi0 hj
set_option maxHeartbeats 4000000 in
set_option maxRecDepth 100000 in
theorem m_Ct_endsOfRowXN (l : Launch) {D : va_G} {cy : Nat → ClassId} {sz n : Nat} {ad : Nat → Nat} {mem : Nat → va_E} {I lim rc ec : Nat} {wh fl : Int32} {m0 : Nat → va_E} {Bw : Ro} {g inp : Nat → Int32} {i0 : Nat} (hn : 224 ≤ n) (hY : IY cy ad I inp m0) (hC : CS cy ad lim rc ec wh fl m0 mem) (hE : EM cy ad rc ec Bw g mem) (hi0 : i0 ≤ I) : MI l D cy sz n ad y_Ct_endsOfRow c_Ct_endsOfRow 5 (some .int) ({ frames := 1, cells := 0, slots := 0, locals := 30 } : Room) mem [.ref (ad 223), .null, .int (nI i0)] (fun r mem' => mem' = mem ∧ r = 1 <<< (nI i0 &&& 31)) := by
  refine Met.ofW (cc := c_Ct_endsOfRow) (maxL := 5) (ret := (some .int)) (by decide) rfl ?_
  intro p e s m args below meth c s₁ B hml hv
  obtain ⟨rfl, E, hP, hD⟩ := hv
  have hx := B.exec
  have hb := B.bytes
  have hr := B.returns
  have hlocks := B.notSynchronized
  have Bx : MB p s m [.ref (ad 223), .null, .int (nI i0)].toArray c c_Ct_endsOfRow "AbnfChart$Chart" D cy := ⟨hx, hb, tb_all (atoms_spec B.pre) E.2.1, findClass_of_methodNamed B.named, E.1⟩
  have hS : va_S (Az sz) s.heap s.heap [] := va_S.rf
  have hl := lv_entry ([.ref (ad 223), .null, .int (nI i0)]) (n := 5) (Nat.le_of_ble_eq_true rfl)
  rw [lg_entry_eq]
  generalize (lg_sl ([.ref (ad 223), .null, .int (nI i0)]) ++ List.replicate (5 - (lg_sl ([.ref (ad 223), .null, .int (nI i0)])).length) Slot.unset).toArray = ls at hl ⊢
  have hl : lv_has ls 5 [(0, .ref (ad 223)), (1, .null), (2, .int (nI i0))] := hl
  have h3_1 : mem 3 = .inr (0, [.ref (ad 4), .int (nI I)]) := (hC.2.2 3 (by omega)).trans hY.1
  have h4_2 : mem 4 = .inl (cy 0, 24, .inl inp) := (hC.2.2 4 (by omega)).trans hY.2.2
  have h223_4 : mem 223 = .inr (1, [.ref (ad 3), .ref (ad 5), .int fl]) := (hC.2.2 223 (by omega)).trans hC.2.1
  have h5_3 := hC.1.2.1
  have hbd10 := hC.1.1
  have hbI11 := hY.2.1
  obtain ⟨S5, hS_6, h220_7, h221_8, hst9⟩ := hE.2.2
  refine lv_iconst (v := 1) Bx.1 Bx.2.1 d_Ct_endsOfRow_0 (by decide) ?_
  refine lv_iload_n Bx.1 Bx.2.1 d_Ct_endsOfRow_1 rfl (lv_at hl 2 rfl) ?_
  refine lv_ishl Bx.1 Bx.2.1 d_Ct_endsOfRow_2 ?_
  refine lv_istore_n (lv' := [(3, .int ((1) <<< ((nI i0) &&& 31))), (0, .ref (ad 223)), (1, .null), (2, .int (nI i0))]) Bx.1 Bx.2.1 d_Ct_endsOfRow_3 rfl hl (by decide) rfl (fun ls hl => ?_)
  refine lv_aload_nN Bx.1 Bx.2.1 d_Ct_endsOfRow_4 rfl (lv_at hl 2 rfl) ?_
  refine lv_astoreN (lv' := [(4, .null), (3, .int ((1) <<< ((nI i0) &&& 31))), (0, .ref (ad 223)), (1, .null), (2, .int (nI i0))]) Bx.1 Bx.2.1 d_Ct_endsOfRow_5 hl (by decide) rfl (fun ls hl => ?_)
  refine lv_aloadN Bx.1 Bx.2.1 d_Ct_endsOfRow_7 (lv_at hl 0 rfl) ?_
  refine lv_ifnullN Bx.1 Bx.2.1 d_Ct_endsOfRow_9 rfl ?_
  refine lv_iload_n Bx.1 Bx.2.1 d_Ct_endsOfRow_31 rfl (lv_at hl 1 rfl) ?_
  exact W.iret (v := (1) <<< ((nI i0) &&& 31)) hx hb hr (fun t ht hW => ⟨⟨(1) <<< ((nI i0) &&& 31), mem, rfl, ⟨rfl, rfl⟩, by show va_P _ _ _ t.heap; rw [ht]; exact hP⟩, hS.F ht⟩) hS.2.2 d_Ct_endsOfRow_32
set_option maxHeartbeats 4000000 in
set_option maxRecDepth 100000 in
theorem m_Ct_endsOfRowXR (l : Launch) {D : va_G} {cy : Nat → ClassId} {sz n : Nat} {ad : Nat → Nat} {mem : Nat → va_E} {I lim rc ec : Nat} {wh fl : Int32} {m0 : Nat → va_E} {Bw : Ro} {g inp : Nat → Int32} {j0 : Nat} {i0 : Nat} (hn : 224 ≤ n) (hY : IY cy ad I inp m0) (hC : CS cy ad lim rc ec wh fl m0 mem) (hE : EM cy ad rc ec Bw g mem) (hi0 : i0 ≤ I) (hj0 : j0 < ec) : MI l D cy sz n ad y_Ct_endsOfRow c_Ct_endsOfRow 5 (some .int) ({ frames := 1, cells := 0, slots := 0, locals := 30 } : Room) mem [.ref (ad 223), .ref (ad (20 + 2 * j0)), .int (nI i0)] (fun r mem' => mem' = mem ∧ r = rowF g I i0 (chL (Bw 233) 100 (nI j0)) (1 <<< (nI i0 &&& 31))) := by
  refine Met.ofW (cc := c_Ct_endsOfRow) (maxL := 5) (ret := (some .int)) (by decide) rfl ?_
  intro p e s m args below meth c s₁ B hml hv
  obtain ⟨rfl, E, hP, hD⟩ := hv
  have hx := B.exec
  have hb := B.bytes
  have hr := B.returns
  have hlocks := B.notSynchronized
  have Bx : MB p s m [.ref (ad 223), .ref (ad (20 + 2 * j0)), .int (nI i0)].toArray c c_Ct_endsOfRow "AbnfChart$Chart" D cy := ⟨hx, hb, tb_all (atoms_spec B.pre) E.2.1, findClass_of_methodNamed B.named, E.1⟩
  have hS : va_S (Az sz) s.heap s.heap [] := va_S.rf
  have hl := lv_entry ([.ref (ad 223), .ref (ad (20 + 2 * j0)), .int (nI i0)]) (n := 5) (Nat.le_of_ble_eq_true rfl)
  rw [lg_entry_eq]
  generalize (lg_sl ([.ref (ad 223), .ref (ad (20 + 2 * j0)), .int (nI i0)]) ++ List.replicate (5 - (lg_sl ([.ref (ad 223), .ref (ad (20 + 2 * j0)), .int (nI i0)])).length) Slot.unset).toArray = ls at hl ⊢
  have hl : lv_has ls 5 [(0, .ref (ad 223)), (1, .ref (ad (20 + 2 * j0))), (2, .int (nI i0))] := hl
  have h3_1 : mem 3 = .inr (0, [.ref (ad 4), .int (nI I)]) := (hC.2.2 3 (by omega)).trans hY.1
  have h4_2 : mem 4 = .inl (cy 0, 24, .inl inp) := (hC.2.2 4 (by omega)).trans hY.2.2
  have h223_4 : mem 223 = .inr (1, [.ref (ad 3), .ref (ad 5), .int fl]) := (hC.2.2 223 (by omega)).trans hC.2.1
  have h5_3 := hC.1.2.1
  have hbd10 := hC.1.1
  have hbI11 := hY.2.1
  obtain ⟨S5, hS_6, h220_7, h221_8, hst9⟩ := hE.2.2
  refine lv_iconst (v := 1) Bx.1 Bx.2.1 d_Ct_endsOfRow_0 (by decide) ?_
  refine lv_iload_n Bx.1 Bx.2.1 d_Ct_endsOfRow_1 rfl (lv_at hl 2 rfl) ?_
  refine lv_ishl Bx.1 Bx.2.1 d_Ct_endsOfRow_2 ?_
  refine lv_istore_n (lv' := [(3, .int ((1) <<< ((nI i0) &&& 31))), (0, .ref (ad 223)), (1, .ref (ad (20 + 2 * j0))), (2, .int (nI i0))]) Bx.1 Bx.2.1 d_Ct_endsOfRow_3 rfl hl (by decide) rfl (fun ls hl => ?_)
  refine lv_aload_n Bx.1 Bx.2.1 d_Ct_endsOfRow_4 rfl (lv_at hl 2 rfl) ?_
  refine lv_astore (lv' := [(4, .ref (ad (20 + 2 * j0))), (3, .int ((1) <<< ((nI i0) &&& 31))), (0, .ref (ad 223)), (1, .ref (ad (20 + 2 * j0))), (2, .int (nI i0))]) Bx.1 Bx.2.1 d_Ct_endsOfRow_5 hl (by decide) rfl (fun ls hl => ?_)
  have loop12 : ∀ (d13 : Nat) (lo : Nat) (en : Int32) (y : Int32) (nf : Nat) (ls : Array Slot) (H : Heap) (locs : List Loc), (ec - lo < d13) → (y = -1 ∨ ∃ j, lo ≤ j ∧ j < ec ∧ y = nI j) → (rowF g I i0 (chL (Bw 233) nf y) (en) = rowF g I i0 (chL (Bw 233) 100 (nI j0)) (1 <<< (nI i0 &&& 31))) → (100 ≤ nf + lo) → (va_P D vcl (fw n ad mem) H) → (va_D (Az sz) (fw n ad mem)) → (va_S (Az sz) s.heap H locs) → (lv_has ls 5 [(4, vE ad y), (3, .int (en)), (0, .ref (ad 223)), (2, .int (nI i0))]) → W p l e (headSpec (Cond.code y_Ct_endsOfRow c_Ct_endsOfRow 5 (some .int) :: tg) ({ frames := 1, cells := 0, slots := 0, locals := 30 } : Room)).room s m [.ref (ad 223), .ref (ad (20 + 2 * j0)), .int (nI i0)].toArray below meth c H locs 0 0 (MQ below (va_Qi (fun r mem' => mem' = mem ∧ r = rowF g I i0 (chL (Bw 233) 100 (nI j0)) (1 <<< (nI i0 &&& 31))) (PP D n ad) (Az sz)) [.ref (ad 223), .ref (ad (20 + 2 * j0)), .int (nI i0)].toArray s 0 0 (Az sz)) (F0 m 7 ls []) := by
    intro d13
    induction d13 with
    | zero => intro lo en y nf ls H locs hmeas18; exact absurd hmeas18 (Nat.not_lt_zero _)
    | succ d13 ih17 =>
      intro lo en y nf ls H locs hmeas18 hz14 hz15 hz16 hP hD hS hl
      rcases hz14 with hv | ⟨j, hj1, hj2, hv⟩
      · subst hv
        rw [vE_m] at hl
        refine lv_aloadN Bx.1 Bx.2.1 d_Ct_endsOfRow_7 (lv_at hl 0 rfl) ?_
        refine lv_ifnullN Bx.1 Bx.2.1 d_Ct_endsOfRow_9 rfl ?_
        refine lv_iload_n Bx.1 Bx.2.1 d_Ct_endsOfRow_31 rfl (lv_at hl 1 rfl) ?_
        exact W.iret (v := en) hx hb hr (fun t ht hW => ⟨⟨en, mem, rfl, ⟨rfl, by rw [← hz15, chL_m]; rfl⟩, by show va_P _ _ _ t.heap; rw [ht]; exact hP⟩, hS.F ht⟩) hS.2.2 d_Ct_endsOfRow_32
      · subst hv
        obtain ⟨n6, hn6⟩ : ∃ n6, nf = n6 + 1 := ⟨nf - 1, by omega⟩
        have hfo := hz15
        rw [hn6, chL_n (by omega)] at hfo
        rw [vE_n ad (by omega)] at hl
        refine lv_aload Bx.1 Bx.2.1 d_Ct_endsOfRow_7 (lv_at hl 0 rfl) ?_
        refine lv_ifnull Bx.1 Bx.2.1 d_Ct_endsOfRow_9 ?_
        have he_19 := hE.1 j (by omega)
        refine lv_aload_n Bx.1 Bx.2.1 d_Ct_endsOfRow_12 rfl (lv_at hl 2 rfl) ?_
        refine lv_iload_n Bx.1 Bx.2.1 d_Ct_endsOfRow_13 rfl (lv_at hl 1 rfl) ?_
        refine lv_aload Bx.1 Bx.2.1 d_Ct_endsOfRow_14 (lv_at hl 0 rfl) ?_
        refine lv_iload_n Bx.1 Bx.2.1 d_Ct_endsOfRow_16 rfl (lv_at hl 3 rfl) ?_
        refine f_callVi (na := 3) (As := [.int (en), .ref (ad (20 + 2 * j)), .int (nI i0)]) (rest := []) Bx hml E hP hD hS (by omega) h223_4 rfl (m_Ct_goOnXR l hn hY hC hE hi0 hj2) kw_601 kw_603 sel_Ct_goOn kw_7 kw_604 (by decide +kernel) ⟨rfl, rfl⟩ ⟨Nat.le_of_ble_eq_true rfl, Nat.le_of_ble_eq_true rfl⟩ rfl hl.1 (Nat.le_of_ble_eq_true rfl) d_Ct_endsOfRow_17 ⟨Nat.le_of_ble_eq_true rfl, Nat.le_of_ble_eq_true rfl⟩ (fun r20 mem21 H locs hq hP hS => ?_)
        have hD : va_D (Az sz) (fw n ad mem21) := fw_D hD
        obtain ⟨hqe, hv22⟩ := hq
        rw [hqe] at hP hD
        subst hv22
        refine lv_istore_n (lv' := [(3, .int (goF g I j en i0)), (4, .ref (ad (20 + 2 * j))), (0, .ref (ad 223)), (2, .int (nI i0))]) Bx.1 Bx.2.1 d_Ct_endsOfRow_20 rfl hl (by decide) rfl (fun ls hl => ?_)
        refine lv_aload Bx.1 Bx.2.1 d_Ct_endsOfRow_21 (lv_at hl 1 rfl) ?_
        refine f_getN Bx hP (by omega) he_19.1 rfl inEl 5 (by decide) kw_92 rfl rfl d_Ct_endsOfRow_23 ?_
        rcases he_19.2.2.2.1.val (by omega) ad with ⟨hv, hw⟩ | ⟨j2, hk1, hk2, hv, hw⟩
        · rw [hw]
          refine lv_astoreN (lv' := [(4, .null), (3, .int (goF g I j en i0)), (0, .ref (ad 223)), (2, .int (nI i0))]) Bx.1 Bx.2.1 d_Ct_endsOfRow_26 hl (by decide) rfl (fun ls hl => ?_)
          refine lv_goto Bx.1 Bx.2.1 d_Ct_endsOfRow_28 rfl ?_
          exact ih17 (j + 1) (goF g I j en i0) (-1) (n6) _ _ _ (by have := hmeas18; omega) (Or.inl rfl) (by rw [hv] at hfo; exact hfo) (by omega) hP hD hS (by rw [vE_m]; exact (lv_sub hl [0, 1, 2, 3] rfl))
        · rw [hw]
          refine lv_astore (lv' := [(4, .ref (ad (20 + 2 * j2))), (3, .int (goF g I j en i0)), (0, .ref (ad 223)), (2, .int (nI i0))]) Bx.1 Bx.2.1 d_Ct_endsOfRow_26 hl (by decide) rfl (fun ls hl => ?_)
          refine lv_goto Bx.1 Bx.2.1 d_Ct_endsOfRow_28 rfl ?_
          exact ih17 (j + 1) (goF g I j en i0) (nI j2) (n6) _ _ _ (by have := hmeas18; omega) (Or.inr ⟨j2, by omega, hk2, rfl⟩) (by rw [hv] at hfo; exact hfo) (by omega) hP hD hS (by rw [vE_n ad (by omega)]; exact (lv_sub hl [0, 1, 2, 3] rfl))
  exact loop12 _ (0) ((1) <<< ((nI i0) &&& 31)) (nI j0) (100) _ _ _ (Nat.lt_succ_self _) (Or.inr ⟨j0, by omega, hj0, rfl⟩) (rfl) (by omega) hP hD hS (by rw [vE_n ad (by omega)]; exact (lv_sub hl [0, 1, 2, 4] rfl))
theorem m_Ct_endsOfRowX (l : Launch) {D : va_G} {cy : Nat → ClassId} {sz n : Nat} {ad : Nat → Nat} {mem : Nat → va_E} {I lim rc ec : Nat} {wh fl : Int32} {m0 : Nat → va_E} {Bw : Ro} {g inp : Nat → Int32} {x : Int32} {i0 : Nat} (hn : 224 ≤ n) (hY : IY cy ad I inp m0) (hC : CS cy ad lim rc ec wh fl m0 mem) (hE : EM cy ad rc ec Bw g mem) (hi0 : i0 ≤ I) (hx : cl ec x) : MI l D cy sz n ad y_Ct_endsOfRow c_Ct_endsOfRow 5 (some .int) ({ frames := 1, cells := 0, slots := 0, locals := 30 } : Room) mem [.ref (ad 223), vE ad x, .int (nI i0)] (fun r mem' => mem' = mem ∧ r = rowF g I i0 (chL (Bw 233) 100 x) (1 <<< (nI i0 &&& 31))) := by
  have hbd := hC.1.1
  rcases hx with rfl | ⟨j, hj, rfl⟩
  · rw [vE_m, chL_m]
    exact m_Ct_endsOfRowXN l hn hY hC hE hi0
  · rw [vE_n ad (by omega)]
    exact m_Ct_endsOfRowXR l hn hY hC hE hi0 hj
