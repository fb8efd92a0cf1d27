/-! what the reading keeps: characters aren't negative, repeats are told or without bound -/
theorem CI9.cong {u E : Nat} {A A' : Ro} (h : CI9 u E A) (e8 : A' 228 = A 228) (e0 : A' 230 = A 230) (e4 : A' 234 = A 234) : CI9 u E A' := by
  unfold CI9
  rw [e8, e0, e4]; exact h
theorem CI9.app {u E to pa : Nat} {A : Ro} (h : CI9 u E A) : CI9 u E (appS A to pa) := h.cong (appS_ne (by decide) (by decide)) (appS_ne (by decide) (by decide)) (appS_ne (by decide) (by decide))
theorem CI9.plc {u E f e : Nat} {A : Ro} (h : CI9 u E A) : CI9 u E (plcS A f e) := h.cong (plcS_ne (by decide) (by decide) (by decide)) (plcS_ne (by decide) (by decide) (by decide)) (plcS_ne (by decide) (by decide) (by decide))
theorem CI9.el {u E : Nat} {A : Ro} {kd : Int32} (h : CI9 u E A) : CI9 u (E + 1) (elA A E kd) := by
  refine ⟨h.1, fun k hk e => ?_⟩
  have e0 : elA A E kd 230 = upd (A 230) E 0 := rfl
  have e8 : elA A E kd 228 = upd (A 228) E kd := rfl
  rw [e0]
  rw [e8] at e
  by_cases q : k = E
  · subst q; rw [upd_self]; exact Or.inr (by decide)
  · rw [upd_ne q] at e ⊢; exact h.2 k (by omega) e
/-- an element that is no repeat may be changed -/
theorem CI9.at {u u' E e : Nat} {A A' : Ro} (h : CI9 u E A) (hu : ∀ m, m < u' → ¬ A' 234 m < 0) (h8 : ∀ k, k ≠ e → A' 228 k = A 228 k) (h0 : ∀ k, k ≠ e → A' 230 k = A 230 k) (he : ¬ A' 228 e = 2) : CI9 u' E A' := by
  refine ⟨hu, fun k hk q => ?_⟩
  by_cases z : k = e
  · subst z; exact absurd q he
  · rw [h8 k z] at q; rw [h0 k z]; exact h.2 k hk q
theorem strN_at {T : Nat → Int32} {L : Nat} : ∀ {r a m : Nat}, m < strN T L r a → ¬ hereF L T (a + m) < 0
  | 0, a, m, h => absurd h (Nat.not_lt_zero _)
  | r + 1, a, m, h => by
    unfold strN at h
    split at h
    · rename_i q
      by_cases e : m = 0
      · subst e
        intro z
        exact q.1 (Or.inl (Int32.lt_of_lt_of_le z (by decide)))
      · have := strN_at (T := T) (L := L) (r := r) (a := a + 1) (m := m - 1) (by omega)
        rw [show a + 1 + (m - 1) = a + m by omega] at this
        exact this
    · omega
theorem CI9.str {T : Nat → Int32} {L a u e E a' u' : Nat} {A A' : Ro} (h : CI9 u E A) (he : ¬ A 228 e = 2) (hs : strS T L a u e A = some (a', u', A')) : CI9 u' E A' := by
  unfold strS at hs
  simp only [] at hs
  split at hs
  · have hs := Option.some.inj hs
    have e1 : a + 1 + strN T L 12 (a + 1) + 1 = a' := congrArg (·.1) hs
    have e2 : u + strN T L 12 (a + 1) = u' := congrArg (·.2.1) hs
    have e3 := congrArg (·.2.2) hs
    simp only [] at e3
    subst e3 e2
    refine h.at (e := e) (fun m hm => ?_) (fun k hk => rfl) (fun k hk => ?_) he
    · show ¬ chrS T L u (a + 1) (A 234) (strN T L 12 (a + 1)) m < 0
      have key : ∀ (n m : Nat), n ≤ strN T L 12 (a + 1) → m < u + n → ¬ chrS T L u (a + 1) (A 234) n m < 0 := by
        intro n
        induction n with
        | zero => intro m _ hm; exact h.1 m (by omega)
        | succ n ih =>
          intro m hn hm
          unfold chrS
          by_cases q : m = u + n
          · rw [q, upd_self]; exact strN_at (r := 12) (a := a + 1) (m := n) (by omega)
          · rw [upd_ne q]; exact ih m (by omega) (by omega)
      exact key _ m (Nat.le_refl _) hm
    · show upd (A 230) e _ k = _
      rw [upd_ne hk]
  · cases hs
theorem fig_nat (x b : Int32) : figF x b < 0 ∨ ∃ f : Nat, f < 16 ∧ figF x b = nI f := by
  have mk : ∀ {y c : Int32} {lo hi : Nat}, c.toInt = lo → lo ≤ y.toInt → y.toInt ≤ hi → lo ≤ hi → hi < 200 → ∃ f : Nat, f ≤ hi - lo ∧ y - c = nI f := by
    intro y c lo hi hc h1 h2 h3 h4
    refine ⟨y.toInt.toNat - lo, by omega, ?_⟩
    apply Int32.toInt_inj.mp
    rw [nI_toInt (by omega), Int32.toInt_sub, hc]
    rw [Int.bmod_def]
    omega
  unfold figF
  split
  · rename_i q
    have h1 : ¬ (x < 48 ∨ 57 < x) := fun z => q (by unfold dgF; rw [if_pos z])
    rw [Int32.lt_iff_toInt_lt, Int32.lt_iff_toInt_lt] at h1
    have e1 : (48 : Int32).toInt = 48 := by decide
    have e2 : (57 : Int32).toInt = 57 := by decide
    obtain ⟨f, f1, f2⟩ := mk (y := x) (c := 48) (lo := 48) (hi := 57) e1 (by omega) (by omega) (by omega) (by omega)
    exact Or.inr ⟨f, by omega, f2⟩
  · split
    · rename_i q
      have h1 := q.2
      rw [Int32.lt_iff_toInt_lt, Int32.lt_iff_toInt_lt] at h1
      have e1 : (97 : Int32).toInt = 97 := by decide
      have e2 : (102 : Int32).toInt = 102 := by decide
      have e3 : (87 : Int32).toInt = 87 := by decide
      obtain ⟨f, f1, f2⟩ := mk (y := smF x) (c := 87) (lo := 87) (hi := 102) e3 (by omega) (by omega) (by omega) (by omega)
      exact Or.inr ⟨f, by omega, f2⟩
    · exact Or.inl (by decide)
theorem numN_nat {T : Nat → Int32} {L bb : Nat} (hb : bb ≤ 16) : ∀ (r a w : Nat), ∃ w', (numN T L (nI bb) r a (nI w)).1 = nI w' ∧ w' + 1 ≤ (w + 1) * 16 ^ r
  | 0, a, w => ⟨w, rfl, by omega⟩
  | r + 1, a, w => by
    unfold numN
    rcases fig_nat (hereF L T a) (nI bb) with q | ⟨f, f1, f2⟩
    · rw [if_pos q]
      refine ⟨w, rfl, ?_⟩
      exact Nat.le_mul_of_pos_right _ (Nat.pow_pos (by omega))
    · rw [f2, if_neg (nI_pos (by omega)), nI_mul, nI_add]
      obtain ⟨w', h1, h2⟩ := numN_nat hb r (a + 1) (bb * w + f)
      refine ⟨w', h1, Nat.le_trans h2 ?_⟩
      have h3 : bb * w ≤ 16 * w := Nat.mul_le_mul_right _ hb
      have h4 : bb * w + f + 1 ≤ 16 * (w + 1) := by omega
      calc (bb * w + f + 1) * 16 ^ r ≤ (16 * (w + 1)) * 16 ^ r := Nat.mul_le_mul_right _ h4
        _ = (w + 1) * 16 ^ (r + 1) := by rw [Nat.pow_succ, Nat.mul_comm 16 (w + 1), Nat.mul_assoc, Nat.mul_comm 16]
theorem numS_pos {T : Nat → Int32} {L a : Nat} {b : Int32} {z : Int32 × Nat} (hb : b = 10 ∨ b = 16) (h : numS T L a b = some z) : ¬ z.1 < 0 := by
  obtain ⟨bb, hbb, hb16⟩ : ∃ bb : Nat, b = nI bb ∧ bb ≤ 16 := hb.elim (fun q => ⟨10, q, by omega⟩) (fun q => ⟨16, q, by omega⟩)
  obtain ⟨n, hn, hn3⟩ : ∃ n : Nat, (if b = 10 then 3 else 2) = n ∧ n ≤ 3 := ⟨_, rfl, by split <;> omega⟩
  unfold numS at h
  simp only [] at h
  rw [hn] at h
  split at h
  · cases h
  · have h := Option.some.inj h
    have e1 := congrArg (·.1) h
    simp only [] at e1
    rw [← e1, hbb]
    obtain ⟨w', h1, h2⟩ := numN_nat (T := T) (L := L) hb16 n a 0
    have e0 : (0 : Int32) = nI 0 := rfl
    rw [e0, h1]
    have h3 : 16 ^ n ≤ 16 ^ 3 := Nat.pow_le_pow_right (by omega) hn3
    exact nI_pos (by omega)
theorem CI9.fur {T : Nat → Int32} {L e E : Nat} {b : Int32} (hb : b = 10 ∨ b = 16) : ∀ {r a u a' u' : Nat} {A A' : Ro}, CI9 u E A → ¬ A 228 e = 2 → furS T L b e r a u A = some (a', u', A') → CI9 u' E A'
  | 0, a, u, a', u', A, A', h, he, hs => by
    have hs := Option.some.inj hs
    cases hs
    exact h
  | r + 1, a, u, a', u', A, A', h, he, hs => by
    unfold furS at hs
    split at hs
    · cases hn : numS T L (a + 1) b with
      | none => rw [hn] at hs; cases hs
      | some z =>
        rw [hn] at hs
        simp only [] at hs
        have h2 : CI9 (u + 1) E (va_up (va_up A 234 (upd (A 234) u z.1)) 230 (upd (A 230) e (A 230 e + 1))) := by
          refine h.at (e := e) (fun m hm => ?_) (fun _ _ => rfl) (fun k hk => ?_) he
          · show ¬ upd (A 234) u z.1 m < 0
            by_cases q : m = u
            · subst q; rw [upd_self]; exact numS_pos hb hn
            · rw [upd_ne q]; exact h.1 m (by omega)
          · show upd (A 230) e _ k = _
            rw [upd_ne hk]
        exact CI9.fur hb h2 he hs
    · have hs := Option.some.inj hs
      cases hs
      exact h
theorem CI9.nums {T : Nat → Int32} {L a u e E a' u' : Nat} {b : Int32} {A A' : Ro} (hb : b = 10 ∨ b = 16) (h : CI9 u E A) (he : ¬ A 228 e = 2) (hs : numsS T L a u e b A = some (a', u', A')) : CI9 u' E A' := by
  unfold numsS at hs
  cases hn : numS T L a b with
  | none => rw [hn] at hs; cases hs
  | some z =>
    rw [hn] at hs
    simp only [] at hs
    have h1 : CI9 (u + 1) E (va_up (va_up (va_up A 229 (upd (A 229) e (nI u))) 230 (upd (A 230) e 1)) 234 (upd (A 234) u z.1)) := by
      refine h.at (e := e) (fun m hm => ?_) (fun _ _ => rfl) (fun k hk => ?_) he
      · show ¬ upd (A 234) u z.1 m < 0
        by_cases q : m = u
        · subst q; rw [upd_self]; exact numS_pos hb hn
        · rw [upd_ne q]; exact h.1 m (by omega)
      · show upd (A 230) e _ k = _
        rw [upd_ne hk]
    split at hs
    · cases hn2 : numS T L (z.2 + 1) b with
      | none => rw [hn2] at hs; cases hs
      | some y =>
        rw [hn2] at hs
        simp only [] at hs
        split at hs
        · cases hs
        · have hs := Option.some.inj hs
          cases hs
          refine h1.at (e := e) (fun m hm => h1.1 m hm) (fun k hk => ?_) (fun k hk => ?_) ?_
          · show upd (A 228) e 5 k = _
            rw [upd_ne hk]; rfl
          · show upd (upd (A 230) e 1) e y.1 k = upd (A 230) e 1 k
            rw [upd_ne hk]
          · show ¬ upd (A 228) e 5 e = 2
            rw [upd_self]; decide
    · exact CI9.fur hb h1 he hs
def CJ : Cg → Prop
  | (_, u, _, E, _, A, _, _) => CI9 u E A
theorem CJ.ent {T : Nat → Int32} {L a u R E op : Nat} {A : Ro} {nm : Nat → Int64} {what oe : Int32} {c : Cg} (h : CI9 u E A) (hs : entS T L a u R E op A nm what oe = some c) : CJ c := by
  unfold entS at hs
  split at hs
  · cases hs
  · simp only [] at hs
    have hs := Option.some.inj hs
    subst hs
    exact ((h.cong rfl rfl rfl : CI9 u E (va_up (va_up (va_up A 235 (upd (A 235) op what)) 236 (upd (A 236) op oe)) 239 (upd (A 239) op (-1)))).el (kd := 0)).cong rfl rfl rfl
theorem CJ.pl {R E f e : Nat} {nm : Nat → Int64} {o : Option (Nat × Nat × Ro)} {c : Cg} (h : ∀ a' u' A', o = some (a', u', A') → CI9 u' E A') (hs : plS R E f e nm o = some c) : CJ c := by
  cases o with
  | none => cases hs
  | some z =>
    obtain ⟨a', u', A'⟩ := z
    have hs := Option.some.inj hs
    subst hs
    exact (h a' u' A' rfl).plc
theorem CJ.name {T : Nat → Int32} {L a R u E : Nat} {A : Ro} {nm : Nat → Int64} {z : Nat × Nat × Nat × Ro × (Nat → Int64)} (h : CI9 u E A) (hs : nameS T L a R A nm = some z) : CI9 u E z.2.2.2.1 := by
  unfold nameS at hs
  split at hs
  · have hs := Option.some.inj hs
    subst hs; exact h
  · split at hs
    · cases hs
    · have hs := Option.some.inj hs
      subst hs
      exact h.cong rfl rfl rfl
theorem CJ.sing {T : Nat → Int32} {L a u R E f : Nat} {A : Ro} {nm : Nat → Int64} {c : Cg} (h : CI9 u E A) (hs : singS T L a u R E f A nm = some c) : CJ c := by
  unfold singS at hs
  simp only [] at hs
  split at hs
  · cases hn : nameS T L a R A nm with
    | none => rw [hn] at hs; cases hs
    | some z =>
      have hz := CJ.name h hn
      obtain ⟨r, a1, R1, A1, nm1⟩ := z
      rw [hn] at hs
      simp only [] at hs
      split at hs
      · cases hs
      · have hs := Option.some.inj hs
        subst hs
        have h2 : CI9 u (E + 1) (va_up (elA A1 E 6) 229 (upd (elA A1 E 6 229) E (nI r))) := (CI9.el (A := A1) hz (kd := 6)).cong rfl rfl rfl
        exact h2.plc
  · split at hs
    · split at hs
      · cases hs
      · exact CJ.ent h hs
    · split at hs
      · split at hs
        · cases hs
        · exact CJ.ent h.el hs
      · split at hs
        · cases hs
        · split at hs
          · exact CJ.pl (fun a' u' A' q => CI9.str h.el (by show ¬ upd (A 228) E 4 E = 2; rw [upd_self]; decide) q) hs
          · have h2 : CI9 u (E + 1) (va_up (elA A E 4) 231 (upd (elA A E 4 231) E (vp_nar .boolean 1))) := (h.el (kd := 4)).cong rfl rfl rfl
            have h3 : ¬ va_up (elA A E 4) 231 (upd (elA A E 4 231) E (vp_nar .boolean 1)) 228 E = 2 := by show ¬ upd (A 228) E 4 E = 2; rw [upd_self]; decide
            split at hs
            · split at hs
              · cases hs
              · exact CJ.pl (fun a' u' A' q => CI9.str h2 h3 q) hs
            · split at hs
              · refine CJ.pl (fun a' u' A' q => CI9.nums ?_ h2 h3 q) hs
                split
                · exact Or.inl rfl
                · exact Or.inr rfl
              · cases hs
theorem rpt2_ok (T : Nat → Int32) (L a : Nat) : (rpt2 T L a).1 = -1 ∨ ¬ (rpt2 T L a).1 < 0 := by
  have dg : ∀ x : Int32, dgF x ≠ 0 → ¬ x - 48 < 0 := by
    intro x hx
    have h1 : ¬ (x < 48 ∨ 57 < x) := fun z => hx (by unfold dgF; rw [if_pos z])
    rcases fig_nat x 10 with q | ⟨f, f1, f2⟩
    · unfold figF at q
      rw [if_pos hx] at q
      rw [Int32.lt_iff_toInt_lt, Int32.lt_iff_toInt_lt] at h1
      rw [Int32.lt_iff_toInt_lt, Int32.toInt_sub, Int.bmod_def] at q
      have e1 : (48 : Int32).toInt = 48 := by decide
      have e2 : (57 : Int32).toInt = 57 := by decide
      have e3 : (0 : Int32).toInt = 0 := by decide
      omega
    · unfold figF at f2
      rw [if_pos hx] at f2
      rw [f2]; exact nI_pos (by omega)
  have r1 : ¬ (rpt1 T L a).1 < 0 := by
    unfold rpt1
    split
    · rename_i q; exact dg _ q
    · show ¬ (0 : Int32) < 0
      decide
  unfold rpt2
  split
  · split
    · rename_i q; exact Or.inr (dg _ q)
    · exact Or.inl rfl
  · exact Or.inr r1
theorem CJ.rep {T : Nat → Int32} {L a u R E f : Nat} {A : Ro} {nm : Nat → Int64} {c : Cg} (h : CI9 u E A) (hs : repS T L a u R E f A nm = some c) : CJ c := by
  unfold repS at hs
  split at hs
  · split at hs
    · cases hs
    · split at hs
      · cases hs
      · refine CJ.sing ?_ hs
        have hA : CI9 u (E + 1) (repA A f E) := (CI9.app (h.el (kd := 2))).cong rfl rfl rfl
        refine ⟨hA.1, fun k hk q => ?_⟩
        have e0 : repB A f E (rpt1 T L a).1 (rpt2 T L a).1 230 = upd (repA A f E 230) E (rpt2 T L a).1 := rfl
        have e8 : repB A f E (rpt1 T L a).1 (rpt2 T L a).1 228 = repA A f E 228 := rfl
        rw [e0]
        rw [e8] at q
        by_cases z : k = E
        · subst z; rw [upd_self]; exact rpt2_ok T L a
        · rw [upd_ne z]; exact hA.2 k hk q
  · exact CJ.sing h hs
theorem CJ.seq {T : Nat → Int32} {L a u R E f : Nat} {A : Ro} {nm : Nat → Int64} {c : Cg} (h : CI9 u E A) (hs : seqS T L a u R E f A nm = some c) : CJ c := by
  unfold seqS at hs
  split at hs
  · cases hs
  · refine CJ.rep ?_ hs
    exact CI9.app ((h.el (kd := 1)).cong rfl rfl rfl)
theorem CJ.turn {T : Nat → Int32} {L : Nat} {c d : Cg} {b : Bool} (h : CJ c) (hs : turnS T L c = some (b, d)) : CJ d := by
  obtain ⟨a, u, R, E, f, A, nm, pe⟩ := c
  have h : CI9 u E A := h
  have mp : ∀ {o : Option Cg}, o.map (fun z => (true, z)) = some (b, d) → o = some d := by
    intro o ho
    cases o with
    | none => cases ho
    | some z =>
      have e := congrArg (·.2) (Option.some.inj ho)
      simp only [] at e
      rw [e]
  cases pe with
  | true => exact CJ.seq h (mp hs)
  | false =>
    have hs : goS T L a u R E f A nm = some (b, d) := hs
    unfold goS at hs
    simp only [] at hs
    split at hs
    · exact CJ.seq h (mp hs)
    · split at hs
      · have hs := Option.some.inj hs
        have e := congrArg (·.2) hs
        simp only [] at e
        subst e
        refine CI9.plc (A := if A 235 f = 2 then appS A _ _ else A) ?_
        split
        · exact h.app
        · exact h
      · split at hs
        · exact CJ.rep h (mp hs)
        · split at hs
          · have hs := Option.some.inj hs
            have e := congrArg (·.2) hs
            simp only [] at e
            subst e
            exact h
          · cases hs
theorem CJ.rch {T : Nat → Int32} {L : Nat} : ∀ {n : Nat} {c d : Cg}, CJ c → Rch T L n c d → CJ d
  | 0, c, d, h, hr => by
    have hr : c = d := hr
    subst hr; exact h
  | n + 1, c, d, h, hr => by
    obtain ⟨x, hx, hr⟩ := hr
    exact CJ.rch (h.turn hx) hr
theorem CJ.term {T : Nat → Int32} {L : Nat} {c d : Cg} (h : CJ c) (hr : Term T L c (some d)) : CJ d := by
  obtain ⟨n, x, h1, h2⟩ := hr
  rcases h2 with ⟨_, h2⟩ | ⟨z, h2, h3⟩
  · cases h2
  · have h3 := Option.some.inj h3
    subst h3
    exact (CJ.rch h h1).turn h2
theorem CJ.rule {T : Nat → Int32} {L a u R E : Nat} {A : Ro} {nm : Nat → Int64} {d : Cg} (h : CI9 u E A) (hr : RuleR T L a u R E A nm (some d)) : CJ d := by
  rcases hr with ⟨_, hr⟩ | ⟨c, h1, h2⟩
  · cases hr
  · refine CJ.term ?_ h2
    unfold ruleS at h1
    cases hn : nameS T L a R A nm with
    | none => rw [hn] at h1; cases h1
    | some z =>
      have hz := CJ.name h hn
      rw [hn] at h1
      simp only [] at h1
      split at h1
      · split at h1
        · unfold ent0S at h1
          split at h1
          · cases h1
          · rename_i he
            have hc := CJ.ent hz he
            have h1 := Option.some.inj h1
            subst h1
            refine CI9.cong (A := if _ then _ else _) ?_ rfl rfl rfl
            split
            · exact hc
            · exact CI9.cong hc rfl rfl rfl
        · cases h1
      · cases h1
theorem CJ.rd {T : Nat → Int32} {L : Nat} : ∀ {n a u R E : Nat} {A : Ro} {nm : Nat → Int64} {d : Cg}, CI9 u E A → RdN T L n a u R E A nm (some d) → CJ d
  | 0, _, _, _, _, _, _, _, _, h => h.elim
  | n + 1, a, u, R, E, A, nm, d, h, hr => by
    rcases hr with ⟨_, hr⟩ | ⟨_, o1, h1, h2⟩
    · cases hr
    · rcases h2 with ⟨_, h2⟩ | ⟨a', u', R', E', f', A', nm', pe', e1, h3⟩
      · cases h2
      · subst e1
        have hc := CJ.rule h h1
        rcases h3 with ⟨_, h3⟩ | ⟨_, h3⟩
        · have h3 := Option.some.inj h3
          subst h3; exact hc
        · exact CJ.rd (show CI9 u' E' A' from hc) h3
/-- a text that is read -/
theorem RdR.ci {T : Nat → Int32} {L a a' u' R' E' f' : Nat} {A A' : Ro} {nm nm' : Nat → Int64} {pe : Bool} (h : RdR T L a 0 0 0 A nm (some (a', u', R', E', f', A', nm', pe))) : CI9 u' E' A' := by
  obtain ⟨n, h⟩ := h
  exact CJ.rd ⟨fun m hm => by omega, fun k hk => by omega⟩ h
