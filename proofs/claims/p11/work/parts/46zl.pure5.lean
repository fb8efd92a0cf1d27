/-! class rows and reference rows, element by element -/
def ER (ad : Nat → Nat) (rc ec : Nat) (Bw : Ro) (mem : Nat → va_E) : Prop := ∀ k, k < ec → mem (20 + 2 * k) = eCl ad k (Bw 228 k) (Bw 229 k) (Bw 230 k) (vR ad (Bw 231 k)) (vE ad (Bw 232 k)) (vE ad (Bw 233 k)) ∧ cl rc (Bw 231 k) ∧ lk ec k (Bw 232 k) ∧ lk ec k (Bw 233 k)
def SR (cy : Nat → ClassId) (ad : Nat → Nat) (S : Nat) (Bw : Ro) (mem : Nat → va_E) : Prop := mem 220 = .inr (0, [.ref (ad 221), .int (nI S)]) ∧ mem 221 = .inl (cy 0, 240, .inl (Bw 234))
def DK (A Bw : Ro) (S u k : Nat) : Prop :=
  (A 228 k = 0 ∧ Bw 228 k = 0) ∨ (A 228 k = 1 ∧ Bw 228 k = 1) ∨ (A 228 k = 2 ∧ Bw 228 k = 2 ∧ Bw 229 k = A 229 k ∧ Bw 230 k = A 230 k) ∨ (A 228 k = 3 ∧ Bw 228 k = 3) ∨ (A 228 k = 6 ∧ Bw 228 k = 4 ∧ Bw 231 k = A 229 k) ∨ (A 228 k = 5 ∧ Bw 228 k = 7 ∧ Bw 229 k = A 229 k ∧ Bw 230 k = A 230 k) ∨ (A 228 k = 4 ∧ Bw 228 k = (if A 231 k = 0 then 5 else 6) ∧ ∃ o q t : Nat, Bw 229 k = nI o ∧ Bw 230 k = nI (o + t) ∧ A 229 k = nI q ∧ A 230 k = nI t ∧ o + t ≤ S ∧ q + t ≤ u ∧ ∀ m, m < t → Bw 234 (o + m) = A 234 (q + m))
def Mt (A Bw : Ro) (S u k : Nat) : Prop := DK A Bw S u k ∧ Bw 232 k = A 232 k ∧ Bw 233 k = A 233 k
def OLD (Bw Bw' : Ro) (E S : Nat) : Prop := (∀ k, k < E → Bw' 228 k = Bw 228 k ∧ Bw' 229 k = Bw 229 k ∧ Bw' 230 k = Bw 230 k ∧ Bw' 231 k = Bw 231 k ∧ Bw' 232 k = Bw 232 k ∧ Bw' 233 k = Bw 233 k) ∧ ∀ m, m < S → Bw' 234 m = Bw 234 m
theorem OLD.rf (Bw : Ro) (E S : Nat) : OLD Bw Bw E S := ⟨fun _ _ => ⟨rfl, rfl, rfl, rfl, rfl, rfl⟩, fun _ _ => rfl⟩
theorem OLD.trans {Bw B1 B2 : Ro} {E E1 S S1 : Nat} (h1 : OLD Bw B1 E S) (h2 : OLD B1 B2 E1 S1) (hE : E ≤ E1) (hS : S ≤ S1) : OLD Bw B2 E S := by
  refine ⟨fun k hk => ?_, fun m hm => (h2.2 m (by omega)).trans (h1.2 m hm)⟩
  obtain ⟨a1, a2, a3, a4, a5, a6⟩ := h1.1 k hk
  obtain ⟨b1, b2, b3, b4, b5, b6⟩ := h2.1 k (by omega)
  exact ⟨b1.trans a1, b2.trans a2, b3.trans a3, b4.trans a4, b5.trans a5, b6.trans a6⟩
theorem DK.keep {A A' Bw Bw' : Ro} {S S' u u' k : Nat} (h : DK A Bw S u k) (ha : A' 228 k = A 228 k ∧ A' 229 k = A 229 k ∧ A' 230 k = A 230 k ∧ A' 231 k = A 231 k) (hb : Bw' 228 k = Bw 228 k ∧ Bw' 229 k = Bw 229 k ∧ Bw' 230 k = Bw 230 k ∧ Bw' 231 k = Bw 231 k) (hS : S ≤ S') (hu : u ≤ u') (h4 : ∀ m, m < u → A' 234 m = A 234 m) (h5 : ∀ m, m < S → Bw' 234 m = Bw 234 m) : DK A' Bw' S' u' k := by
  unfold DK
  rw [ha.1, ha.2.1, ha.2.2.1, ha.2.2.2, hb.1, hb.2.1, hb.2.2.1, hb.2.2.2]
  rcases h with h | h | h | h | h | h | ⟨h1, h2, o, q, t, h3⟩
  · exact Or.inl h
  · exact Or.inr (Or.inl h)
  · exact Or.inr (Or.inr (Or.inl h))
  · exact Or.inr (Or.inr (Or.inr (Or.inl h)))
  · exact Or.inr (Or.inr (Or.inr (Or.inr (Or.inl h))))
  · exact Or.inr (Or.inr (Or.inr (Or.inr (Or.inr (Or.inl h)))))
  · refine Or.inr (Or.inr (Or.inr (Or.inr (Or.inr (Or.inr ⟨h1, h2, o, q, t, h3.1, h3.2.1, h3.2.2.1, h3.2.2.2.1, by omega, by omega, fun m hm => ?_⟩)))))
    rw [h5 _ (by omega), h4 _ (by omega)]
    exact h3.2.2.2.2.2.2 m hm
def SucU (T : Nat → Int32) (Z : Nat) (o : Option Cg) (f R : Nat) (K S : Nat → Int32) (a' u' R' E' : Nat) (A' : Ro) (nm' : Nat → Int64) : Prop := ∃ c1, o = some c1 ∧ Goes9 T Z c1 (a', u', R', E', f, A', nm', false) ∧ (∀ g, g ≤ f → A' 235 g = K g) ∧ TOK R R' S (A' 227)
theorem SucU.suc {T : Nat → Int32} {Z : Nat} {o : Option Cg} {f R : Nat} {K S : Nat → Int32} {a' u' R' E' : Nat} {A' : Ro} {nm' : Nat → Int64} (h : SucU T Z o f R K S a' u' R' E' A' nm') : Suc T Z o f R K S a' R' E' A' nm' := by
  obtain ⟨c1, h1, h2, h3, h4⟩ := h
  exact ⟨c1, u', h1, h2, h3, h4⟩
theorem SucU.eq {T : Nat → Int32} {Z : Nat} {o o2 : Option Cg} {f R : Nat} {K K2 S S2 : Nat → Int32} {a' u' R' E' : Nat} {A' : Ro} {nm' : Nat → Int64} (h : SucU T Z o f R K S a' u' R' E' A' nm') (e : o2 = o) (ek : K = K2) (es : S = S2) : SucU T Z o2 f R K2 S2 a' u' R' E' A' nm' := by
  subst e ek es
  exact h
theorem SucU.go {T : Nat → Int32} {Z : Nat} {o o2 : Option Cg} {f R : Nat} {K S : Nat → Int32} {a1 u1 R1 E1 a2 u2 R2 E2 : Nat} {A1 A2 : Ro} {nm1 nm2 : Nat → Int64} (h : SucU T Z o f R K S a1 u1 R1 E1 A1 nm1) (hR : R ≤ R1) (ht : turnS T Z (a1, u1, R1, E1, f, A1, nm1, false) = o2.map (fun z => (true, z))) (h2 : SucU T Z o2 f R1 (A1 235) (A1 227) a2 u2 R2 E2 A2 nm2) : SucU T Z o f R K S a2 u2 R2 E2 A2 nm2 := by
  obtain ⟨c1, ho, hg, hk, hs⟩ := h
  obtain ⟨c2, ho2, hg2, hk2, hs2⟩ := h2
  subst ho2
  exact ⟨c1, ho, (hg.trans (Goes9.one ht)).trans hg2, fun g hg => (hk2 g hg).trans (hk g hg), hs.trans hs2 hR⟩
theorem SucU.fai {T : Nat → Int32} {Z : Nat} {o o2 : Option Cg} {f R : Nat} {K S : Nat → Int32} {a1 u1 R1 E1 : Nat} {A1 : Ro} {nm1 : Nat → Int64} (h : SucU T Z o f R K S a1 u1 R1 E1 A1 nm1) (ht : turnS T Z (a1, u1, R1, E1, f, A1, nm1, false) = o2.map (fun z => (true, z))) (h2 : Fai T Z o2) : Fai T Z o := by
  obtain ⟨c1, ho, hg, hk, hs⟩ := h
  exact Fai.go ho hg ht h2
section P6
variable {ad : Nat → Nat} {cy : Nat → ClassId} {R R' E E' S S' u u' k' : Nat} {A A' Bw Bw' : Ro} {s : Nat × Bool} {mem mem' : Nat → va_E}
/-- a row of the class, new at E -/
def bwN (Bw : Ro) (E : Nat) (k l h q p n : Int32) (st : Nat → Int32) : Ro := va_up (va_up (va_up (va_up (va_up (va_up (va_up Bw 228 (upd (Bw 228) E k)) 229 (upd (Bw 229) E l)) 230 (upd (Bw 230) E h)) 231 (upd (Bw 231) E q)) 232 (upd (Bw 232) E p)) 233 (upd (Bw 233) E n)) 234 st
theorem bwN_old {k l h q p n : Int32} {st : Nat → Int32} (hs : ∀ m, m < S → st m = Bw 234 m) : OLD Bw (bwN Bw E k l h q p n st) E S := by
  refine ⟨fun j hj => ?_, fun m hm => hs m hm⟩
  have hne : j ≠ E := by omega
  exact ⟨upd_ne hne, upd_ne hne, upd_ne hne, upd_ne hne, upd_ne hne, upd_ne hne⟩
theorem bwN_at {k l h q p n : Int32} {st : Nat → Int32} : bwN Bw E k l h q p n st 228 E = k ∧ bwN Bw E k l h q p n st 229 E = l ∧ bwN Bw E k l h q p n st 230 E = h ∧ bwN Bw E k l h q p n st 231 E = q ∧ bwN Bw E k l h q p n st 232 E = p ∧ bwN Bw E k l h q p n st 233 E = n ∧ bwN Bw E k l h q p n st 234 = st := ⟨upd_self, upd_self, upd_self, upd_self, upd_self, upd_self, rfl⟩
theorem ER.new {k l h q : Int32} {st : Nat → Int32} (hE : ER ad R E Bw mem) (hR : R ≤ R') (hc : mem' (20 + 2 * E) = eCl ad E k l h (vR ad q) .null .null) (hq : cl R' q) (hf : ∀ j, j < E → mem' (20 + 2 * j) = mem (20 + 2 * j)) : ER ad R' (E + 1) (bwN Bw E k l h q (-1) (-1) st) mem' := by
  intro j hj
  by_cases e : j = E
  · subst e
    obtain ⟨b1, b2, b3, b4, b5, b6, b7⟩ := bwN_at (Bw := Bw) (E := j) (k := k) (l := l) (h := h) (q := q) (p := -1) (n := -1) (st := st)
    rw [b1, b2, b3, b4, b5, b6]
    exact ⟨by rw [hc, vE_m], hq, Or.inl rfl, Or.inl rfl⟩
  · obtain ⟨c1, c2, c3, c4⟩ := hE j (by omega)
    obtain ⟨b1, b2, b3, b4, b5, b6⟩ := (bwN_old (Bw := Bw) (E := E) (S := 0) (k := k) (l := l) (h := h) (q := q) (p := -1) (n := -1) (st := st) (fun m hm => by omega)).1 j (by omega)
    rw [b1, b2, b3, b4, b5, b6]
    exact ⟨(hf j (by omega)).trans c1, c2.mono hR, c3.mono (by omega), c4.mono (by omega)⟩
theorem ER.fr (hE : ER ad R E Bw mem) (hR : R ≤ R') (hf : ∀ j, j < E → mem' (20 + 2 * j) = mem (20 + 2 * j)) : ER ad R' E Bw mem' := fun j hj => by
  obtain ⟨c1, c2, c3, c4⟩ := hE j hj
  exact ⟨(hf j hj).trans c1, c2.mono hR, c3, c4⟩
/-- the class links element k to k2 by its part, or by its next -/
theorem ER.part {k k2 : Nat} (hE : ER ad R E Bw mem) (h1 : k < k2) (h2 : k2 < E) (hb : E ≤ 100) (hc : mem' (20 + 2 * k) = eCl ad k (Bw 228 k) (Bw 229 k) (Bw 230 k) (vR ad (Bw 231 k)) (.ref (ad (20 + 2 * k2))) (vE ad (Bw 233 k))) (hf : ∀ j, j ≠ k → j < E → mem' (20 + 2 * j) = mem (20 + 2 * j)) : ER ad R E (va_up Bw 232 (upd (Bw 232) k (nI k2))) mem' := by
  intro j hj
  obtain ⟨c1, c2, c3, c4⟩ := hE j hj
  by_cases e : j = k
  · subst e
    refine ⟨?_, c2, ?_, c4⟩
    · show _ = eCl ad j (Bw 228 j) (Bw 229 j) (Bw 230 j) (vR ad (Bw 231 j)) (vE ad (upd (Bw 232) j (nI k2) j)) (vE ad (Bw 233 j))
      rw [upd_self, vE_n ad (by omega)]; exact hc
    · show lk E j (upd (Bw 232) j (nI k2) j)
      rw [upd_self]; exact Or.inr ⟨k2, h1, h2, rfl⟩
  · refine ⟨?_, c2, ?_, c4⟩
    · show _ = eCl ad j (Bw 228 j) (Bw 229 j) (Bw 230 j) (vR ad (Bw 231 j)) (vE ad (upd (Bw 232) k (nI k2) j)) (vE ad (Bw 233 j))
      rw [upd_ne e, hf j e hj]; exact c1
    · show lk E j (upd (Bw 232) k (nI k2) j)
      rw [upd_ne e]; exact c3
theorem ER.next {k k2 : Nat} (hE : ER ad R E Bw mem) (h1 : k < k2) (h2 : k2 < E) (hb : E ≤ 100) (hc : mem' (20 + 2 * k) = eCl ad k (Bw 228 k) (Bw 229 k) (Bw 230 k) (vR ad (Bw 231 k)) (vE ad (Bw 232 k)) (.ref (ad (20 + 2 * k2)))) (hf : ∀ j, j ≠ k → j < E → mem' (20 + 2 * j) = mem (20 + 2 * j)) : ER ad R E (va_up Bw 233 (upd (Bw 233) k (nI k2))) mem' := by
  intro j hj
  obtain ⟨c1, c2, c3, c4⟩ := hE j hj
  by_cases e : j = k
  · subst e
    refine ⟨?_, c2, c3, ?_⟩
    · show _ = eCl ad j (Bw 228 j) (Bw 229 j) (Bw 230 j) (vR ad (Bw 231 j)) (vE ad (Bw 232 j)) (vE ad (upd (Bw 233) j (nI k2) j))
      rw [upd_self, vE_n ad (by omega)]; exact hc
    · show lk E j (upd (Bw 233) j (nI k2) j)
      rw [upd_self]; exact Or.inr ⟨k2, h1, h2, rfl⟩
  · refine ⟨?_, c2, c3, ?_⟩
    · show _ = eCl ad j (Bw 228 j) (Bw 229 j) (Bw 230 j) (vR ad (Bw 231 j)) (vE ad (Bw 232 j)) (vE ad (upd (Bw 233) k (nI k2) j))
      rw [upd_ne e, hf j e hj]; exact c1
    · show lk E j (upd (Bw 233) k (nI k2) j)
      rw [upd_ne e]; exact c4
/-- the reference's links behind a reading -/
theorem lka_new (hA : LKa E A) (hP : PLC A A' E u s k') (hs : s.1 < E) (hk : E ≤ k' ∧ k' < E') (hN : ∀ k, E ≤ k → k < E' → Mt A' Bw' S' u' k) (hE : ER ad R' E' Bw' mem') : LKa E' A' := by
  intro k hk2
  by_cases q : k < E
  · constructor
    · by_cases e : (k, false) = s
      · have := hP.2.2.2.1
        rw [← e] at this
        exact Or.inr ⟨k', by omega, by omega, this⟩
      · rw [hP.2.1 k q e]; exact (hA k q).1.mono (by omega)
    · by_cases e : (k, true) = s
      · have := hP.2.2.2.1
        rw [← e] at this
        exact Or.inr ⟨k', by omega, by omega, this⟩
      · rw [hP.2.2.1 k q e]; exact (hA k q).2.mono (by omega)
  · obtain ⟨-, m1, m2⟩ := hN k (by omega) hk2
    obtain ⟨-, -, c3, c4⟩ := hE k hk2
    rw [← m1, ← m2]
    exact ⟨c3, c4⟩
/-- a chain's slot behind a placing -/
theorem slot_after {c : Nat} (hA : LKa E A) (hE : E ≤ 100) (hc : c < E) (hP : PLC A A' E u (slotOf A c) k') (hk : E ≤ k') (hk2 : k' < 2 ^ 31) : slotOf A' c = (k', true) := by
  have hv := hP.2.2.2.1
  have hn := hP.2.2.2.2.1
  unfold slotOf at hP hv ⊢
  rcases (hA c hc).1 with q | ⟨j, h1, h2, q⟩
  · rw [q, if_pos (by decide)] at hP hv
    have e : A' 232 c = nI k' := hv
    rw [e, if_neg (nI_pos hk2), nI_clamp hk2]
    have : lastN (A' 233) 100 k' = k' := by
      unfold lastN
      rw [hn, if_pos (by decide)]
    rw [this]
  · rw [q, if_neg (nI_pos (by omega)), nI_clamp (by omega)] at hP hv
    have e2 : A' 232 c = nI j := by rw [hP.2.1 c hc (by intro z; cases z)]; exact q
    rw [e2, if_neg (nI_pos (by omega)), nI_clamp (by omega)]
    have hf : lastN (A 233) 100 j = lastN (A 233) 99 j := by
      have key : ∀ (n k : Nat), k < E → E ≤ n + k → lastN (A 233) (n + 1) k = lastN (A 233) n k := by
        intro n
        induction n with
        | zero => intro k hk hn; omega
        | succ n ih =>
          intro k hk hn
          conv => lhs; unfold lastN
          conv => rhs; unfold lastN
          rcases (hA k hk).2 with q | ⟨i, i1, i2, q⟩
          · rw [q, if_pos (by decide), if_pos (by decide)]
          · rw [q, if_neg (nI_pos (by omega)), if_neg (nI_pos (by omega)), nI_clamp (by omega)]
            exact ih i i2 (by omega)
      exact key 99 j h2 (by omega)
    have hv' : A' 233 (lastN (A 233) 99 j) = nI k' := by rw [← hf]; exact hv
    have : lastN (A' 233) 100 j = k' := lastN_app (fun k hk => (hA k hk).2) hE hk hk2 99 j h2 (by omega) hv' (fun i hi hne => hP.2.2.1 i hi (by rw [hf]; intro z; cases z; exact hne rfl)) (by rw [hn]; decide)
    rw [this]
end P6
