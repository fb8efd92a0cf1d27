/-- as PLC, but the placed one may have got a next -/
def PLO (A A' : Ro) (E u : Nat) (s : Nat × Bool) (k' : Nat) : Prop :=
  (∀ k, k < E → A' 228 k = A 228 k ∧ A' 229 k = A 229 k ∧ A' 230 k = A 230 k ∧ A' 231 k = A 231 k) ∧ (∀ k, k < E → (k, false) ≠ s → A' 232 k = A 232 k) ∧ (∀ k, k < E → (k, true) ≠ s → A' 233 k = A 233 k) ∧ atS A' s = nI k' ∧ ∀ m, m < u → A' 234 m = A 234 m
theorem PLC.o {A A' : Ro} {E u k' : Nat} {s : Nat × Bool} (h : PLC A A' E u s k') : PLO A A' E u s k' := ⟨h.1, h.2.1, h.2.2.1, h.2.2.2.1, h.2.2.2.2.2⟩
/-- then something is placed behind E1 -/
theorem PLO.step {A A1 A2 : Ro} {E E1 u u1 k1 k2 : Nat} {s t : Nat × Bool} (h : PLO A A1 E u s k1) (h2 : PLO A1 A2 E1 u1 t k2) (hs : s.1 < E) (ht : E ≤ t.1) (hE : E ≤ E1) (hu : u ≤ u1) : PLO A A2 E u s k1 := by
  refine ⟨fun k hk => ?_, fun k hk q => ?_, fun k hk q => ?_, ?_, fun m hm => (h2.2.2.2.2 m (by omega)).trans (h.2.2.2.2 m hm)⟩
  · obtain ⟨a1, a2, a3, a4⟩ := h.1 k hk
    obtain ⟨b1, b2, b3, b4⟩ := h2.1 k (by omega)
    exact ⟨b1.trans a1, b2.trans a2, b3.trans a3, b4.trans a4⟩
  · rw [h2.2.1 k (by omega) (fun z => by rw [← z] at ht; simp only [] at ht; omega)]; exact h.2.1 k hk q
  · rw [h2.2.2.1 k (by omega) (fun z => by rw [← z] at ht; simp only [] at ht; omega)]; exact h.2.2.1 k hk q
  · rw [← h.2.2.2.1]
    obtain ⟨s1, s2⟩ := s
    have hs : s1 < E := hs
    unfold atS
    cases s2 with
    | false => exact h2.2.1 s1 (by omega) (fun z => by rw [← z] at ht; simp only [] at ht; omega)
    | true => exact h2.2.2.1 s1 (by omega) (fun z => by rw [← z] at ht; simp only [] at ht; omega)
theorem Mt.step {A1 A2 B1 B2 : Ro} {E1 S1 S2 u1 u2 k k2 : Nat} {t : Nat × Bool} (h : Mt A1 B1 S1 u1 k) (hk : k < E1) (hP : PLO A1 A2 E1 u1 t k2) (hO : OLD B1 B2 E1 S1) (h2 : (k, false) ≠ t) (h3 : (k, true) ≠ t) (hS : S1 ≤ S2) (hu : u1 ≤ u2) : Mt A2 B2 S2 u2 k := by
  obtain ⟨b1, b2, b3, b4, b5, b6⟩ := hO.1 k hk
  exact ⟨h.1.keep (hP.1 k hk) ⟨b1, b2, b3, b4⟩ hS hu hP.2.2.2.2 hO.2, by rw [b5, hP.2.1 k hk h2]; exact h.2.1, by rw [b6, hP.2.2.1 k hk h3]; exact h.2.2⟩
theorem FRS.trans {A A1 A2 : Ro} {j : Nat} (h1 : FRS A A1 j) (h2 : FRS A1 A2 j) : FRS A A2 j := by
  refine ⟨fun g hg => ?_, h2.2.1.trans h1.2.1, h2.2.2.1.trans h1.2.2.1, h2.2.2.2⟩
  obtain ⟨a1, a2, a3, a4⟩ := h1.1 g hg
  obtain ⟨b1, b2, b3, b4⟩ := h2.1 g hg
  exact ⟨b1.trans a1, b2.trans a2, b3.trans a3, b4.trans a4⟩
section P8
variable {cy : Nat → ClassId} {ad : Nat → Nat} {T : Nat → Int32} {Z j R R' Ec E' S S' u u' a a' : Nat} {A A' Ax Bw Bw' : Ro} {nm nm' : Nat → Int64} {mem mem' memx : Nat → va_E} {o o1 : Option Cg}
theorem repB_f {v1 v2 : Int32} (hA : LKa Ec A) (hE : Ec ≤ 100) (hF : FRM A j Ec) (h39 : A 239 j = -1) : PLO A (repB A j Ec v1 v2) Ec u (PSf A j) Ec ∧ (repB A j Ec v1 v2 232 Ec = -1 ∧ repB A j Ec v1 v2 233 Ec = -1 ∧ repB A j Ec v1 v2 228 Ec = 2 ∧ repB A j Ec v1 v2 229 Ec = v1 ∧ repB A j Ec v1 v2 230 Ec = v2) ∧ repB A j Ec v1 v2 239 j = nI Ec ∧ ∀ g, g ≠ j → repB A j Ec v1 v2 239 g = A 239 g := by
  obtain ⟨⟨s, hs, q8⟩, -⟩ := hF
  have hps : PSf A j = slotOf A s := by unfold PSf; rw [h39, if_pos (by decide), q8, nI_clamp (by omega)]
  have hsl : slotOf (elA A Ec 2) s = slotOf A s := slot_congr hA hE (fun k hk => upd_ne (show k ≠ Ec by omega)) (fun k hk => upd_ne (show k ≠ Ec by omega)) hs
  have hlt := slot_lt hA hE hs
  have h238 : (elA A Ec 2 238 j).toNatClampNeg = s := by rw [elA_ne (by decide), q8, nI_clamp (by omega)]
  have r2 : repB A j Ec v1 v2 232 = appS (elA A Ec 2) s Ec 232 := by
    unfold repB repA
    try simp only []
    rw [va_up_ne _ _ (by decide), va_up_ne _ _ (by decide), va_up_ne _ _ (by decide), h238]
  have r3 : repB A j Ec v1 v2 233 = appS (elA A Ec 2) s Ec 233 := by
    unfold repB repA
    try simp only []
    rw [va_up_ne _ _ (by decide), va_up_ne _ _ (by decide), va_up_ne _ _ (by decide), h238]
  have rr : ∀ i, i ≠ 229 → i ≠ 230 → i ≠ 239 → i ≠ 232 → i ≠ 233 → repB A j Ec v1 v2 i = elA A Ec 2 i := by
    intro i a1 a2 a3 a4 a5
    unfold repB repA
    try simp only []
    rw [va_up_ne _ _ a2, va_up_ne _ _ a1, va_up_ne _ _ a3, appS_ne a4 a5]
  have r9 : repB A j Ec v1 v2 229 = upd (elA A Ec 2 229) Ec v1 := by
    unfold repB
    rw [va_up_ne _ _ (by decide), va_up_self]
    congr 1
    unfold repA
    try simp only []
    rw [va_up_ne _ _ (by decide), appS_ne (by decide) (by decide)]
  have r0 : repB A j Ec v1 v2 230 = upd (elA A Ec 2 230) Ec v2 := by
    unfold repB
    rw [va_up_self]
    congr 1
    unfold repA
    try simp only []
    rw [va_up_ne _ _ (by decide), appS_ne (by decide) (by decide)]
  have r39 : repB A j Ec v1 v2 239 = upd (A 239) j (nI Ec) := by
    unfold repB repA
    try simp only []
    rw [va_up_ne _ _ (by decide), va_up_ne _ _ (by decide), va_up_self, appS_ne (by decide) (by decide), elA_ne (by decide)]
  refine ⟨⟨fun k hk => ?_, fun k hk q => ?_, fun k hk q => ?_, ?_, fun m hm => ?_⟩, ⟨?_, ?_, ?_, ?_, ?_⟩, ?_, fun g hg => ?_⟩
  · have hne : k ≠ Ec := by omega
    rw [rr 228 (by decide) (by decide) (by decide) (by decide) (by decide), r9, r0, rr 231 (by decide) (by decide) (by decide) (by decide) (by decide)]
    exact ⟨upd_ne hne, by rw [upd_ne hne]; exact upd_ne hne, by rw [upd_ne hne]; exact upd_ne hne, upd_ne hne⟩
  · rw [r2, app_2 (by rw [hsl, ← hps]; exact q)]; exact upd_ne (by omega)
  · rw [r3, app_3 (by rw [hsl, ← hps]; exact q)]; exact upd_ne (by omega)
  · have := app_s (A := elA A Ec 2) (to := s) (pa := Ec)
    rw [hsl, ← hps] at this
    unfold atS at this ⊢
    rw [r2, r3]
    exact this
  · rw [rr 234 (by decide) (by decide) (by decide) (by decide) (by decide), elA_ne (by decide)]
  · rw [r2, app_2 (by rw [hsl]; intro z; rw [← z] at hlt; simp only [] at hlt; omega)]; exact upd_self
  · rw [r3, app_3 (by rw [hsl]; intro z; rw [← z] at hlt; simp only [] at hlt; omega)]; exact upd_self
  · rw [rr 228 (by decide) (by decide) (by decide) (by decide) (by decide)]; exact upd_self
  · rw [r9, upd_self]
  · rw [r0, upd_self]
  · rw [r39, upd_self]
  · rw [r39, upd_ne hg]
theorem seqA_f {c : Nat} (hA : LKa Ec A) (hE : Ec ≤ 100) (hc : A 237 j = nI c) (hcl : c < Ec) : PLC A (seqA A j Ec) Ec u (slotOf A c) Ec ∧ seqA A j Ec 232 Ec = -1 ∧ seqA A j Ec 228 Ec = 1 ∧ seqA A j Ec 238 j = nI Ec ∧ ∀ g, g ≠ j → seqA A j Ec 238 g = A 238 g := by
  have hsl : slotOf (va_up (elA A Ec 1) 238 (upd (elA A Ec 1 238) j (nI Ec))) c = slotOf A c := slot_congr hA hE (fun k hk => upd_ne (show k ≠ Ec by omega)) (fun k hk => upd_ne (show k ≠ Ec by omega)) hcl
  have hlt := slot_lt hA hE hcl
  have e : seqA A j Ec = appS (va_up (elA A Ec 1) 238 (upd (elA A Ec 1 238) j (nI Ec))) c Ec := by
    unfold seqA
    try simp only []
    have : (va_up (elA A Ec 1) 238 (upd (elA A Ec 1 238) j (nI Ec)) 237 j).toNatClampNeg = c := by
      rw [va_up_ne _ _ (by decide), elA_ne (by decide), hc, nI_clamp (by omega)]
    rw [this]
  have rr : ∀ i, i ≠ 232 → i ≠ 233 → i ≠ 238 → seqA A j Ec i = elA A Ec 1 i := by
    intro i a1 a2 a3
    rw [e, appS_ne a1 a2, va_up_ne _ _ a3]
  refine ⟨⟨fun k hk => ?_, fun k hk q => ?_, fun k hk q => ?_, ?_, ?_, fun m hm => ?_⟩, ?_, ?_, ?_, fun g hg => ?_⟩
  · have hne : k ≠ Ec := by omega
    rw [rr 228 (by decide) (by decide) (by decide), rr 229 (by decide) (by decide) (by decide), rr 230 (by decide) (by decide) (by decide), rr 231 (by decide) (by decide) (by decide)]
    exact ⟨upd_ne hne, upd_ne hne, upd_ne hne, upd_ne hne⟩
  · rw [e, app_2 (by rw [hsl]; exact q)]; exact upd_ne (show k ≠ Ec by omega)
  · rw [e, app_3 (by rw [hsl]; exact q)]; exact upd_ne (show k ≠ Ec by omega)
  · have := app_s (A := va_up (elA A Ec 1) 238 (upd (elA A Ec 1 238) j (nI Ec))) (to := c) (pa := Ec)
    rw [hsl] at this
    rw [e]
    exact this
  · rw [e, app_3 (by rw [hsl]; intro z; rw [← z] at hlt; simp only [] at hlt; omega)]; exact upd_self
  · rw [rr 234 (by decide) (by decide) (by decide), elA_ne (by decide)]
  · rw [e, app_2 (by rw [hsl]; intro z; rw [← z] at hlt; simp only [] at hlt; omega)]; exact upd_self
  · rw [rr 228 (by decide) (by decide) (by decide)]; exact upd_self
  · rw [e, appS_ne (by decide) (by decide), va_up_self, upd_self]
  · rw [e, appS_ne (by decide) (by decide), va_up_self, upd_ne hg, elA_ne (by decide)]
/-- links behind a first step -/
theorem lka_one {s : Nat × Bool} (hA : LKa Ec A) (hP : PLO A Ax Ec u s Ec) (hs : s.1 < Ec) (n2 : Ax 232 Ec = -1) (n3 : Ax 233 Ec = -1) : LKa (Ec + 1) Ax := by
  intro k hk
  by_cases q : k < Ec
  · constructor
    · by_cases e : (k, false) = s
      · have := hP.2.2.2.1
        rw [← e] at this
        exact Or.inr ⟨Ec, by omega, by omega, this⟩
      · rw [hP.2.1 k q e]; exact (hA k q).1.mono (by omega)
    · by_cases e : (k, true) = s
      · have := hP.2.2.2.1
        rw [← e] at this
        exact Or.inr ⟨Ec, by omega, by omega, this⟩
      · rw [hP.2.2.1 k q e]; exact (hA k q).2.mono (by omega)
  · obtain rfl : k = Ec := by omega
    rw [n2, n3]
    exact ⟨Or.inl rfl, Or.inl rfl⟩
end P8
