/-! the elements of both sides while they are read: rows of the class (Bw), rows of the reference (A) -/
def slotOf (A : Ro) (x : Nat) : Nat × Bool := if A 232 x < 0 then (x, false) else (lastN (A 233) 100 (A 232 x).toNatClampNeg, true)
def PSf (A : Ro) (f : Nat) : Nat × Bool := if A 239 f < 0 then slotOf A (A 238 f).toNatClampNeg else slotOf A (A 239 f).toNatClampNeg
def atS (A : Ro) (s : Nat × Bool) : Int32 := if s.2 then A 233 s.1 else A 232 s.1
section P4
variable {A A' : Ro} {E to pa k f e : Nat}
theorem app_s : atS (appS A to pa) (slotOf A to) = nI pa := by
  unfold appS slotOf atS
  by_cases q : A 232 to < 0
  · rw [if_pos q, if_pos q]
    exact upd_self (f := A 232) (k := to) (x := nI pa)
  · rw [if_neg q, if_neg q]
    exact upd_self (f := A 233) (k := lastN (A 233) 100 (A 232 to).toNatClampNeg) (x := nI pa)
theorem app_2 (h : (k, false) ≠ slotOf A to) : appS A to pa 232 k = A 232 k := by
  unfold appS
  unfold slotOf at h
  by_cases q : A 232 to < 0
  · rw [if_pos q] at h ⊢
    rw [va_up_self, upd_ne (fun z => h (by rw [z]))]
  · rw [if_neg q]
    exact congrFun (va_up_ne _ _ (by decide)) k
theorem app_3 (h : (k, true) ≠ slotOf A to) : appS A to pa 233 k = A 233 k := by
  unfold appS
  unfold slotOf at h
  by_cases q : A 232 to < 0
  · rw [if_pos q]
    exact congrFun (va_up_ne _ _ (by decide)) k
  · rw [if_neg q] at h ⊢
    rw [va_up_self, upd_ne (fun z => h (by rw [z]))]
theorem plc_ne9 {j : Nat} (h : j ≠ 239) : plcS A f e j = (if A 239 f < 0 then appS A (A 238 f).toNatClampNeg e else appS A (A 239 f).toNatClampNeg e) j := by
  unfold plcS
  exact va_up_ne _ _ h
theorem plc_s : atS (plcS A f e) (PSf A f) = nI e := by
  unfold PSf
  have h2 : plcS A f e 232 = _ := plc_ne9 (by decide)
  have h3 : plcS A f e 233 = _ := plc_ne9 (by decide)
  by_cases q : A 239 f < 0
  · rw [if_pos q] at h2 h3 ⊢
    unfold atS
    rw [h2, h3]
    exact app_s
  · rw [if_neg q] at h2 h3 ⊢
    unfold atS
    rw [h2, h3]
    exact app_s
theorem plc_2 (h : (k, false) ≠ PSf A f) : plcS A f e 232 k = A 232 k := by
  unfold PSf at h
  rw [plc_ne9 (by decide)]
  by_cases q : A 239 f < 0
  · rw [if_pos q] at h ⊢; exact app_2 h
  · rw [if_neg q] at h ⊢; exact app_2 h
theorem plc_3 (h : (k, true) ≠ PSf A f) : plcS A f e 233 k = A 233 k := by
  unfold PSf at h
  rw [plc_ne9 (by decide)]
  by_cases q : A 239 f < 0
  · rw [if_pos q] at h ⊢; exact app_3 h
  · rw [if_neg q] at h ⊢; exact app_3 h
theorem plc_9 {g : Nat} : plcS A f e 239 g = if g = f then -1 else A 239 g := by
  unfold plcS
  try simp only []
  rw [va_up_self]
  by_cases q : g = f
  · rw [if_pos q, q, upd_self]
  · rw [if_neg q, upd_ne q]
    split
    · rw [appS_ne (by decide) (by decide)]
    · rw [appS_ne (by decide) (by decide)]
/-- chains lie below E, and stay where the rows below E stay -/
theorem lastN_lt {nx : Nat → Int32} (h : ∀ k, k < E → lk E k (nx k)) (hE : E ≤ 100) : ∀ (n k : Nat), k < E → lastN nx n k < E
  | 0, k, hk => hk
  | n + 1, k, hk => by
    unfold lastN
    rcases h k hk with q | ⟨j, h1, h2, q⟩
    · rw [q, if_pos (by decide)]; exact hk
    · rw [q, if_neg (nI_pos (by omega)), nI_clamp (by omega)]
      exact lastN_lt h hE n j h2
theorem lastN_congr {nx nx' : Nat → Int32} (h : ∀ k, k < E → lk E k (nx k)) (hE : E ≤ 100) (he : ∀ k, k < E → nx' k = nx k) : ∀ (n k : Nat), k < E → lastN nx' n k = lastN nx n k
  | 0, k, hk => rfl
  | n + 1, k, hk => by
    unfold lastN
    rw [he k hk]
    rcases h k hk with q | ⟨j, h1, h2, q⟩
    · rw [q, if_pos (by decide), if_pos (by decide)]
    · rw [q, if_neg (nI_pos (by omega)), if_neg (nI_pos (by omega)), nI_clamp (by omega)]
      exact lastN_congr h hE he n j h2
/-- the chain ends at its last element -/
theorem lastN_ends {nx : Nat → Int32} (h : ∀ k, k < E → lk E k (nx k)) (hE : E ≤ 100) : ∀ (n k : Nat), k < E → E ≤ n + k → nx (lastN nx n k) = -1
  | 0, k, hk, hn => by omega
  | n + 1, k, hk, hn => by
    unfold lastN
    rcases h k hk with q | ⟨j, h1, h2, q⟩
    · rw [if_pos (by rw [q]; decide)]; exact q
    · rw [q, if_neg (nI_pos (by omega)), nI_clamp (by omega)]
      exact lastN_ends h hE n j h2 (by omega)
/-- a chain with one more at its end -/
theorem lastN_app {nx : Nat → Int32} {r : Nat} (h : ∀ k, k < E → lk E k (nx k)) (hE : E ≤ 100) (hr : E ≤ r) (hr2 : r < 2 ^ 31) : ∀ (n k : Nat) {nx' : Nat → Int32}, k < E → E ≤ n + k → nx' (lastN nx n k) = nI r → (∀ i, i < E → i ≠ lastN nx n k → nx' i = nx i) → nx' r < 0 → lastN nx' (n + 1) k = r
  | 0, k, nx', hk, hn, _, _, _ => by omega
  | n + 1, k, nx', hk, hn, h1, h2, h3 => by
    rcases h k hk with q | ⟨j, j1, j2, q⟩
    · have e : lastN nx (n + 1) k = k := by unfold lastN; rw [if_pos (by rw [q]; decide)]
      rw [e] at h1
      unfold lastN
      rw [h1, if_neg (nI_pos hr2), nI_clamp hr2]
      unfold lastN
      rw [if_pos h3]
    · have e : lastN nx (n + 1) k = lastN nx n j := by
        conv => lhs; unfold lastN
        rw [q, if_neg (nI_pos (by omega)), nI_clamp (by omega)]
      rw [e] at h1 h2
      have hkl : k ≠ lastN nx n j := by
        have key : ∀ (n j : Nat), j < E → j ≤ lastN nx n j := by
          intro n
          induction n with
          | zero => intro j _; exact Nat.le_refl _
          | succ n ih =>
            intro j hj
            unfold lastN
            rcases h j hj with q | ⟨i, i1, i2, q⟩
            · rw [q, if_pos (by decide)]; exact Nat.le_refl _
            · rw [q, if_neg (nI_pos (by omega)), nI_clamp (by omega)]
              have := ih i i2
              omega
        have := key n j j2
        omega
      conv => lhs; unfold lastN
      rw [h2 k hk hkl, q, if_neg (nI_pos (by omega)), nI_clamp (by omega)]
      exact lastN_app h hE hr hr2 n j j2 (by omega) h1 h2 h3
end P4
/-- links of the reference's rows -/
def LKa (E : Nat) (A : Ro) : Prop := ∀ k, k < E → lk E k (A 232 k) ∧ lk E k (A 233 k)
/-- frame f: its sequence and its repetition -/
def FRM (A : Ro) (f E : Nat) : Prop := (∃ s, s < E ∧ A 238 f = nI s) ∧ (A 239 f = -1 ∨ ∃ r, r < E ∧ A 239 f = nI r)
/-- from A to A' an element (or a sequence) k' was read and placed into the slot s; below E nothing else is new -/
def PLC (A A' : Ro) (E u : Nat) (s : Nat × Bool) (k' : Nat) : Prop :=
  (∀ k, k < E → A' 228 k = A 228 k ∧ A' 229 k = A 229 k ∧ A' 230 k = A 230 k ∧ A' 231 k = A 231 k) ∧ (∀ k, k < E → (k, false) ≠ s → A' 232 k = A 232 k) ∧ (∀ k, k < E → (k, true) ≠ s → A' 233 k = A 233 k) ∧ atS A' s = nI k' ∧ A' 233 k' = -1 ∧ ∀ m, m < u → A' 234 m = A 234 m
/-- the frames below j, and j's own choice -/
def FRS (A A' : Ro) (j : Nat) : Prop := (∀ g, g < j → A' 236 g = A 236 g ∧ A' 237 g = A 237 g ∧ A' 238 g = A 238 g ∧ A' 239 g = A 239 g) ∧ A' 236 j = A 236 j ∧ A' 237 j = A 237 j ∧ A' 239 j = -1
section P5
variable {A A' Ax : Ro} {E u u' f s : Nat}
theorem slot_congr (hA : LKa E A) (hE : E ≤ 100) (e2 : ∀ k, k < E → Ax 232 k = A 232 k) (e3 : ∀ k, k < E → Ax 233 k = A 233 k) {x : Nat} (hx : x < E) : slotOf Ax x = slotOf A x := by
  unfold slotOf
  rw [e2 x hx]
  rcases (hA x hx).1 with q | ⟨j, h1, h2, q⟩
  · rw [q, if_pos (by decide), if_pos (by decide)]
  · rw [q, if_neg (nI_pos (by omega)), if_neg (nI_pos (by omega)), nI_clamp (by omega), lastN_congr (fun k hk => (hA k hk).2) hE e3 100 j h2]
theorem slot_lt (hA : LKa E A) (hE : E ≤ 100) {x : Nat} (hx : x < E) : (slotOf A x).1 < E := by
  unfold slotOf
  rcases (hA x hx).1 with q | ⟨j, h1, h2, q⟩
  · rw [q, if_pos (by decide)]; exact hx
  · rw [q, if_neg (nI_pos (by omega)), nI_clamp (by omega)]
    exact lastN_lt (fun k hk => (hA k hk).2) hE 100 j h2
theorem psf_congr (hA : LKa E A) (hE : E ≤ 100) (hF : FRM A f E) (e2 : ∀ k, k < E → Ax 232 k = A 232 k) (e3 : ∀ k, k < E → Ax 233 k = A 233 k) (e8 : Ax 238 f = A 238 f) (e9 : Ax 239 f = A 239 f) : PSf Ax f = PSf A f := by
  obtain ⟨⟨s, hs, q8⟩, q9⟩ := hF
  unfold PSf
  rw [e8, e9, q8, nI_clamp (by omega)]
  rcases q9 with q9 | ⟨r, hr, q9⟩
  · rw [q9, if_pos (by decide), if_pos (by decide)]; exact slot_congr hA hE e2 e3 hs
  · rw [q9, if_neg (nI_pos (by omega)), if_neg (nI_pos (by omega)), nI_clamp (by omega)]; exact slot_congr hA hE e2 e3 hr
theorem psf_lt (hA : LKa E A) (hE : E ≤ 100) (hF : FRM A f E) : (PSf A f).1 < E := by
  obtain ⟨⟨s, hs, q8⟩, q9⟩ := hF
  unfold PSf
  rw [q8, nI_clamp (by omega)]
  rcases q9 with q9 | ⟨r, hr, q9⟩
  · rw [q9, if_pos (by decide)]; exact slot_lt hA hE hs
  · rw [q9, if_neg (nI_pos (by omega)), nI_clamp (by omega)]; exact slot_lt hA hE hr
/-- what was there before, and an element at E of its own, placed -/
theorem leaf_plc {k' : Nat} (hA : LKa E A) (hE : E ≤ 100) (hF : FRM A f E) (hk : E ≤ k') (d : ∀ k, k < E → Ax 228 k = A 228 k ∧ Ax 229 k = A 229 k ∧ Ax 230 k = A 230 k ∧ Ax 231 k = A 231 k) (e2 : ∀ k, k < E → Ax 232 k = A 232 k) (e3 : ∀ k, k < E → Ax 233 k = A 233 k) (n3 : Ax 233 k' = -1) (e4 : ∀ m, m < u → Ax 234 m = A 234 m) (e8 : Ax 238 f = A 238 f) (e9 : Ax 239 f = A 239 f) : PLC A (plcS Ax f k') E u (PSf A f) k' := by
  have hp := psf_congr hA hE hF e2 e3 e8 e9
  have hlt := psf_lt hA hE hF
  refine ⟨fun k hk => ?_, fun k hk h => ?_, fun k hk h => ?_, ?_, ?_, fun m hm => ?_⟩
  · rw [plcS_ne (by decide) (by decide) (by decide), plcS_ne (by decide) (by decide) (by decide), plcS_ne (by decide) (by decide) (by decide), plcS_ne (by decide) (by decide) (by decide)]; exact d k hk
  · rw [plc_2 (by rw [hp]; exact h)]; exact e2 k hk
  · rw [plc_3 (by rw [hp]; exact h)]; exact e3 k hk
  · rw [← hp]; exact plc_s
  · rw [plc_3 (fun z => by rw [hp] at z; rw [← z] at hlt; simp only [] at hlt; omega)]; exact n3
  · rw [plcS_ne (by decide) (by decide) (by decide)]; exact e4 m hm
theorem leaf_frs {k' : Nat} (e : ∀ j, 235 ≤ j → j ≤ 239 → Ax j = A j) : FRS A (plcS Ax f k') f ∧ plcS Ax f k' 238 f = A 238 f := by
  refine ⟨⟨fun g hg => ?_, ?_, ?_, ?_⟩, ?_⟩
  · rw [plcS_ne (by decide) (by decide) (by decide), plcS_ne (by decide) (by decide) (by decide), plcS_ne (by decide) (by decide) (by decide), plc_9, if_neg (by omega), e 236 (by decide) (by decide), e 237 (by decide) (by decide), e 238 (by decide) (by decide), e 239 (by decide) (by decide)]
    exact ⟨rfl, rfl, rfl, rfl⟩
  · rw [plcS_ne (by decide) (by decide) (by decide), e 236 (by decide) (by decide)]
  · rw [plcS_ne (by decide) (by decide) (by decide), e 237 (by decide) (by decide)]
  · rw [plc_9, if_pos rfl]
  · rw [plcS_ne (by decide) (by decide) (by decide), e 238 (by decide) (by decide)]
end P5
