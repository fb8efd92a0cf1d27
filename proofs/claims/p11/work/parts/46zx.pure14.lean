/-! sets of bits, bit by bit -/
def Bt (x : Int32) (j : Nat) : Prop := x.toBitVec.getLsbD j = true
theorem Bt.ext {x y : Int32} (h : ∀ j, j < 32 → (Bt x j ↔ Bt y j)) : x = y := by
  apply Int32.toBitVec_inj.mp
  apply BitVec.eq_of_getLsbD_eq
  intro j hj
  have := h j hj
  unfold Bt at this
  exact Bool.eq_iff_iff.mpr this
theorem Bt.lt {x : Int32} {j : Nat} (h : Bt x j) : j < 32 := by
  rcases Nat.lt_or_ge j 32 with q | q
  · exact q
  · unfold Bt at h
    rw [BitVec.getLsbD_of_ge _ _ q] at h
    cases h
theorem Bt.or {x y : Int32} {j : Nat} : Bt (x ||| y) j ↔ Bt x j ∨ Bt y j := by
  unfold Bt
  rw [Int32.toBitVec_or, BitVec.getLsbD_or, Bool.or_eq_true]
theorem Bt.zero {j : Nat} : ¬ Bt 0 j := by
  unfold Bt
  show ¬ (0#32).getLsbD j = true
  rw [BitVec.getLsbD_zero]
  decide
theorem Bt.all {j : Nat} (h : j < 32) : Bt (-1) j := by
  unfold Bt
  show (BitVec.allOnes 32).getLsbD j = true
  rw [BitVec.getLsbD_allOnes]
  exact decide_eq_true h
theorem Bt.sub {x y : Int32} : sub x y ↔ ∀ j, Bt x j → Bt y j := by
  constructor
  · intro h j hj
    rw [← h]; exact Bt.or.mpr (Or.inl hj)
  · intro h
    refine Bt.ext (fun j _ => ?_)
    rw [Bt.or]
    exact ⟨fun z => z.elim (h j) id, Or.inr⟩
theorem sh_nat {k : Nat} (h : k < 32) : ((nI k &&& 31).toBitVec.smod 32).toNat = k := by
  revert h
  revert k
  decide
theorem Bt.shr {x : Int32} {k j : Nat} (hk : k < 32) : Bt (x >>> (nI k &&& 31)) j ↔ j < 32 ∧ (if k + j < 32 then Bt x (k + j) else Bt x 31) := by
  unfold Bt
  rw [Int32.toBitVec_shiftRight]
  simp only [BitVec.sshiftRight', BitVec.getLsbD_sshiftRight, sh_nat hk]
  by_cases q : j < 32
  · have hd : decide (32 ≤ j) = false := decide_eq_false (by omega)
    by_cases q2 : k + j < 32
    · simp [hd, q, q2]
    · simp only [hd, q, q2, if_false, true_and]
      rw [BitVec.msb_eq_getLsbD_last]
      simp
  · have hd : decide (32 ≤ j) = true := decide_eq_true (by omega)
    simp [hd, q]
theorem Bt.one {j : Nat} : Bt 1 j ↔ j = 0 := by
  unfold Bt
  show (1#32).getLsbD j = true ↔ j = 0
  rw [BitVec.getLsbD_one]
  simp
theorem Bt.and {x y : Int32} {j : Nat} : Bt (x &&& y) j ↔ Bt x j ∧ Bt y j := by
  unfold Bt
  rw [Int32.toBitVec_and, BitVec.getLsbD_and, Bool.and_eq_true]
theorem Bt.bit {x : Int32} {k : Nat} (hk : k < 32) : (x >>> (nI k &&& 31)) &&& 1 = 1 ↔ Bt x k := by
  constructor
  · intro h
    have h0 : Bt 1 0 := Bt.one.mpr rfl
    rw [← h, Bt.and, Bt.shr hk] at h0
    have := h0.1.2
    rw [if_pos (by omega)] at this
    exact this
  · intro h
    refine Bt.ext (fun j _ => ?_)
    rw [Bt.and, Bt.one, Bt.shr hk]
    constructor
    · exact fun z => z.2
    · intro z
      subst z
      refine ⟨⟨by omega, ?_⟩, rfl⟩
      rw [if_pos (by omega)]; exact h
theorem Bt.shl {k j : Nat} (hk : k < 32) : Bt (1 <<< (nI k &&& 31)) j ↔ j = k := by
  unfold Bt
  rw [Int32.toBitVec_shiftLeft]
  simp only [BitVec.shiftLeft_eq', BitVec.getLsbD_shiftLeft, sh_nat hk]
  show (decide (j < 32) && !decide (j < k) && (1#32).getLsbD (j - k)) = true ↔ j = k
  rw [BitVec.getLsbD_one]
  simp
  omega
theorem two_shl {i : Nat} (h : i < 31) : (2 : Int32) <<< (nI i &&& 31) = 1 <<< (nI (i + 1) &&& 31) := by
  revert h
  revert i
  decide
theorem Bt.stpN {g : Nat → Int32} {b j : Nat} {fr : Int32} : ∀ {n : Nat}, n ≤ 32 → (Bt (stepN g b fr n) j ↔ ∃ k, k < n ∧ Bt fr k ∧ Bt (g (b + k)) j)
  | 0, _ => ⟨fun z => absurd z Bt.zero, fun ⟨k, h, _⟩ => by omega⟩
  | n + 1, hn => by
    unfold stepN
    rw [Bt.or, Bt.stpN (by omega)]
    constructor
    · rintro (⟨k, h1, h2⟩ | h)
      · exact ⟨k, by omega, h2⟩
      · by_cases q : (fr >>> (nI n &&& 31)) &&& 1 = 1
        · rw [if_pos q] at h; exact ⟨n, by omega, (Bt.bit (by omega)).mp q, h⟩
        · rw [if_neg q] at h; exact absurd h Bt.zero
    · rintro ⟨k, h1, h2, h3⟩
      by_cases e : k = n
      · subst e
        rw [if_pos ((Bt.bit (by omega)).mpr h2)]; exact Or.inr h3
      · exact Or.inl ⟨k, by omega, h2, h3⟩
theorem Bt.step {g : Nat → Int32} {G p j : Nat} {fr : Int32} (hG : G ≤ 24) : Bt (stepF g G p fr) j ↔ ∃ k, k ≤ G ∧ Bt fr k ∧ Bt (g (25 * p + k)) j := by
  unfold stepF
  rw [Bt.stpN (by omega)]
  exact ⟨fun ⟨k, h1, h2⟩ => ⟨k, by omega, h2⟩, fun ⟨k, h1, h2⟩ => ⟨k, by omega, h2⟩⟩
theorem Bt.gN {g : Nat → Int32} {b j : Nat} {pl : Int32} : ∀ {n k : Nat} {acc : Int32}, k + n ≤ 31 → (Bt (goN g b pl n k acc) j ↔ Bt acc j ∨ ∃ m, k ≤ m ∧ m < k + n ∧ Bt pl m ∧ Bt (g (b + m)) j)
  | 0, k, acc, _ => ⟨Or.inl, fun z => z.elim id (fun ⟨m, h1, h2, _⟩ => by omega)⟩
  | n + 1, k, acc, hn => by
    unfold goN
    by_cases q : pl >>> (nI k &&& 31) = 0
    · rw [if_pos q]
      refine ⟨Or.inl, fun z => z.elim id (fun ⟨m, h1, h2, h3, _⟩ => ?_)⟩
      have : Bt (pl >>> (nI k &&& 31)) (m - k) := (Bt.shr (by omega)).mpr ⟨by omega, by rw [if_pos (by omega), show k + (m - k) = m by omega]; exact h3⟩
      rw [q] at this
      exact absurd this Bt.zero
    · rw [if_neg q, Bt.gN (by omega)]
      constructor
      · rintro (h | ⟨m, h1, h2, h3⟩)
        · by_cases q2 : (pl >>> (nI k &&& 31)) &&& 1 = 1
          · rw [if_pos q2, Bt.or] at h
            rcases h with h | h
            · exact Or.inl h
            · exact Or.inr ⟨k, by omega, by omega, (Bt.bit (by omega)).mp q2, h⟩
          · rw [if_neg q2] at h; exact Or.inl h
        · exact Or.inr ⟨m, by omega, by omega, h3⟩
      · rintro (h | ⟨m, h1, h2, h3, h4⟩)
        · refine Or.inl ?_
          split
          · exact Bt.or.mpr (Or.inl h)
          · exact h
        · by_cases e : m = k
          · subst e
            rw [if_pos ((Bt.bit (by omega)).mpr h3)]
            exact Or.inl (Bt.or.mpr (Or.inr h4))
          · exact Or.inr ⟨m, by omega, by omega, h3, h4⟩
theorem Bt.go {g : Nat → Int32} {G p i j : Nat} {pl : Int32} (hG : G ≤ 24) (hi : i ≤ G) : Bt (goF g G p pl i) j ↔ ∃ m, i ≤ m ∧ m ≤ G ∧ Bt pl m ∧ Bt (g (25 * p + m)) j := by
  unfold goF
  rw [Bt.gN (by omega)]
  constructor
  · rintro (h | ⟨m, h1, h2, h3⟩)
    · exact absurd h Bt.zero
    · exact ⟨m, h1, by omega, h3⟩
  · rintro ⟨m, h1, h2, h3⟩
    exact Or.inr ⟨m, h1, by omega, h3⟩
/-- all bits from i to G -/
def Iz (i G : Nat) (x : Int32) : Prop := ∀ j, Bt x j → i ≤ j ∧ j ≤ G
theorem Iz.zero {i G : Nat} : Iz i G 0 := fun j h => absurd h Bt.zero
theorem Iz.or {i G : Nat} {x y : Int32} (h1 : Iz i G x) (h2 : Iz i G y) : Iz i G (x ||| y) := fun j h => (Bt.or.mp h).elim (h1 j) (h2 j)
theorem Iz.bit {i k G : Nat} (h : i ≤ k) (hk : k ≤ G) (hG : G ≤ 24) : Iz i G (1 <<< (nI k &&& 31)) := fun j hj => by
  have := (Bt.shl (by omega)).mp hj
  omega
theorem Iz.mono {i i' G : Nat} {x : Int32} (h : Iz i' G x) (hi : i ≤ i') : Iz i G x := fun j hj => ⟨Nat.le_trans hi (h j hj).1, (h j hj).2⟩
theorem Iz.sub {i G : Nat} {x y : Int32} (h : Iz i G y) (hs : sub x y) : Iz i G x := fun j hj => h j (Bt.sub.mp hs j hj)
theorem go_step {g : Nat → Int32} {G p i : Nat} {x : Int32} (hG : G ≤ 24) (hi : i ≤ G) (hx : Iz i G x) : goF g G p x i = stepF g G p x := by
  refine Bt.ext (fun j _ => ?_)
  rw [Bt.go hG hi, Bt.step hG]
  exact ⟨fun ⟨m, h1, h2, h3⟩ => ⟨m, h2, h3⟩, fun ⟨m, h2, h3⟩ => ⟨m, (hx m h3.1).1, h2, h3⟩⟩
theorem go_mono {g g' : Nat → Int32} {G p i : Nat} {x y : Int32} (hG : G ≤ 24) (hi : i ≤ G) (h : ∀ m, i ≤ m → m ≤ G → sub (g (25 * p + m)) (g' (25 * p + m))) (hx : sub x y) : sub (goF g G p x i) (goF g' G p y i) := by
  refine Bt.sub.mpr (fun j hj => ?_)
  rw [Bt.go hG hi] at hj ⊢
  obtain ⟨m, h1, h2, h3, h4⟩ := hj
  exact ⟨m, h1, h2, Bt.sub.mp hx m h3, Bt.sub.mp (h m h1 h2) j h4⟩
theorem go_in {g : Nat → Int32} {G p i : Nat} {x : Int32} (hG : G ≤ 24) (hi : i ≤ G) (h : ∀ m, i ≤ m → m ≤ G → Iz m G (g (25 * p + m))) : Iz i G (goF g G p x i) := by
  intro j hj
  rw [Bt.go hG hi] at hj
  obtain ⟨m, h1, h2, h3, h4⟩ := hj
  have := h m h1 h2 j h4
  omega
theorem go_one {g : Nat → Int32} {G p i : Nat} (hG : G ≤ 24) (hi : i ≤ G) : goF g G p (1 <<< (nI i &&& 31)) i = g (25 * p + i) := by
  refine Bt.ext (fun j _ => ?_)
  rw [Bt.go hG hi]
  constructor
  · rintro ⟨m, h1, h2, h3, h4⟩
    rw [Bt.shl (by omega)] at h3
    subst h3; exact h4
  · intro h
    exact ⟨i, Nat.le_refl _, hi, (Bt.shl (by omega)).mpr rfl, h⟩
theorem row_mono {g g' : Nat → Int32} {G i : Nat} (hG : G ≤ 24) (hi : i ≤ G) : ∀ {ps : List Nat} {x y : Int32}, (∀ p, p ∈ ps → ∀ m, i ≤ m → m ≤ G → sub (g (25 * p + m)) (g' (25 * p + m))) → sub x y → sub (rowF g G i ps x) (rowF g' G i ps y)
  | [], x, y, _, hx => hx
  | p :: ps, x, y, h, hx => row_mono (ps := ps) hG hi (fun q hq => h q (List.mem_cons_of_mem _ hq)) (go_mono hG hi (h p (List.mem_cons_self ..)) hx)
theorem row_in {g : Nat → Int32} {G i : Nat} (hG : G ≤ 24) (hi : i ≤ G) : ∀ {ps : List Nat} {x : Int32}, (∀ p, p ∈ ps → ∀ m, i ≤ m → m ≤ G → Iz m G (g (25 * p + m))) → Iz i G x → Iz i G (rowF g G i ps x)
  | [], x, _, hx => hx
  | p :: ps, x, h, hx => row_in (ps := ps) hG hi (fun q hq => h q (List.mem_cons_of_mem _ hq)) (go_in hG hi (h p (List.mem_cons_self ..)))
theorem Bt.ch {g : Nat → Int32} {G i j : Nat} : ∀ {ps : List Nat} {x : Int32}, Bt (chF g G i 0 ps x) j ↔ Bt x j ∨ ∃ p, p ∈ ps ∧ Bt (g (25 * p + i)) j
  | [], x => ⟨Or.inl, fun z => z.elim id (fun ⟨p, h, _⟩ => by cases h)⟩
  | p :: ps, x => by
    unfold chF
    rw [if_neg (by decide), Bt.ch, Bt.or]
    constructor
    · rintro ((h | h) | ⟨q, h1, h2⟩)
      · exact Or.inl h
      · exact Or.inr ⟨p, List.mem_cons_self .., h⟩
      · exact Or.inr ⟨q, List.mem_cons_of_mem _ h1, h2⟩
    · rintro (h | ⟨q, h1, h2⟩)
      · exact Or.inl (Or.inl h)
      · rcases List.mem_cons.mp h1 with rfl | h1
        · exact Or.inl (Or.inr h2)
        · exact Or.inr ⟨q, h1, h2⟩
theorem ch_mono {g g' : Nat → Int32} {G G' i : Nat} {ps : List Nat} {x : Int32} (h : ∀ p, p ∈ ps → sub (g (25 * p + i)) (g' (25 * p + i))) : sub (chF g G i 0 ps x) (chF g' G' i 0 ps x) := by
  refine Bt.sub.mpr (fun j hj => ?_)
  rw [Bt.ch] at hj ⊢
  exact hj.elim Or.inl (fun ⟨p, h1, h2⟩ => Or.inr ⟨p, h1, Bt.sub.mp (h p h1) j h2⟩)
theorem ch_in {g : Nat → Int32} {G i : Nat} {ps : List Nat} {x : Int32} (h : ∀ p, p ∈ ps → Iz i G (g (25 * p + i))) (hx : Iz i G x) : Iz i G (chF g G i 0 ps x) := by
  intro j hj
  rw [Bt.ch] at hj
  exact hj.elim (hx j) (fun ⟨p, h1, h2⟩ => h p h1 j h2)
/-- repetition, without an early end -/
def iterP (g : Nat → Int32) (G p i : Nat) : Nat → Int32 → Int32
  | 0, x => x
  | n + 1, x => iterP g G p i n (x ||| goF g G p x i)
theorem iterP_fix {g : Nat → Int32} {G p i : Nat} {x : Int32} (h : x ||| goF g G p x i = x) : ∀ n, iterP g G p i n x = x
  | 0 => rfl
  | n + 1 => by unfold iterP; rw [h]; exact iterP_fix h n
theorem iterH_eq {g : Nat → Int32} {G p i : Nat} : ∀ (n : Nat) (x : Int32), iterH g G p i n x = iterP g G p i n x
  | 0, x => rfl
  | n + 1, x => by
    unfold iterH
    by_cases q : x ||| goF g G p x i = x
    · rw [if_pos q, iterP_fix q]
    · rw [if_neg q, iterH_eq n]; rfl
theorem iterP_mono {g g' : Nat → Int32} {G p i : Nat} (hG : G ≤ 24) (hi : i ≤ G) (h : ∀ m, i ≤ m → m ≤ G → sub (g (25 * p + m)) (g' (25 * p + m))) : ∀ (n : Nat) {x y : Int32}, sub x y → sub (iterP g G p i n x) (iterP g' G p i n y)
  | 0, x, y, hx => hx
  | n + 1, x, y, hx => iterP_mono hG hi h n (hx.or (go_mono hG hi h hx))
theorem iterG_mono {g g' : Nat → Int32} {G p i : Nat} (hG : G ≤ 24) (hi : i ≤ G) (h : ∀ m, i ≤ m → m ≤ G → sub (g (25 * p + m)) (g' (25 * p + m))) (x : Int32) : ∀ (n : Nat), sub (iterG g G p i x n) (iterG g' G p i x n)
  | 0 => sub.rf _
  | n + 1 => go_mono hG hi h (iterG_mono hG hi h x n)
theorem iterP_in {g : Nat → Int32} {G p i : Nat} (hG : G ≤ 24) (hi : i ≤ G) (h : ∀ m, i ≤ m → m ≤ G → Iz m G (g (25 * p + m))) : ∀ (n : Nat) {x : Int32}, Iz i G x → Iz i G (iterP g G p i n x)
  | 0, x, hx => hx
  | n + 1, x, hx => iterP_in hG hi h n (hx.or (go_in hG hi h))
theorem iterG_in {g : Nat → Int32} {G p i : Nat} (hG : G ≤ 24) (hi : i ≤ G) (h : ∀ m, i ≤ m → m ≤ G → Iz m G (g (25 * p + m))) {x : Int32} (hx : Iz i G x) : ∀ (n : Nat), Iz i G (iterG g G p i x n)
  | 0 => hx
  | n + 1 => go_in hG hi h
theorem rep_mono {g g' : Nat → Int32} {G p i : Nat} {lo hh : Int32} (hG : G ≤ 24) (hi : i ≤ G) (h : ∀ m, i ≤ m → m ≤ G → sub (g (25 * p + m)) (g' (25 * p + m))) : sub (repF g G p i lo hh) (repF g' G p i lo hh) := by
  unfold repF
  rw [iterH_eq, iterH_eq]
  exact iterP_mono hG hi h _ (iterG_mono hG hi h _ _)
theorem rep_in {g : Nat → Int32} {G p i : Nat} {lo hh : Int32} (hG : G ≤ 24) (hi : i ≤ G) (h : ∀ m, i ≤ m → m ≤ G → Iz m G (g (25 * p + m))) : Iz i G (repF g G p i lo hh) := by
  unfold repF
  rw [iterH_eq]
  exact iterP_in hG hi h _ (iterG_in hG hi h (Iz.bit (Nat.le_refl _) hi hG) _)
/-- the class's rows hold together -/
def CB (R E : Nat) (Bw : Ro) : Prop := LKa E Bw ∧ (∀ k, k < E → cl R (Bw 231 k)) ∧ (∀ r, r < R → cl E (Bw 227 r)) ∧ E ≤ 100 ∧ R ≤ 12
theorem chL_lt {nx : Nat → Int32} {E : Nat} {v : Int32} {n : Nat} (hl : ∀ k, k < E → lk E k (nx k)) (hE : E ≤ 100) (hv : cl E v) : ∀ x, x ∈ chL nx n v → x < E := by
  intro x hx
  rcases hv with rfl | ⟨j, h1, rfl⟩
  · rw [chL_m] at hx; cases hx
  · exact (chL_all (P := fun _ => True) hl hE (fun _ _ _ _ _ _ => trivial) n j h1 trivial x hx).1
theorem cl.clamp {E : Nat} {v : Int32} (h : cl E v) (h0 : 0 < E) (hE : E ≤ 100) : v.toNatClampNeg < E := by
  rcases h with rfl | ⟨j, h1, rfl⟩
  · exact h0
  · rw [nI_clamp (by omega)]; exact h1
section FC
variable {R E G i k : Nat} {Bw : Ro} {g g' : Nat → Int32}
theorem fc_mono (hB : CB R E Bw) (hG : G ≤ 24) (hi : i ≤ G) (hk : k < E) (h : ∀ p, p < E → ∀ m, i ≤ m → m ≤ G → sub (g (25 * p + m)) (g' (25 * p + m))) : sub (fcF Bw G k i g) (fcF Bw G k i g') := by
  obtain ⟨b1, b2, b3, b4, b5⟩ := hB
  have hl : ∀ k, k < E → lk E k (Bw 233 k) := fun k hk => (b1 k hk).2
  have hp : (Bw 232 k).toNatClampNeg < E := (b1 k hk).1.cl.clamp (by omega) b4
  have hL : ∀ p, p ∈ chL (Bw 233) 100 (Bw 232 k) → p < E := chL_lt hl b4 (b1 k hk).1.cl
  unfold fcF
  split
  · exact ch_mono (fun p hp => h p (hL p hp) i (Nat.le_refl _) hi)
  split
  · exact row_mono hG hi (fun p hp => h p (hL p hp)) (sub.rf _)
  split
  · exact rep_mono hG hi (h _ hp)
  split
  · exact (sub.rf _).or (go_mono hG hi (h _ hp) (sub.rf _))
  split
  · rcases b2 k hk with q | ⟨r, h1, q⟩
    · rw [q, if_pos (by decide)]; exact sub.rf _
    · rw [q, if_neg (nI_pos (by omega)), nI_clamp (by omega), if_neg (nI_pos (by omega))]
      exact ch_mono (fun p hp => h p (chL_lt hl b4 (b3 r h1) p hp) i (Nat.le_refl _) hi)
  · exact h k hk i (Nat.le_refl _) hi
theorem fc_in (hB : CB R E Bw) (hG : G ≤ 24) (hi : i ≤ G) (hk : k < E) (h : ∀ p, p < E → ∀ m, i ≤ m → m ≤ G → Iz m G (g (25 * p + m))) : Iz i G (fcF Bw G k i g) := by
  obtain ⟨b1, b2, b3, b4, b5⟩ := hB
  have hl : ∀ k, k < E → lk E k (Bw 233 k) := fun k hk => (b1 k hk).2
  have hp : (Bw 232 k).toNatClampNeg < E := (b1 k hk).1.cl.clamp (by omega) b4
  have hL : ∀ p, p ∈ chL (Bw 233) 100 (Bw 232 k) → p < E := chL_lt hl b4 (b1 k hk).1.cl
  have h1 : Iz i G (1 <<< (nI i &&& 31)) := Iz.bit (Nat.le_refl _) hi hG
  unfold fcF
  split
  · exact ch_in (fun p hp => h p (hL p hp) i (Nat.le_refl _) hi) Iz.zero
  split
  · exact row_in hG hi (fun p hp => h p (hL p hp)) h1
  split
  · exact rep_in hG hi (h _ hp)
  split
  · exact h1.or (go_in hG hi (h _ hp))
  split
  · rcases b2 k hk with q | ⟨r, h1, q⟩
    · rw [q, if_pos (by decide)]; exact Iz.zero
    · rw [q, if_neg (nI_pos (by omega)), nI_clamp (by omega)]
      exact ch_in (fun p hp => h p (chL_lt hl b4 (b3 r h1) p hp) i (Nat.le_refl _) hi) Iz.zero
  · exact h k hk i (Nat.le_refl _) hi
theorem fc_local (hB : CB R E Bw) (hG : G ≤ 24) (hi : i ≤ G) (hk : k < E) (h : ∀ p, p < E → ∀ m, i ≤ m → m ≤ G → g (25 * p + m) = g' (25 * p + m)) : fcF Bw G k i g = fcF Bw G k i g' := by
  have h1 := fc_mono hB hG hi hk (g := g) (g' := g') (fun p hp m m1 m2 => by rw [h p hp m m1 m2]; exact sub.rf _)
  have h2 := fc_mono hB hG hi hk (g := g') (g' := g) (fun p hp m m1 m2 => by rw [h p hp m m1 m2]; exact sub.rf _)
  exact Bt.ext (fun j _ => ⟨Bt.sub.mp h1 j, Bt.sub.mp h2 j⟩)
theorem fc_ch (h0 : ¬ Bw 228 k = 0) (h1 : ¬ Bw 228 k = 1) (h2 : ¬ Bw 228 k = 2) (h3 : ¬ Bw 228 k = 3) (h4 : ¬ Bw 228 k = 4) : fcF Bw G k i g = g (25 * k + i) := by
  unfold fcF
  rw [if_neg h0, if_neg h1, if_neg h2, if_neg h3, if_neg h4]
end FC
