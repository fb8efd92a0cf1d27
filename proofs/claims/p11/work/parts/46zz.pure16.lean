section CP
variable {own rl : Nat → Nat} {R E S u G : Nat} {A Bw : Ro} {fi la inp : Nat → Int32}
/-- what is known of the characters, repeats and input -/
def CI9 (u E : Nat) (A : Ro) : Prop := (∀ m, m < u → ¬ A 234 m < 0) ∧ ∀ k, k < E → A 228 k = 2 → A 230 k = -1 ∨ ¬ A 230 k < 0
def II9 (G : Nat) (inp : Nat → Int32) (A : Ro) : Prop := ∀ m, m < G → inp m = A 240 m ∧ ¬ A 240 m < 0
theorem chr_str {k i o q t : Nat} (hi : i ≤ G) (hb : o + t ≤ 240) (hq : q + t ≤ u) (hu : u ≤ 240) (e8 : A 228 k = 4) (b8 : Bw 228 k = (if A 231 k = 0 then 5 else 6)) (b9 : Bw 229 k = nI o) (b0 : Bw 230 k = nI (o + t)) (a9 : A 229 k = nI q) (a0 : A 230 k = nI t) (hc : ∀ m, m < t → Bw 234 (o + m) = A 234 (q + m)) (hn : ∀ m, m < u → ¬ A 234 m < 0) (hin : II9 G inp A) (h : Nat → Int32) : fitF A G k i h = chrF Bw inp G k i ∧ (G ≤ 24 → Iz i G (chrF Bw inp G k i)) := by
  have h56 : Bw 228 k = 5 ∨ Bw 228 k = 6 := by
    rw [b8]; split
    · exact Or.inl rfl
    · exact Or.inr rfl
  have ed : (Bw 230 k - Bw 229 k).toNatClampNeg = t := by rw [b9, b0, nI_suby, nI_clamp (by omega)]
  have key : (¬ goodN (A 240) (A 234) (A 231 k) G i q t t = 0) ↔ stcN (Bw 234) inp G (decide (Bw 228 k = 5)) i o t 0 = true := by
    rw [good_all, stc_all]
    have hsm : decide (Bw 228 k = 5) = true ↔ A 231 k = 0 := by
      rw [decide_eq_true_eq, b8]
      by_cases z : A 231 k = 0
      · rw [if_pos z]; exact ⟨fun _ => z, fun _ => rfl⟩
      · rw [if_neg z]; exact ⟨fun w => absurd w (by decide), fun w => absurd w z⟩
    constructor
    · rintro ⟨w1, w2⟩ m - hm
      have hm : m < t := by omega
      have e1 : hereF G inp (i + m) = A 240 (i + m) := by unfold hereF; rw [if_pos (by omega)]; exact (hin (i + m) (by omega)).1
      have w := same_ne.mp (w2 m hm)
      rw [e1, hc m hm]
      by_cases z : A 231 k = 0
      · rw [if_pos (hsm.mpr z)]
        exact (w.elim (fun y => by rw [y]) (fun y => y.2)).symm
      · rw [if_neg (fun y => z (hsm.mp y))]
        exact (w.elim id (fun y => absurd y.1 z)).symm
    · intro w
      have hit : i + t ≤ G := by
        refine Classical.byContradiction (fun z => ?_)
        have hm : G - i < t := by omega
        have w1 := w (G - i) (by omega) (by omega)
        have e1 : hereF G inp (i + (G - i)) = -1 := by unfold hereF; rw [if_neg (by omega)]
        have e2 := hn (q + (G - i)) (by omega)
        rw [e1, hc _ hm] at w1
        by_cases z : A 231 k = 0
        · rw [if_pos (hsm.mpr z)] at w1
          exact smF_pos e2 (w1.trans (by decide))
        · rw [if_neg (fun y => z (hsm.mp y))] at w1
          rw [w1] at e2
          exact e2 (by decide)
      refine ⟨hit, fun m hm => same_ne.mpr ?_⟩
      have e1 : hereF G inp (i + m) = A 240 (i + m) := by unfold hereF; rw [if_pos (by omega)]; exact (hin (i + m) (by omega)).1
      have w1 := w m (by omega) (by omega)
      rw [e1, hc m hm] at w1
      by_cases z : A 231 k = 0
      · rw [if_pos (hsm.mpr z)] at w1
        exact Or.inr ⟨z, w1.symm⟩
      · rw [if_neg (fun y => z (hsm.mp y))] at w1
        exact Or.inl w1.symm
  unfold fitF chrF
  rw [if_neg (by rw [e8]; decide), if_pos e8, if_pos h56, ed, a9, a0, b9, nI_clamp (show q < 2 ^ 31 by omega), nI_clamp (show t < 2 ^ 31 by omega), nI_clamp (show o < 2 ^ 31 by omega)]
  by_cases z : goodN (A 240) (A 234) (A 231 k) G i q t t = 0
  · rw [if_pos z, if_neg (fun y => (key.mpr y) z)]
    exact ⟨rfl, fun _ => Iz.zero⟩
  · rw [if_neg z, if_pos (key.mp z)]
    have := (good_all.mp z).1
    exact ⟨rfl, fun hG => Iz.bit (by omega) this hG⟩
theorem chr_rng {k i : Nat} (e8 : A 228 k = 5) (b8 : Bw 228 k = 7) (b9 : Bw 229 k = A 229 k) (b0 : Bw 230 k = A 230 k) (hin : II9 G inp A) (hG : G ≤ 24) (h : Nat → Int32) : fitF A G k i h = chrF Bw inp G k i ∧ Iz i G (chrF Bw inp G k i) := by
  have f1 : fitF A G k i h = (if i < G ∧ ¬ (A 240 i < A 229 k ∨ A 230 k < A 240 i) then 2 <<< (nI i &&& 31) else 0) := by unfold fitF; rw [if_pos e8]
  have f2 : chrF Bw inp G k i = (if ¬ hereF G inp i = -1 ∧ ¬ hereF G inp i < A 229 k ∧ ¬ A 230 k < hereF G inp i then 1 <<< (nI (i + 1) &&& 31) else 0) := by unfold chrF; rw [if_neg (by rw [b8]; decide), if_pos b8, b9, b0]
  rw [f1, f2]
  by_cases q : i < G
  · have e1 : hereF G inp i = A 240 i := by unfold hereF; rw [if_pos q]; exact (hin i q).1
    have e2 : ¬ A 240 i = -1 := fun z => (hin i q).2 (by rw [z]; decide)
    rw [e1, two_shl (by omega)]
    by_cases z : A 240 i < A 229 k ∨ A 230 k < A 240 i
    · rw [if_neg (fun y => y.2 z), if_neg (fun y => z.elim y.2.1 y.2.2)]
      exact ⟨rfl, Iz.zero⟩
    · rw [if_pos ⟨q, z⟩, if_pos ⟨e2, fun y => z (Or.inl y), fun y => z (Or.inr y)⟩]
      exact ⟨rfl, Iz.bit (by omega) (by omega) hG⟩
  · have e1 : hereF G inp i = -1 := by unfold hereF; rw [if_neg q]
    rw [e1, if_neg (fun y => q y.1), if_neg (fun y => y.1 rfl)]
    exact ⟨rfl, Iz.zero⟩
/-- characters give no bits outside -/
theorem chr_in {k i : Nat} (hd : DK A Bw S u k) (hi : i ≤ G) (hG : G ≤ 24) (hS : S ≤ 240) (hu : u ≤ 240) (hn : ∀ m, m < u → ¬ A 234 m < 0) (hin : II9 G inp A) : Iz i G (chrF Bw inp G k i) := by
  have nc : ¬ isC Bw k → Iz i G (chrF Bw inp G k i) := fun z => by rw [chr_0 z]; exact Iz.zero
  rcases hd with ⟨-, q⟩ | ⟨-, q⟩ | ⟨-, q, -⟩ | ⟨-, q⟩ | ⟨-, q, -⟩ | ⟨e8, b8, b9, b0⟩ | ⟨e8, b8, o, q, t, b9, b0, a9, a0, c1, c2, c3⟩
  · exact nc (fun z => z.1 q)
  · exact nc (fun z => z.2.1 q)
  · exact nc (fun z => z.2.2.1 q)
  · exact nc (fun z => z.2.2.2.1 q)
  · exact nc (fun z => z.2.2.2.2 q)
  · exact (chr_rng e8 b8 b9 b0 hin hG (fun _ => 0)).2
  · exact (chr_str hi (by omega) c2 hu e8 b8 b9 b0 a9 a0 c3 hn hin (fun _ => 0)).2 hG
theorem parts_lt (h : PI9 own rl R E S u A Bw fi la) (hE : E ≤ 100) {k : Nat} (hk : k < E) : ∀ x, x ∈ pL A k → x < E ∧ rl x = 0 := by
  obtain ⟨p1, p2, p3, p4, p5, p6, p7⟩ := h
  intro x hx
  unfold pL at hx
  rcases (p2 k hk).1 with z | ⟨j, j1, j2, z⟩
  · rw [z, chL_m] at hx; cases hx
  · rw [z] at hx
    have := chL_all (P := fun x => rl x = 0) (fun k hk => (p2 k hk).2) hE (fun a y ha hy hp e => (p4 a y ha hy e).1) 100 j j2 (p3 k j hk j2 z).1 x hx
    exact ⟨this.1, this.2.2⟩
/-- one element, at one place, on both sides -/
theorem cmp {gR g : Nat → Int32} {p i : Nat} (h : PI9 own rl R E S u A Bw fi la) (h27 : ∀ r, r < R → Bw 227 r = fi r) (hE : E ≤ 100) (hR : R ≤ 12) (hS : S ≤ 240) (hu : u ≤ 240) (hKD : KD R E u A) (hFU : FU E A (fun _ => False)) (hCI : CI9 u E A) (hin : II9 G inp A) (hG : G ≤ 24) (hi : i ≤ G) (hp : p < E) (hr : rl p = 0)
    (c1 : ∀ x, x < E → rl x = 0 → ∀ m, i ≤ m → m ≤ G → gR (25 * x + m) = g (25 * x + m) ∧ Iz m G (g (25 * x + m))) (c2 : ∀ r t, r < R → t < E → A 227 r = nI t → gR (25 * t + i) = chF g G i 0 (chL (Bw 233) 100 (fi r)) 0) :
    (isC Bw p → fitF A G p i gR = chrF Bw inp G p i) ∧ (¬ isC Bw p → fitF A G p i gR = fcF Bw G p i g) := by
  have hpl := parts_lt h hE hp
  obtain ⟨p1, p2, p3, p4, p5, p6, p7⟩ := h
  have epl : chL (Bw 233) 100 (Bw 232 p) = chL (A 233) 100 (A 232 p) := p5 p hp hr
  have one : A 232 p ≠ -1 → ∃ x, x < E ∧ rl x = 0 ∧ (A 232 p).toNatClampNeg = x ∧ (Bw 232 p).toNatClampNeg = x := by
    intro hne
    rcases (p2 p hp).1 with z | ⟨x, x1, x2, z⟩
    · exact absurd z hne
    · refine ⟨x, x2, (p3 p x hp x2 z).1, by rw [z, nI_clamp (by omega)], ?_⟩
      rw [z, chL_n (by omega)] at epl
      unfold chL at epl
      by_cases q : Bw 232 p < 0
      · rw [if_pos q] at epl; cases epl
      · rw [if_neg q] at epl
        exact (List.cons.inj epl).1
  rcases p1 p hp with ⟨e8, b8⟩ | ⟨e8, b8⟩ | ⟨e8, b8, b9, b0⟩ | ⟨e8, b8⟩ | ⟨e8, b8, b1⟩ | ⟨e8, b8, b9, b0⟩ | ⟨e8, b8, o, q, t, b9, b0, a9, a0, d1, d2, d3⟩
  · refine ⟨fun z => absurd b8 z.1, fun _ => ?_⟩
    unfold fitF fcF
    rw [e8, if_neg (by decide), if_neg (by decide), if_neg (by decide), if_neg (by decide), if_neg (by decide), if_neg (by decide), if_pos b8, epl]
    exact ch_cong (fun x hx => (c1 x (hpl x hx).1 (hpl x hx).2 i (Nat.le_refl _) hi).1)
  · refine ⟨fun z => absurd b8 z.2.1, fun _ => ?_⟩
    unfold fitF fcF
    rw [e8, if_neg (by decide), if_neg (by decide), if_neg (by decide), if_neg (by decide), if_neg (by decide), if_pos rfl, if_neg (by rw [b8]; decide), if_pos b8, epl]
    exact row_ch hG hi (fun x hx => c1 x (hpl x hx).1 (hpl x hx).2) (Iz.bit (Nat.le_refl _) hi hG)
  · refine ⟨fun z => absurd b8 z.2.2.1, fun _ => ?_⟩
    obtain ⟨x, x1, x2, x3, x4⟩ := one ((hFU p hp (Or.inl e8)).resolve_right id)
    unfold fitF fcF
    rw [e8, if_neg (by decide), if_neg (by decide), if_neg (by decide), if_pos rfl, if_neg (by rw [b8]; decide), if_neg (by rw [b8]; decide), if_pos b8, x3, x4, b9, b0]
    exact rep_times hG hi (c1 x x1 x2) (hCI.2 p hp e8)
  · refine ⟨fun z => absurd b8 z.2.2.2.1, fun _ => ?_⟩
    obtain ⟨x, x1, x2, x3, x4⟩ := one ((hFU p hp (Or.inr e8)).resolve_right id)
    unfold fitF fcF
    rw [e8, if_neg (by decide), if_neg (by decide), if_neg (by decide), if_neg (by decide), if_pos rfl, if_neg (by rw [b8]; decide), if_neg (by rw [b8]; decide), if_neg (by rw [b8]; decide), if_pos b8, x3, x4, go_one hG hi, (c1 x x1 x2 i (Nat.le_refl _) hi).1]
  · refine ⟨fun z => absurd b8 z.2.2.2.2, fun _ => ?_⟩
    obtain ⟨r, r1, r2⟩ := (hKD p hp).1 e8
    have f1 : fitF A G p i gR = (if A 227 r < 0 then 0 else gR (25 * (A 227 r).toNatClampNeg + i)) := by
      unfold fitF
      rw [e8, if_neg (by decide), if_neg (by decide), if_pos rfl, r2, nI_clamp (by omega)]
    have f2 : fcF Bw G p i g = chF g G i 0 (chL (Bw 233) 100 (fi r)) 0 := by
      unfold fcF
      rw [if_neg (by rw [b8]; decide), if_neg (by rw [b8]; decide), if_neg (by rw [b8]; decide), if_neg (by rw [b8]; decide), if_pos b8, b1, r2, if_neg (nI_pos (by omega)), nI_clamp (by omega), h27 r r1]
    rw [f1, f2]
    rcases p7 r r1 with ⟨y1, y2, -⟩ | ⟨t, l, x, y1, -, -, y4, y5, -⟩
    · rw [if_pos y1, y2, chL_m]; rfl
    · rw [y4, if_neg (nI_pos (by omega)), nI_clamp (by omega)]
      exact c2 r t r1 y1 y4
  · refine ⟨fun _ => (chr_rng e8 b8 b9 b0 hin hG gR).1, fun z => absurd ⟨by rw [b8]; decide, by rw [b8]; decide, by rw [b8]; decide, by rw [b8]; decide, by rw [b8]; decide⟩ z⟩
  · refine ⟨fun _ => (chr_str hi (by omega) d2 hu e8 b8 b9 b0 a9 a0 d3 hCI.1 hin gR).1, fun z => absurd ?_ z⟩
    have h56 : Bw 228 p = 5 ∨ Bw 228 p = 6 := by
      rw [b8]; split
      · exact Or.inl rfl
      · exact Or.inr rfl
    rcases h56 with w | w <;> exact ⟨by rw [w]; decide, by rw [w]; decide, by rw [w]; decide, by rw [w]; decide, by rw [w]; decide⟩
/-- a rule's chain of alternatives -/
theorem chain_rl (h : PI9 own rl R E S u A Bw fi la) (hLB : LKa E Bw) (hE : E ≤ 100) {r t : Nat} (ht : t < E) (hr : rl t = r + 1) : ∀ c, c ∈ chL (Bw 233) 100 (nI t) → c < E ∧ rl c = r + 1 := by
  intro c hc
  obtain ⟨p1, p2, p3, p4, p5, p6, p7⟩ := h
  have := chL_all (P := fun x => rl x = r + 1) (fun k hk => (hLB k hk).2) hE (fun a y ha hy hp e => by rw [(p6 a ha (by omega)).2.2 y hy e]; exact hp) 100 t ht hr c hc
  exact ⟨this.1, this.2.2⟩
theorem fit_0 {gR : Nat → Int32} {t i : Nat} (e8 : A 228 t = 0) : fitF A G t i gR = chF gR G i 0 (pL A t) 0 := by
  unfold fitF pL
  rw [e8, if_neg (by decide), if_neg (by decide), if_neg (by decide), if_neg (by decide), if_neg (by decide), if_neg (by decide)]
theorem fc_0 {g : Nat → Int32} {c i : Nat} (b8 : Bw 228 c = 0) : fcF Bw G c i g = chF g G i 0 (pL Bw c) 0 := by
  unfold fcF pL
  rw [if_pos b8]
/-- both charts give the same ends of a rule -/
theorem charts {gR : Nat → Int32} (h : PI9 own rl R E S u A Bw fi la) (h27 : ∀ r, r < R → Bw 227 r = fi r) (hB : CB R E Bw) (hS : S ≤ 240) (hu : u ≤ 240) (hKD : KD R E u A) (hFU : FU E A (fun _ => False)) (hCI : CI9 u E A) (hin : II9 G inp A) (hG : G ≤ 24) (hFx : Fx A G E gR) (hLs : Lst A G E gR) (g0 : Nat → Int32) {r i : Nat} (hr : r < R) (hi : i ≤ G) :
    chF (fillN Bw inp G E (G + 1) g0) G i 0 (chL (Bw 233) 100 (Bw 227 r)) 0 = if A 227 r < 0 then 0 else gR (25 * (A 227 r).toNatClampNeg + i) := by
  obtain ⟨hLB, hb2, hb3, hE, hR⟩ := id hB
  have hc : ∀ k, k < E → ∀ m, m ≤ G → Iz m G (chrF Bw inp G k m) := fun k hk m hm => chr_in (h.1 k hk) hm hG hS hu hCI.1 hin
  obtain ⟨gC, eC⟩ : ∃ z, z = fillN Bw inp G E (G + 1) g0 := ⟨_, rfl⟩
  rw [← eC]
  have hC := fill_all (g := g0) hB hG hc PrC.top
  rw [← eC] at hC
  obtain ⟨p1, p2, p3, p4, p5, p6, p7⟩ := id h
  have nC0 : ∀ c, c < E → rl c ≠ 0 → ∀ i, i ≤ G → gC (25 * c + i) = chF gC G i 0 (pL Bw c) 0 := fun c hc' hrc i hi => by
    rw [← (hC.2 c hc' i (Nat.zero_le _) hi).1, fc_0 (p6 c hc' hrc).1]
  -- the reference's within the class's
  obtain ⟨hh, q1, q2, q3, q4⟩ : ∃ hh : Nat → Int32, (∀ k, k < E → ∀ i, i ≤ G → rl k = 0 → hh (25 * k + i) = gC (25 * k + i)) ∧ (∀ k, k < E → ∀ i, i ≤ G → rl k ≠ 0 → (∃ r, r < R ∧ A 227 r = nI k) → hh (25 * k + i) = chF gC G i 0 (chL (Bw 233) 100 (nI k)) 0) ∧ (∀ k, k < E → ∀ i, i ≤ G → rl k ≠ 0 → ¬ (∃ r, r < R ∧ A 227 r = nI k) → hh (25 * k + i) = -1) ∧ ∀ q, ¬ inR G E q → hh q = -1 := by
    haveI : ∀ q, Decidable (inR G E q) := fun q => Classical.propDecidable _
    haveI : ∀ k, Decidable (∃ r, r < R ∧ A 227 r = nI k) := fun k => Classical.propDecidable _
    have dm : ∀ k i, i ≤ 24 → (25 * k + i) / 25 = k ∧ (25 * k + i) % 25 = i := fun k i hi => by omega
    refine ⟨fun q => if inR G E q then (if rl (q / 25) = 0 then gC q else if (∃ r, r < R ∧ A 227 r = nI (q / 25)) then chF gC G (q % 25) 0 (chL (Bw 233) 100 (nI (q / 25))) 0 else -1) else -1, fun k hk i hi hz => ?_, fun k hk i hi hz he => ?_, fun k hk i hi hz he => ?_, fun q hq => if_neg hq⟩
    · simp only [(dm k i (by omega)).1]
      rw [if_pos ⟨k, i, hk, hi, rfl⟩, if_pos hz]
    · simp only [(dm k i (by omega)).1, (dm k i (by omega)).2]
      rw [if_pos ⟨k, i, hk, hi, rfl⟩, if_neg hz, if_pos he]
    · simp only [(dm k i (by omega)).1]
      rw [if_pos ⟨k, i, hk, hi, rfl⟩, if_neg hz, if_neg he]
  have hall : ∀ x : Int32, sub x (-1) := fun x => Bt.sub.mpr (fun j hj => Bt.all hj.lt)
  have top : ∀ r t, r < R → t < E → A 227 r = nI t → rl t = r + 1 ∧ fi r = nI t ∧ A 228 t = 0 ∧ pL A t = (chL (Bw 233) 100 (nI t)).flatMap (pL Bw) := by
    intro r t hr ht e
    rcases p7 r hr with y | ⟨t', l, x, y1, y2, y3, y4, y5, y6, y7, y8, y9, y10, y11, y12⟩
    · exact absurd y.1 (by rw [e]; exact nI_pos (by omega))
    · obtain rfl : t = t' := (nI_eq (by omega) (by omega)).mp (e.symm.trans y4)
      exact ⟨y9, y5, y8, y12⟩
  have hpre : Pre A G E hh := by
    intro k hk i hi
    by_cases z : rl k = 0
    · obtain ⟨m1, m2⟩ := cmp h h27 hE hR hS hu hKD hFU hCI hin hG hi hk z (gR := hh) (g := gC) (fun x hx hz m m1 m2 => ⟨q1 x hx m m2 hz, (hC.1 x hx m (Nat.zero_le _) m2).1⟩) (fun r t hr ht e => by
        obtain ⟨t1, t2, -⟩ := top r t hr ht e
        rw [q2 t ht i hi (by omega) ⟨r, hr, e⟩, t2])
      rw [q1 k hk i hi z]
      obtain ⟨f1, f2⟩ := hC.2 k hk i (Nat.zero_le _) hi
      by_cases w : isC Bw k
      · rw [m1 w, f2 w]; exact sub.rf _
      · rw [m2 w, f1]; exact sub.rf _
    · by_cases y : ∃ r, r < R ∧ A 227 r = nI k
      · obtain ⟨r, hr, e⟩ := id y
        obtain ⟨t1, t2, t3, t4⟩ := top r k hr hk e
        rw [q2 k hk i hi z y, fit_0 t3, t4]
        refine Bt.sub.mpr (fun j hj => ?_)
        rw [Bt.ch] at hj ⊢
        rcases hj with hj | ⟨x, x1, x2⟩
        · exact Or.inl hj
        · obtain ⟨c, c1, c2⟩ := List.mem_flatMap.mp x1
          obtain ⟨cE, cr⟩ := chain_rl h hLB hE hk t1 c c1
          obtain ⟨xr, xE⟩ := (p6 c cE (by omega)).2.1 x c2
          rw [q1 x xE i hi xr] at x2
          refine Or.inr ⟨c, c1, ?_⟩
          rw [nC0 c cE (by omega) i hi, Bt.ch]
          exact Or.inr ⟨x, c2, x2⟩
      · rw [q3 k hk i hi z y]; exact hall _
  have hle : ple gR hh := hLs hh hpre (fun q hq => by rw [q4 q hq]; exact hall _)
  -- the class's within the reference's
  obtain ⟨H, r1, r2, r3⟩ : ∃ H : Nat → Int32, (∀ k, k < E → ∀ i, i ≤ G → rl k = 0 → H (25 * k + i) = gR (25 * k + i)) ∧ (∀ k, k < E → ∀ i, i ≤ G → ∀ r t, r < R → t < E → A 227 r = nI t → rl k = r + 1 → k ∈ chL (Bw 233) 100 (nI t) → H (25 * k + i) = gR (25 * t + i)) ∧ (∀ k, k < E → ∀ i, i ≤ G → rl k ≠ 0 → ¬ (∃ r t, r < R ∧ t < E ∧ A 227 r = nI t ∧ rl k = r + 1 ∧ k ∈ chL (Bw 233) 100 (nI t)) → H (25 * k + i) = -1) := by
    haveI : ∀ k, Decidable (∃ r t, r < R ∧ t < E ∧ A 227 r = nI t ∧ rl k = r + 1 ∧ k ∈ chL (Bw 233) 100 (nI t)) := fun k => Classical.propDecidable _
    have dm : ∀ k i, i ≤ 24 → (25 * k + i) / 25 = k ∧ (25 * k + i) % 25 = i := fun k i hi => by omega
    refine ⟨fun q => if rl (q / 25) = 0 then gR q else if (∃ r t, r < R ∧ t < E ∧ A 227 r = nI t ∧ rl (q / 25) = r + 1 ∧ (q / 25) ∈ chL (Bw 233) 100 (nI t)) then gR (25 * (A 227 (rl (q / 25) - 1)).toNatClampNeg + q % 25) else -1, fun k hk i hi hz => ?_, fun k hk i hi r t a1 a2 a3 a4 a5 => ?_, fun k hk i hi hz he => ?_⟩
    · simp only [(dm k i (by omega)).1]
      rw [if_pos hz]
    · simp only [(dm k i (by omega)).1, (dm k i (by omega)).2]
      rw [if_neg (by omega), if_pos ⟨r, t, a1, a2, a3, a4, a5⟩, show rl k - 1 = r by omega, a3, nI_clamp (by omega)]
    · simp only [(dm k i (by omega)).1]
      rw [if_neg hz, if_neg he]
  have self : ∀ t, t < E → t ∈ chL (Bw 233) 100 (nI t) := fun t ht => by rw [chL_n (by omega)]; exact List.mem_cons_self ..
  have hPrC : PrC Bw inp G E H := by
    intro k hk i hi
    by_cases z : rl k = 0
    · obtain ⟨m1, m2⟩ := cmp h h27 hE hR hS hu hKD hFU hCI hin hG hi hk z (gR := gR) (g := H) (fun x hx hz m m1 m2 => ⟨(r1 x hx m m2 hz).symm, by
        rw [r1 x hx m m2 hz]
        refine Iz.sub (hC.1 x hx m (Nat.zero_le _) m2).1 ?_
        rw [← q1 x hx m m2 hz]; exact hle _⟩) (fun r t hr ht e => by
        obtain ⟨t1, t2, -⟩ := top r t hr ht e
        rw [t2]
        refine Bt.ext (fun j _ => ?_)
        rw [Bt.ch]
        constructor
        · intro y
          exact Or.inr ⟨t, self t ht, by rw [r2 t ht i hi r t hr ht e t1 (self t ht)]; exact y⟩
        · rintro (y | ⟨c, c1, c2⟩)
          · exact absurd y Bt.zero
          · obtain ⟨cE, cr⟩ := chain_rl h hLB hE ht t1 c c1
            rw [r2 c cE i hi r t hr ht e cr c1] at c2
            exact c2)
      have hfx := hFx k hk i hi
      rw [r1 k hk i hi z]
      by_cases w : isC Bw k
      · rw [fc_ch w.1 w.2.1 w.2.2.1 w.2.2.2.1 w.2.2.2.2, r1 k hk i hi z, ← m1 w, hfx]; exact ⟨sub.rf _, sub.rf _⟩
      · rw [← m2 w, hfx, chr_0 w]; exact ⟨sub.rf _, sub.zero _⟩
    · by_cases y : ∃ r t, r < R ∧ t < E ∧ A 227 r = nI t ∧ rl k = r + 1 ∧ k ∈ chL (Bw 233) 100 (nI t)
      · obtain ⟨r, t, hr, ht, e, kr, kc⟩ := y
        obtain ⟨t1, t2, t3, t4⟩ := top r t hr ht e
        have b8 := (p6 k hk z).1
        rw [r2 k hk i hi r t hr ht e kr kc, fc_0 b8, chr_0 (fun w => w.1 b8)]
        refine ⟨Bt.sub.mpr (fun j hj => ?_), sub.zero _⟩
        rw [← hFx t ht i hi, fit_0 t3, t4]
        rw [Bt.ch] at hj ⊢
        rcases hj with hj | ⟨x, x1, x2⟩
        · exact Or.inl hj
        · obtain ⟨xr, xE⟩ := (p6 k hk z).2.1 x x1
          rw [r1 x xE i hi xr] at x2
          exact Or.inr ⟨x, List.mem_flatMap.mpr ⟨k, kc, x1⟩, x2⟩
      · rw [r3 k hk i hi z y]; exact ⟨hall _, hall _⟩
  have hC2 := fill_all (g := g0) hB hG hc hPrC
  rw [← eC] at hC2
  rw [h27 r hr]
  rcases p7 r hr with ⟨y1, y2, -⟩ | ⟨t, l, x, y1, -, -, y4, y5, -, -, y8, y9, -⟩
  · rw [if_pos y1, y2, chL_m]; rfl
  · rw [y4, if_neg (nI_pos (by omega)), nI_clamp (by omega), y5]
    refine Bt.ext (fun j _ => ?_)
    rw [Bt.ch]
    constructor
    · rintro (w | ⟨c, c1, c2⟩)
      · exact absurd w Bt.zero
      · obtain ⟨cE, cr⟩ := chain_rl h hLB hE y1 y9 c c1
        have := (hC2.1 c cE i (Nat.zero_le _) hi).2
        rw [r2 c cE i hi r t hr y1 y4 cr c1] at this
        exact Bt.sub.mp this j c2
    · intro w
      have w2 := Bt.sub.mp (hle (25 * t + i)) j w
      rw [q2 t y1 i hi (by omega) ⟨r, hr, y4⟩, Bt.ch] at w2
      exact w2
end CP
