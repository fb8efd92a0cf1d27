section ST
theorem lastN_cong2 {nx nx' : Nat → Int32} {E : Nat} (hl : ∀ k, k < E → lk E k (nx k)) (hE : E ≤ 100) : ∀ n k, k < E → (∀ x, x ∈ chL nx (n + 1) (nI k) → nx' x = nx x) → lastN nx' n k = lastN nx n k
  | 0, k, hk, h => rfl
  | n + 1, k, hk, h => by
    have h0 : nx' k = nx k := h k (by rw [chL_n (by omega)]; exact List.mem_cons_self ..)
    unfold lastN
    rw [h0]
    rcases hl k hk with q | ⟨j, j1, j2, q⟩
    · rw [q, if_pos (by decide), if_pos (by decide)]
    · rw [q, if_neg (nI_pos (by omega)), if_neg (nI_pos (by omega)), nI_clamp (by omega)]
      exact lastN_cong2 hl hE n j j2 (fun x hx => h x (by rw [chL_n (by omega), q]; exact List.mem_cons_of_mem _ hx))
theorem lastN_fuel {nx : Nat → Int32} {E : Nat} (hl : ∀ k, k < E → lk E k (nx k)) (hE : E ≤ 100) : ∀ n m k, k < E → E ≤ n + k + 1 → E ≤ m + k + 1 → lastN nx n k = lastN nx m k
  | 0, 0, k, hk, h1, h2 => rfl
  | 0, m + 1, k, hk, h1, h2 => by
    conv => rhs; unfold lastN
    rcases hl k hk with q | ⟨j, j1, j2, q⟩
    · rw [q, if_pos (by decide)]; rfl
    · omega
  | n + 1, 0, k, hk, h1, h2 => by
    conv => lhs; unfold lastN
    rcases hl k hk with q | ⟨j, j1, j2, q⟩
    · rw [q, if_pos (by decide)]; rfl
    · omega
  | n + 1, m + 1, k, hk, h1, h2 => by
    unfold lastN
    rcases hl k hk with q | ⟨j, j1, j2, q⟩
    · rw [q, if_pos (by decide), if_pos (by decide)]
    · rw [q, if_neg (nI_pos (by omega)), if_neg (nI_pos (by omega)), nI_clamp (by omega)]
      exact lastN_fuel hl hE n m j j2 (by omega) (by omega)
/-- a chain with a chain behind it -/
theorem chL_more {nx nx' : Nat → Int32} {E E9 k r : Nat} (hl : ∀ k, k < E → lk E k (nx k)) (hl9 : ∀ k, k < E9 → lk E9 k (nx' k)) (hE : E ≤ E9) (hE9 : E9 ≤ 100) (hk : k < E) (hr : r < E9) (h1 : nx' (lastN nx 100 k) = nI r) (h2 : ∀ x, x < E → x ≠ lastN nx 100 k → nx' x = nx x) : chL nx' 100 (nI k) = chL nx 100 (nI k) ++ chL nx' 100 (nI r) := by
  obtain ⟨m', hm, e⟩ := chL_app hl (by omega) (show r < 2 ^ 31 by omega) 100 k hk (by omega) h1 (fun x hx hne => h2 x (chL_all (P := fun _ => True) hl (by omega) (fun _ _ _ _ _ _ => trivial) 100 k hk trivial x hx).1 hne) 100
  rw [chL_fuel hl9 hE9 100 (100 + 100) k (by omega) (by omega) (by omega), e, chL_fuel hl9 hE9 m' 100 r hr (by omega) (by omega)]
variable {own rl : Nat → Nat} {R1 R9 Ec E9 S S9 u u9 i c la9 : Nat} {A1 A9 Bw B9 B10 : Ro} {fi la fi' la' : Nat → Int32}
theorem PI9.step (h : PI9 own rl R1 Ec S u A1 Bw fi la) (hi : i < R1) (hb : Ec + 1 < E9 ∧ E9 ≤ 100 ∧ S ≤ S9 ∧ u ≤ u9)
    (d : ∀ k, k < Ec → A9 228 k = A1 228 k ∧ A9 229 k = A1 229 k ∧ A9 230 k = A1 230 k ∧ A9 231 k = A1 231 k) (e4 : ∀ m, m < u → A9 234 m = A1 234 m)
    (hEc : A9 228 Ec = 0 ∧ B9 228 Ec = 0 ∧ B9 232 Ec = nI (Ec + 1) ∧ B9 233 Ec = -1 ∧ A9 233 Ec = -1) (hnew : ∀ k, Ec + 1 ≤ k → k < E9 → Mt A9 B9 S9 u9 k) (hO : OLD Bw B9 Ec S)
    (hLA : LKa E9 A9) (hLB : LKa Ec Bw) (hLB9 : LKa E9 B10) (e2 : ∀ k, k < Ec → A9 232 k = A1 232 k) (hsep : SEP A9 Ec E9 la9)
    (hB : ∀ j, j ≠ 233 → B10 j = B9 j) (hB3 : ∀ k, Ec ≤ k → B10 233 k = B9 233 k)
    (h33 : ∀ k, k < Ec → A9 233 k = A1 233 k ∨ (A9 233 k = nI (Ec + 1) ∧ own k = c + 1)) (h11 : ∀ k, k < Ec → B10 233 k = Bw 233 k ∨ (B10 233 k = nI Ec ∧ rl k = i + 1))
    (hc : c = Ec ∨ (c < Ec ∧ rl c = i + 1)) (hE2 : ∀ x, x < E9 → A9 232 Ec = nI x → x = Ec + 1 ∧ c = Ec)
    (h7 : ∀ z, z < R1 → z ≠ i → A9 227 z = A1 227 z ∧ fi' z = fi z ∧ la' z = la z) (h7n : ∀ z, R1 ≤ z → z < R9 → A9 227 z < 0 ∧ fi' z = -1 ∧ la' z = -1)
    (hcase : (c = Ec ∧ fi' i = nI Ec ∧ la' i = nI Ec ∧ A9 227 i = nI Ec ∧ A9 232 Ec = nI (Ec + 1)) ∨ (c < Ec ∧ fi' i = nI c ∧ la' i = nI Ec ∧ A9 227 i = nI c ∧ ∃ x l, x < Ec ∧ l < Ec ∧ A1 232 c = nI x ∧ own x = c + 1 ∧ A1 228 c = 0 ∧ lastN (Bw 233) 100 c = l ∧ B10 233 l = nI Ec ∧ (∀ k, k < Ec → k ≠ l → B10 233 k = Bw 233 k) ∧ A9 233 (lastN (A1 233) 100 x) = nI (Ec + 1) ∧ (∀ k, k < Ec → k ≠ lastN (A1 233) 100 x → A9 233 k = A1 233 k) ∧ pL A1 c = (chL (Bw 233) 100 (nI c)).flatMap (pL Bw))) :
    PI R9 E9 S9 u9 A9 B10 fi' la' := by
  obtain ⟨p1, p2, p3, p4, p5, p6, p7⟩ := h
  obtain ⟨hb1, hb2, hb3, hb4⟩ := hb
  obtain ⟨f1, f2, f3, f4, f5⟩ := hEc
  obtain ⟨U, u1, u2, u3, u4⟩ := hsep
  have hl1 : ∀ k, k < Ec → lk Ec k (A1 233 k) := fun k hk => (p2 k hk).2
  have hl9 : ∀ k, k < E9 → lk E9 k (A9 233 k) := fun k hk => (hLA k hk).2
  have hlb : ∀ k, k < Ec → lk Ec k (Bw 233 k) := fun k hk => (hLB k hk).2
  have hlb9 : ∀ k, k < E9 → lk E9 k (B10 233 k) := fun k hk => (hLB9 k hk).2
  have lkx : ∀ {E k x : Nat} {v : Int32}, lk E k v → E ≤ 100 → x < 100 → v = nI x → k < x ∧ x < E := by
    intro E k x v h1 h2 h3 h4
    rcases h1 with z | ⟨j, j1, j2, z⟩
    · rw [z] at h4; exact absurd h4.symm (nI_m (by omega))
    · have := (nI_eq (by omega) (by omega)).mp (z.symm.trans h4)
      omega
  obtain ⟨own', o1, o2, o3⟩ : ∃ own' : Nat → Nat, (∀ x, U x → own' x = c + 1) ∧ (∀ x, x ≤ Ec → own' x = own x) ∧ ∀ x, ¬ U x → Ec < x → own' x = 0 := by
    haveI : DecidablePred U := fun x => Classical.propDecidable (U x)
    refine ⟨fun x => if U x then c + 1 else if x ≤ Ec then own x else 0, fun x hx => if_pos hx, fun x hx => ?_, fun x hx h2 => ?_⟩
    · show (if U x then c + 1 else if x ≤ Ec then own x else 0) = own x
      rw [if_neg (fun z => by have := u3 x z; omega), if_pos hx]
    · show (if U x then c + 1 else if x ≤ Ec then own x else 0) = 0
      rw [if_neg hx, if_neg (by omega)]
  obtain ⟨rl', r1, r2, r3⟩ : ∃ rl' : Nat → Nat, rl' Ec = i + 1 ∧ (∀ x, x < Ec → rl' x = rl x) ∧ ∀ x, Ec < x → rl' x = 0 := by
    refine ⟨fun x => if x = Ec then i + 1 else if x < Ec then rl x else 0, if_pos rfl, fun x hx => ?_, fun x hx => ?_⟩
    · show (if x = Ec then i + 1 else if x < Ec then rl x else 0) = rl x
      rw [if_neg (by omega), if_pos hx]
    · show (if x = Ec then i + 1 else if x < Ec then rl x else 0) = 0
      rw [if_neg (by omega), if_neg (by omega)]
  -- chains of the reference: their owners
  have memA : ∀ k, k < Ec → ∀ x, x ∈ pL A1 k → x < Ec ∧ rl x = 0 ∧ (own x = 0 ∨ own x = k + 1) := by
    intro k hk x hx
    unfold pL at hx
    rcases (p2 k hk).1 with z | ⟨j, j1, j2, z⟩
    · rw [z, chL_m] at hx; cases hx
    · rw [z] at hx
      have hj := p3 k j hk j2 z
      have := chL_all (P := fun x => rl x = 0 ∧ (own x = 0 ∨ own x = k + 1)) hl1 (by omega) (fun a y ha hy hp e => by
        have := p4 a y ha hy e
        exact ⟨this.1, by rw [this.2]; exact hp.2⟩) 100 j j2 hj x hx
      exact ⟨this.1, this.2.2⟩
  have keepA : ∀ k, k < Ec → k ≠ c → pL A9 k = pL A1 k := by
    intro k hk hkc
    refine pL_congr (e2 k hk) (fun x hx => ?_)
    obtain ⟨m1, m2, m3⟩ := memA k hk x hx
    rcases h33 x m1 with z | ⟨z, z2⟩
    · exact z
    · rcases m3 with m3 | m3 <;> omega
  have h10 : ∀ x, x < Ec → rl x ≠ i + 1 → B10 233 x = Bw 233 x := fun x hx hr => (h11 x hx).resolve_right (fun z => hr z.2)
  have e32 : ∀ k, k < Ec → B10 232 k = Bw 232 k := fun k hk => by rw [hB 232 (by decide)]; exact (hO.1 k hk).2.2.2.2.1
  have keepB : ∀ k, k < Ec → (∀ x, x ∈ pL Bw k → x < Ec ∧ rl x = 0) → pL B10 k = pL Bw k := by
    intro k hk hm
    refine pL_congr (e32 k hk) (fun x hx => ?_)
    obtain ⟨m1, m2⟩ := hm x hx
    exact h10 x m1 (by omega)
  have newL : ∀ y, Ec < y → y < E9 → chL (B10 233) 100 (nI y) = chL (A9 233) 100 (nI y) := by
    intro y h1 h2
    refine chL_cong 100 _ (fun x hx => ?_)
    have := chL_all (P := fun _ => True) hl9 hb2 (fun _ _ _ _ _ _ => trivial) 100 y h2 trivial x hx
    rw [hB3 x (by omega)]
    exact (hnew x (by omega) this.1).2.2
  have pEc : pL B10 Ec = chL (A9 233) 100 (nI (Ec + 1)) := by
    unfold pL
    rw [hB 232 (by decide), f3]
    exact newL _ (by omega) (by omega)
  have memR : ∀ k, k < Ec → rl k ≠ 0 → ∀ x, x ∈ pL Bw k → x < Ec ∧ rl x = 0 := fun k hk hr x hx => ⟨((p6 k hk hr).2.1 x hx).2, ((p6 k hk hr).2.1 x hx).1⟩
  refine ⟨own', rl', fun k hk => ?_, hLA, fun k x hk hx e => ?_, fun k x hk hx e => ?_, fun k hk hr => ?_, fun k hk hr => ?_, fun z hz => ?_⟩
  · have key : DK A9 B9 S9 u9 k := by
      by_cases q : k < Ec
      · obtain ⟨c1, c2, c3, c4, c5, c6⟩ := hO.1 k q
        exact (p1 k q).keep (d k q) ⟨c1, c2, c3, c4⟩ hb3 hb4 e4 hO.2
      · by_cases q2 : k = Ec
        · subst q2; exact Or.inl ⟨f1, f2⟩
        · exact (hnew k (by omega) hk).1
    refine key.keep ⟨rfl, rfl, rfl, rfl⟩ ?_ (Nat.le_refl _) (Nat.le_refl _) (fun _ _ => rfl) (fun _ _ => by rw [hB 234 (by decide)])
    rw [hB 228 (by decide), hB 229 (by decide), hB 230 (by decide), hB 231 (by decide)]; exact ⟨rfl, rfl, rfl, rfl⟩
  · by_cases q : k < Ec
    · rw [e2 k q] at e
      have hx2 := lkx (p2 k q).1 (by omega) (by omega) e
      have := p3 k x q (by omega) e
      rw [r2 x (by omega), o2 x (by omega)]; exact this
    · by_cases q2 : k = Ec
      · subst q2
        obtain ⟨g1, g2⟩ := hE2 x hx e
        rw [g1, r3 _ (by omega), o1 _ u1, g2]; exact ⟨rfl, Or.inr rfl⟩
      · have hx2 := lkx (hLA k hk).1 hb2 (by omega) e
        exact ⟨r3 x (by omega), Or.inl (o3 x ((u4 k x (by omega) hk hx).1 e) (by omega))⟩
  · by_cases q : k < Ec
    · rcases h33 k q with z | ⟨z, z2⟩
      · rw [z] at e
        have hx2 := lkx (p2 k q).2 (by omega) (by omega) e
        have := p4 k x q (by omega) e
        rw [r2 x (by omega), o2 x (by omega), o2 k (by omega)]; exact this
      · have hx2 : Ec + 1 = x := (nI_eq (by omega) (by omega)).mp (z.symm.trans e)
        subst hx2
        rw [r3 _ (by omega), o1 _ u1, o2 k (by omega), z2]; exact ⟨rfl, rfl⟩
    · by_cases q2 : k = Ec
      · subst q2
        rw [f5] at e; exact absurd e.symm (nI_m (by omega))
      · have hx2 := lkx (hLA k hk).2 hb2 (by omega) e
        have hu := (u4 k x (by omega) hk hx).2 e
        refine ⟨r3 x (by omega), ?_⟩
        by_cases q3 : U k
        · rw [o1 x (hu.mpr q3), o1 k q3]
        · rw [o3 x (fun y => q3 (hu.mp y)) (by omega), o3 k q3 (by omega)]
  · by_cases q : k < Ec
    · rw [r2 k q] at hr
      have hm : ∀ x, x ∈ pL Bw k → x < Ec ∧ rl x = 0 := fun x hx => by
        rw [p5 k q hr] at hx
        have := memA k q x hx
        exact ⟨this.1, this.2.1⟩
      rw [keepB k q hm, keepA k q (by rcases hc with z | ⟨z, z2⟩; omega; intro e; rw [e] at hr; omega)]
      exact p5 k q hr
    · by_cases q2 : k = Ec
      · subst q2; omega
      · obtain ⟨-, m1, m2⟩ := hnew k (by omega) hk
        unfold pL
        rw [hB 232 (by decide), m1]
        rcases (hLA k hk).1 with z | ⟨j, j1, j2, z⟩
        · rw [z, chL_m, chL_m]
        · rw [z]; exact newL j (by omega) j2
  · by_cases q : k < Ec
    · rw [r2 k q] at hr
      obtain ⟨g1, g2, g3⟩ := p6 k q hr
      refine ⟨by rw [hB 228 (by decide), (hO.1 k q).1]; exact g1, fun x hx => ?_, fun x hx e => ?_⟩
      · rw [keepB k q (memR k q hr)] at hx
        have := memR k q hr x hx
        exact ⟨by rw [r2 x this.1]; exact this.2, by omega⟩
      · rcases h11 k q with z | ⟨z, z2⟩
        · rw [z] at e
          have hx2 := lkx (hLB k q).2 (by omega) (by omega) e
          rw [r2 x hx2.2, r2 k q]; exact g3 x hx2.2 e
        · have hx2 : Ec = x := (nI_eq (by omega) (by omega)).mp (z.symm.trans e)
          subst hx2
          rw [r1, r2 k q, z2]
    · by_cases q2 : k = Ec
      · subst q2
        refine ⟨by rw [hB 228 (by decide)]; exact f2, fun x hx => ?_, fun x hx e => ?_⟩
        · rw [pEc] at hx
          have := chL_all (P := fun _ => True) hl9 hb2 (fun _ _ _ _ _ _ => trivial) 100 _ (show k + 1 < E9 by omega) trivial x hx
          exact ⟨r3 x (by omega), this.1⟩
        · rw [hB3 k (Nat.le_refl _), f4] at e; exact absurd e.symm (nI_m (by omega))
      · exact absurd (r3 k (by omega)) hr
  · by_cases q : z < R1
    · by_cases qi : z = i
      · subst qi
        right
        rcases hcase with ⟨g1, g2, g3, g4, g5⟩ | ⟨g1, g2, g3, g4, x, l, x1, x2, x3, x4, x5, x6, x7, x8, x9, x10, x11⟩
        · refine ⟨Ec, Ec, Ec + 1, by omega, by omega, by omega, g4, g2, g3, ?_, f1, r1, g5, by rw [o1 _ u1, g1], ?_⟩
          · unfold lastN
            rw [hB3 Ec (Nat.le_refl _), f4, if_pos (by decide)]
          · have e1 : chL (B10 233) 100 (nI Ec) = [Ec] := by rw [chL_n (by omega), hB3 Ec (Nat.le_refl _), f4, chL_m]
            rw [e1]
            show pL A9 Ec = pL B10 Ec ++ []
            rw [List.append_nil, pEc]
            unfold pL
            rw [g5]
        · have hrc : rl c = z + 1 := hc.elim (fun y => by omega) (fun y => y.2)
          have ea : chL (A9 233) 100 (nI x) = chL (A1 233) 100 (nI x) ++ chL (A9 233) 100 (nI (Ec + 1)) := chL_more hl1 hl9 (by omega) hb2 x1 (by omega) x9 x10
          have eb : chL (B10 233) 100 (nI c) = chL (Bw 233) 100 (nI c) ++ chL (B10 233) 100 (nI Ec) := chL_more hlb hlb9 (by omega) hb2 g1 (by omega) (by rw [x6]; exact x7) (fun k hk hne => x8 k hk (by rw [← x6]; exact hne))
          have e1 : chL (B10 233) 100 (nI Ec) = [Ec] := by rw [chL_n (by omega), hB3 Ec (Nat.le_refl _), f4, chL_m]
          refine ⟨c, Ec, x, by omega, by omega, by omega, g4, g2, g3, ?_, by rw [(d c g1).1]; exact x5, by rw [r2 c g1]; exact hrc, by rw [e2 c g1]; exact x3, by rw [o2 x (by omega)]; exact x4, ?_⟩
          · have hf : lastN (Bw 233) 99 c = l := by rw [← x6]; exact lastN_fuel hlb (by omega) 99 100 c g1 (by omega) (by omega)
            exact lastN_app (r := Ec) hlb (by omega) (Nat.le_refl _) (by omega) 99 c g1 (by omega) (by rw [hf]; exact x7) (fun k hk hne => x8 k hk (by rw [← hf]; exact hne)) (by rw [hB3 Ec (Nat.le_refl _), f4]; decide)
          · rw [eb, e1, List.flatMap_append]
            have e3 : (chL (Bw 233) 100 (nI c)).flatMap (pL B10) = (chL (Bw 233) 100 (nI c)).flatMap (pL Bw) := flat_congr (fun e he => by
              have := chL_all (P := fun x => rl x = z + 1) hlb (by omega) (fun a y ha hy hp e => by
                have hne : rl a ≠ 0 := by omega
                rw [(p6 a ha hne).2.2 y hy e]; exact hp) 100 c g1 hrc e he
              exact keepB e this.1 (memR e this.1 (by have := this.2.2; omega)))
            rw [e3, ← x11]
            show pL A9 c = pL A1 c ++ (pL B10 Ec ++ [])
            rw [List.append_nil, pEc]
            show chL (A9 233) 100 (A9 232 c) = _
            rw [e2 c g1, x3, ea]
            unfold pL
            rw [x3]
      · obtain ⟨g1, g2, g3⟩ := h7 z q qi
        rw [g1, g2, g3]
        rcases p7 z q with y | ⟨t, l, x, y1, y2, y3, y4, y5, y6, y7, y8, y9, y10, y11, y12⟩
        · exact Or.inl y
        · have htc : t ≠ c := by
            rcases hc with w | ⟨w, w2⟩
            · omega
            · intro e; rw [e] at y9; omega
          have hrls : ∀ e, e ∈ chL (Bw 233) 100 (nI t) → e < Ec ∧ rl e = z + 1 := fun e he => by
            have := chL_all (P := fun x => rl x = z + 1) hlb (by omega) (fun a y ha hy hp e => by
              have hne : rl a ≠ 0 := by omega
              rw [(p6 a ha hne).2.2 y hy e]; exact hp) 100 t y1 y9 e he
            exact ⟨this.1, this.2.2⟩
          have ec : chL (B10 233) 100 (nI t) = chL (Bw 233) 100 (nI t) := chL_cong _ _ (fun e he => by
            have := hrls e he
            exact h10 e this.1 (by omega))
          refine Or.inr ⟨t, l, x, by omega, by omega, by omega, y4, y5, y6, ?_, by rw [(d t y1).1]; exact y8, by rw [r2 t y1]; exact y9, by rw [e2 t y1]; exact y10, by rw [o2 x (by omega)]; exact y11, ?_⟩
          · rw [← y7]
            refine lastN_cong2 hlb (by omega) 100 t y1 (fun e he => ?_)
            rw [chL_fuel hlb (by omega) (100 + 1) 100 t y1 (by omega) (by omega)] at he
            have := hrls e he
            exact h10 e this.1 (by omega)
          · rw [keepA t y1 htc, y12, ec]
            exact (flat_congr (fun e he => by
              have := hrls e he
              exact keepB e this.1 (memR e this.1 (by omega)))).symm
    · exact Or.inl (h7n z (by omega) hz)
end ST
