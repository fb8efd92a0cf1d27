theorem and255i (y : Int64) : ∃ j : Nat, j ≤ 255 ∧ (y &&& 255).toInt32 = nI j := by
  have h1 : (y &&& 255).toBitVec.toNat ≤ 255 := by
    rw [Int64.toBitVec_and, BitVec.toNat_and]
    exact Nat.and_le_right
  refine ⟨(y &&& 255).toBitVec.toNat, h1, ?_⟩
  apply Int32.toInt_inj.mp
  rw [nI_toInt (by omega), Int64.toInt_toInt32, show (y &&& 255).toInt = (y &&& 255).toBitVec.toInt from rfl, BitVec.toInt_eq_toNat_of_lt (by omega), Int.bmod_def]
  omega
theorem okI_cN {x : Int64} {k : Int32} (h : okI (by8 x k) = true) : cN (by8 x k) = by8 x k ∧ ¬ by8 x k < 0 := by
  obtain ⟨j, hj, e⟩ := and255i (x.toUInt64 >>> ((8 * k).toInt64.toUInt64 &&& Int64.toUInt64 63)).toInt64
  have e : by8 x k = nI j := e
  rw [e] at h ⊢
  have hj2 : j ≤ 127 := by
    unfold okI at h
    rw [decide_eq_true_eq] at h
    exact (nI_leI (b := 127) (by omega) (by omega)).mp h
  refine ⟨?_, nI_pos (by omega)⟩
  have key : ∀ j : Nat, j ≤ 127 → cN (nI j) = nI j := by decide
  exact key j hj2
section U
variable {R E I : Nat} {Bw : Ro} {inp H : Nat → Int32}
theorem Gn.pre {g : Nat → Int32} (h : Gn Bw inp I E 0 H g) : PrC Bw inp I E g := by
  intro k hk m hm
  obtain ⟨h1, h2⟩ := h.2 k hk m (Nat.zero_le _) hm
  rw [h1]
  refine ⟨sub.rf _, ?_⟩
  by_cases q : isC Bw k
  · rw [h2 q]; exact sub.rf _
  · rw [chr_0 q]; exact sub.zero _
theorem sub.anti {x y : Int32} (h1 : sub x y) (h2 : sub y x) : x = y := Bt.ext (fun j _ => ⟨Bt.sub.mp h1 j, Bt.sub.mp h2 j⟩)
def CW (R E I : Nat) (Bw : Ro) (inp : Nat → Int32) : Prop := CB R E Bw ∧ I ≤ 24 ∧ ∀ k, k < E → ∀ m, m ≤ I → Iz m I (chrF Bw inp I k m)
theorem fill_uniq (hW : CW R E I Bw inp) (g0 g1 : Nat → Int32) {k m : Nat} (hk : k < E) (hm : m ≤ I) : fillN Bw inp I E (I + 1) g0 (25 * k + m) = fillN Bw inp I E (I + 1) g1 (25 * k + m) := by
  have a := fill_all (g := g0) hW.1 hW.2.1 hW.2.2 PrC.top
  have b := fill_all (g := g1) hW.1 hW.2.1 hW.2.2 PrC.top
  have a2 := fill_all (g := g0) hW.1 hW.2.1 hW.2.2 b.pre
  have b2 := fill_all (g := g1) hW.1 hW.2.1 hW.2.2 a.pre
  exact (a2.1 k hk m (Nat.zero_le _) hm).2.anti (b2.1 k hk m (Nat.zero_le _) hm).2
/-- what the class's chart tells of a rule from a place on -/
def VV (Bw : Ro) (inp : Nat → Int32) (I E r i : Nat) : Int32 := chF (fillN Bw inp I E (I + 1) (fun _ => 0)) I i 0 (chL (Bw 233) 100 (Bw 227 r)) 0
theorem VV_of (hW : CW R E I Bw inp) (g0 : Nat → Int32) {r i : Nat} (hr : r < R) (hi : i ≤ I) : chF (fillN Bw inp I E (I + 1) g0) I i 0 (chL (Bw 233) 100 (Bw 227 r)) 0 = VV Bw inp I E r i := by
  unfold VV
  exact ch_cong (fun p hp => fill_uniq hW _ _ (chL_lt (fun k hk => (hW.1.1 k hk).2) hW.1.2.2.2.1 (hW.1.2.2.1 r hr) p hp) hi)
end U
theorem Fx.cong {A A' : Ro} {G E : Nat} {g : Nat → Int32} (h : Fx A G E g) (e : ∀ j, j ≠ 241 → A' j = A j) : Fx A' G E g := fun p hp i hi => by rw [fitF_congr e]; exact h p hp i hi
theorem Lst.cong {A A' : Ro} {G E : Nat} {g : Nat → Int32} (h : Lst A G E g) (e : ∀ j, j ≠ 241 → A' j = A j) : Lst A' G E g := fun h' hp ho => h h' (fun p hp' i hi => by rw [← fitF_congr e]; exact hp p hp' i hi) ho
/-- the text's row isn't looked at -/
theorem fitF_225 {A A' : Ro} {G p i : Nat} {g : Nat → Int32} (h : ∀ j, j ≠ 225 → A' j = A j) : fitF A' G p i g = fitF A G p i g := by
  unfold fitF
  rw [h 227 (by decide), h 228 (by decide), h 229 (by decide), h 230 (by decide), h 231 (by decide), h 232 (by decide), h 233 (by decide), h 234 (by decide), h 240 (by decide)]
theorem Fx.c25 {A A' : Ro} {G E : Nat} {g : Nat → Int32} (h : Fx A G E g) (e : ∀ j, j ≠ 225 → A' j = A j) : Fx A' G E g := fun p hp i hi => by rw [fitF_225 e]; exact h p hp i hi
theorem Lst.c25 {A A' : Ro} {G E : Nat} {g : Nat → Int32} (h : Lst A G E g) (e : ∀ j, j ≠ 225 → A' j = A j) : Lst A' G E g := fun h' hp ho => h h' (fun p hp' i hi => by rw [← fitF_225 e]; exact hp p hp' i hi) ho
theorem PI.cong {R E S u : Nat} {A A' Bw : Ro} {fi la : Nat → Int32} (h : PI R E S u A Bw fi la) (e : ∀ j, 227 ≤ j → j ≤ 234 → A' j = A j) : PI R E S u A' Bw fi la := by
  have e7 := e 227 (by decide) (by decide)
  have e8 := e 228 (by decide) (by decide)
  have e9 := e 229 (by decide) (by decide)
  have e0 := e 230 (by decide) (by decide)
  have e1 := e 231 (by decide) (by decide)
  have e2 := e 232 (by decide) (by decide)
  have e3 := e 233 (by decide) (by decide)
  have e4 := e 234 (by decide) (by decide)
  unfold PI PI9 DK LKa pL at *
  simp only [e7, e8, e9, e0, e1, e2, e3, e4]
  exact h
theorem CI9.cong2 {u E : Nat} {A A' : Ro} (h : CI9 u E A) (e : ∀ j, 227 ≤ j → j ≤ 234 → A' j = A j) : CI9 u E A' := by
  unfold CI9
  rw [e 228 (by decide) (by decide), e 230 (by decide) (by decide), e 234 (by decide) (by decide)]; exact h
theorem Gd.cong2 {R E u : Nat} {A A' : Ro} (h : Gd R E u A) (e : ∀ j, 227 ≤ j → j ≤ 234 → A' j = A j) : Gd R E u A' := by
  unfold Gd LK TP KD FU
  rw [e 227 (by decide) (by decide), e 228 (by decide) (by decide), e 229 (by decide) (by decide), e 230 (by decide) (by decide), e 232 (by decide) (by decide), e 233 (by decide) (by decide)]
  exact h
theorem PI.b27 {R E S u : Nat} {A Bw : Ro} {fi la : Nat → Int32} (h : PI R E S u A Bw fi la) : PI R E S u A (va_up Bw 227 fi) fi la := by
  obtain ⟨own, rl, h⟩ := h
  exact ⟨own, rl, h⟩
/-- all that both charts need, and that both give the same -/
theorem charts_VV {R E S u G : Nat} {A Bw : Ro} {fi la inp : Nat → Int32} (h : PI R E S u A Bw fi la) (h27 : ∀ r, r < R → Bw 227 r = fi r) (hB : CB R E Bw) (hS : S ≤ 240) (hu : u ≤ 240) (hG : G ≤ 24) (hGd : Gd R E u A) (hCI : CI9 u E A) (hin : II9 G inp A) : CW R E G Bw inp ∧ ∀ gR, Fx A G E gR → Lst A G E gR → ∀ r i, r < R → i ≤ G → (if A 227 r < 0 then 0 else gR (25 * (A 227 r).toNatClampNeg + i)) = VV Bw inp G E r i := by
  obtain ⟨own, rl, h⟩ := h
  refine ⟨⟨hB, hG, fun k hk m hm => chr_in (h.1 k hk) hm hG hS hu hCI.1 hin⟩, fun gR h1 h2 r i hr hi => ?_⟩
  exact (charts h h27 hB hS hu hGd.2.2.1 hGd.2.2.2 hCI hin hG h1 h2 (fun _ => 0) hr hi).symm
/-- the class's grammar, input and chart between calls, by rows -/
def CY (cy : Nat → ClassId) (ad : Nat → Nat) (R E I : Nat) (Bw : Ro) (inp : Nat → Int32) (mem : Nat → va_E) : Prop := ∃ (lim : Nat) (fl : Int32) (g : Nat → Int32), GI cy ad lim R E 1 mem ∧ EM cy ad R E Bw g mem ∧ IY cy ad I inp mem ∧ mem 223 = ctC ad fl ∧ (¬ fl = 0 → ∃ g0, g = fillN Bw inp I E (I + 1) g0)
section CYL
variable {cy : Nat → ClassId} {ad : Nat → Nat} {R E I G : Nat} {Bw : Ro} {inp : Nat → Int32} {mem mem' : Nat → va_E}
theorem IY.fr (h : IY cy ad I inp mem) (e : ∀ i, i = 3 ∨ i = 4 → mem' i = mem i) : IY cy ad I inp mem' := ⟨(e 3 (by omega)).trans h.1, h.2.1, (e 4 (by omega)).trans h.2.2⟩
theorem CY.fr (h : CY cy ad R E I Bw inp mem) (e : ∀ i, 3 ≤ i → i < 222 ∨ i = 223 → mem' i = mem i) : CY cy ad R E I Bw inp mem' := by
  obtain ⟨lim, fl, g, hG, hE, hY, hc, hf⟩ := h
  exact ⟨lim, fl, g, hG.frame (fun i q1 q2 => e i (by omega) (by omega)), hE.frame ⟨hG.1.2.1, hG.1.1⟩ (fun i hi => e i (by omega) (by omega)), hY.fr (fun i hi => e i (by omega) (by omega)), (e 223 (by omega) (by omega)).trans hc, hf⟩
/-- another input: the chart is forgotten -/
theorem CY.newin {I' : Nat} {inp' : Nat → Int32} (h : CY cy ad R E I Bw inp mem) (e : ∀ i, 5 ≤ i → i < 222 → mem' i = mem i) (hY : IY cy ad I' inp' mem') (hc : mem' 223 = ctC ad 0) : CY cy ad R E I' Bw inp' mem' := by
  obtain ⟨lim, fl, g, hG, hE, -, -, -⟩ := h
  exact ⟨lim, 0, g, hG.frame (fun i q1 q2 => e i (by omega) (by omega)), hE.frame ⟨hG.1.2.1, hG.1.1⟩ (fun i hi => e i (by omega) (by omega)), hY, hc, fun z => absurd rfl z⟩
/-- behind a look at the chart -/
theorem CY.look {lim r0 i0 : Nat} {fl fl' r : Int32} {g g' : Nat → Int32} (hW : CW R E I Bw inp) (hY : IY cy ad I inp mem) (hf : ¬ fl = 0 → ∃ g0, g = fillN Bw inp I E (I + 1) g0) (hfl : ¬ fl' = 0) (hC : CS cy ad lim R E 1 fl' (va_up mem 223 (.inr (1, [.ref (ad 3), .ref (ad 5), .int fl']))) mem') (hE : EM cy ad R E Bw g' mem') (hg : (¬ fl = 0 ∧ g' = g) ∨ (fl = 0 ∧ g' = fillN Bw inp I E (I + 1) g)) (hr : r = chF g' I i0 0 (chL (Bw 233) 100 (Bw 227 r0)) 0) (hr0 : r0 < R) (hi0 : i0 ≤ I) : CY cy ad R E I Bw inp mem' ∧ r = VV Bw inp I E r0 i0 ∧ ∀ i, i ≠ 223 → i < 20 ∨ 222 ≤ i → mem' i = mem i := by
  have e : ∀ i, i ≠ 223 → i < 20 ∨ 222 ≤ i → mem' i = mem i := fun i q q2 => (hC.2.2 i q2).trans (va_up_ne _ _ q)
  have hfi : ∃ g0, g' = fillN Bw inp I E (I + 1) g0 := by
    rcases hg with ⟨h1, h2⟩ | ⟨_, h2⟩
    · rw [h2]; exact hf h1
    · exact ⟨g, h2⟩
  refine ⟨⟨lim, fl', g', hC.1, hE, hY.fr (fun i hi => e i (by omega) (by omega)), (hC.2.2 223 (by omega)).trans hC.2.1, fun _ => hfi⟩, ?_, e⟩
  obtain ⟨g0, hg0⟩ := hfi
  rw [hr, hg0]
  exact VV_of hW g0 hr0 hi0
theorem em_of {lim S u : Nat} {A : Ro} {fi la : Nat → Int32} {nm : Nat → Int64} (hG : GI cy ad lim R E 1 mem) (hER : ER ad R E Bw mem) (hSR : SR cy ad S Bw mem) (hRC : RC ad R nm fi la mem) (hPI : PI R E S u A Bw fi la) (hFU : FU E A (fun _ => False)) (hS : S ≤ 240) : (∃ g, EM cy ad R E (va_up Bw 227 fi) g mem) ∧ CB R E (va_up Bw 227 fi) := by
  obtain ⟨own, rl, p1, p2, p3, p4, p5, p6, p7⟩ := hPI
  have hb := hG.1
  have hfi : ∀ r, r < R → cl E (fi r) := fun r hr => by
    rcases p7 r hr with ⟨_, y, _⟩ | ⟨t, l, x, y1, -, -, -, y5, -⟩
    · exact Or.inl y
    · exact Or.inr ⟨t, y1, y5⟩
  obtain ⟨g9, hg9⟩ : ∃ g9 : Nat → Nat → Int32, ∀ k, k < 100 → mem (21 + 2 * k) = .inl (cy 1, 25, .inl (g9 k)) := by
    refine Classical.axiomOfChoice (r := fun k (f : Nat → Int32) => k < 100 → mem (21 + 2 * k) = .inl (cy 1, 25, .inl f)) (fun k => ?_)
    by_cases q : k < 100
    · obtain ⟨f, hf⟩ := (hG.2.2.2.2.2.1 k q).2
      exact ⟨f, fun _ => hf⟩
    · exact ⟨fun _ => 0, fun z => absurd z q⟩
  have hne : ∀ k, k < E → Bw 228 k = 2 ∨ Bw 228 k = 3 → Bw 232 k ≠ -1 := by
    intro k hk h23 hm
    have hr : rl k = 0 := Classical.byContradiction (fun z => by
      have := (p6 k hk z).1
      rcases h23 with h | h <;> rw [this] at h <;> exact absurd h (by decide))
    have hA : A 228 k = 2 ∨ A 228 k = 3 := by
      rcases p1 k hk with ⟨_, b⟩ | ⟨_, b⟩ | ⟨a, _⟩ | ⟨a, _⟩ | ⟨_, b, _⟩ | ⟨_, b, _⟩ | ⟨_, b, _⟩
      · rcases h23 with h | h <;> rw [b] at h <;> exact absurd h (by decide)
      · rcases h23 with h | h <;> rw [b] at h <;> exact absurd h (by decide)
      · exact Or.inl a
      · exact Or.inr a
      · rcases h23 with h | h <;> rw [b] at h <;> exact absurd h (by decide)
      · rcases h23 with h | h <;> rw [b] at h <;> exact absurd h (by decide)
      · split at b <;> rcases h23 with h | h <;> rw [b] at h <;> exact absurd h (by decide)
    have hA2 := (hFU k hk hA).resolve_right id
    rcases (p2 k hk).1 with z | ⟨x, x1, x2, z⟩
    · exact hA2 z
    · have := p5 k hk hr
      unfold pL at this
      rw [hm, chL_m, z, chL_n (by omega)] at this
      cases this
  refine ⟨⟨fun q => g9 (q / 25) (q % 25), fun k hk => ?_, fun i hi => ⟨hfi i hi, nm i, vE ad (la i), hRC i hi⟩, S, hS, hSR.1, hSR.2, fun k hk h56 => ?_⟩, ⟨fun k hk => ⟨(hER k hk).2.2.1, (hER k hk).2.2.2⟩, fun k hk => (hER k hk).2.1, hfi, by omega, by omega⟩⟩
  · obtain ⟨c1, c2, c3, c4⟩ := hER k hk
    refine ⟨c1, c2, c3, c4, hne k hk, g9 k, hg9 k (by omega), fun i hi => ?_⟩
    show g9 k i = g9 ((25 * k + i) / 25) ((25 * k + i) % 25)
    rw [show (25 * k + i) / 25 = k by omega, show (25 * k + i) % 25 = i by omega]
  · have h56 : Bw 228 k = 5 ∨ Bw 228 k = 6 := h56
    rcases p1 k hk with ⟨_, b⟩ | ⟨_, b⟩ | ⟨_, b, _⟩ | ⟨_, b⟩ | ⟨_, b, _⟩ | ⟨_, b, _⟩ | ⟨_, b, o, q, t, b9, b0, a9, a0, d1, d2, d3⟩
    · rcases h56 with h | h <;> rw [b] at h <;> exact absurd h (by decide)
    · rcases h56 with h | h <;> rw [b] at h <;> exact absurd h (by decide)
    · rcases h56 with h | h <;> rw [b] at h <;> exact absurd h (by decide)
    · rcases h56 with h | h <;> rw [b] at h <;> exact absurd h (by decide)
    · rcases h56 with h | h <;> rw [b] at h <;> exact absurd h (by decide)
    · rcases h56 with h | h <;> rw [b] at h <;> exact absurd h (by decide)
    · exact ⟨o, t, b9, b0, d1⟩
end CYL
/-- what class and reference share of grammar, input and chart -/
def GY (cy : Nat → ClassId) (ad : Nat → Nat) (G : Nat) (inp : Nat → Int32) (J : Nat → Int32) (A : Ro) (mem : Nat → va_E) (R E : Nat) (Bw : Ro) : Prop := J 4 = nI R ∧ J 7 = nI E ∧ CY cy ad R E G Bw inp mem ∧ ∃ (S u : Nat) (fi la : Nat → Int32), (∀ r, r < R → Bw 227 r = fi r) ∧ PI R E S u A Bw fi la ∧ (S ≤ 240 ∧ u ≤ 240) ∧ Gd R E u A ∧ CI9 u E A ∧ CB R E Bw ∧ (J 26 = 0 → Fx A G E (A 241) ∧ Lst A G E (A 241))
def LY (cy : Nat → ClassId) (ad : Nat → Nat) (G : Nat) (J : Nat → Int32) (A : Ro) (mem : Nat → va_E) : Prop := ∃ inp : Nat → Int32, IY cy ad G inp mem ∧ II9 G inp A ∧ (J 4 = 0 ∨ ∃ (R E : Nat) (Bw : Ro), GY cy ad G inp J A mem R E Bw)
section LYL
variable {cy : Nat → ClassId} {ad : Nat → Nat} {R E G : Nat} {J J' : Nat → Int32} {A A' Bw : Ro} {inp : Nat → Int32} {mem mem' : Nat → va_E}
theorem LY.fr (h : LY cy ad G J A mem) (e : ∀ i, 3 ≤ i → i < 222 ∨ i = 223 → mem' i = mem i) (h4 : J' 4 = J 4) (h7 : J' 7 = J 7) (h26 : J' 26 = J 26) (ha : ∀ j, j ≠ 225 → A' j = A j) : LY cy ad G J' A' mem' := by
  obtain ⟨inp, hY, hI, hg⟩ := h
  have hr : ∀ j, 227 ≤ j → j ≤ 234 → A' j = A j := fun j q1 _ => ha j (by omega)
  refine ⟨inp, hY.fr (fun i hi => e i (by omega) (by omega)), fun m hm => by rw [ha 240 (by decide)]; exact hI m hm, ?_⟩
  rcases hg with hg | ⟨R, E, Bw, g4, g7, hC, S, u, fi, la, hf, hP, hS, hGd, hCI, hB, hx⟩
  · exact Or.inl (h4.trans hg)
  · refine Or.inr ⟨R, E, Bw, h4.trans g4, h7.trans g7, hC.fr e, S, u, fi, la, hf, hP.cong hr, hS, hGd.cong2 hr, hCI.cong2 hr, hB, fun z => ?_⟩
    obtain ⟨x1, x2⟩ := hx (h26.symm.trans z)
    rw [ha 241 (by decide)]
    exact ⟨x1.c25 ha, x2.c25 ha⟩
/-- another input -/
theorem LY.newin {G' : Nat} {inp' : Nat → Int32} (h : LY cy ad G J A mem) (e : ∀ i, 5 ≤ i → i < 222 → mem' i = mem i) (hY : IY cy ad G' inp' mem') (hI : II9 G' inp' A') (hc : mem' 223 = ctC ad 0) (h4 : J' 4 = J 4) (h7 : J' 7 = J 7) (h26 : J' 26 = 1) (ha : ∀ j, j ≠ 240 → A' j = A j) : LY cy ad G' J' A' mem' := by
  obtain ⟨inp, -, -, hg⟩ := h
  have hr : ∀ j, 227 ≤ j → j ≤ 234 → A' j = A j := fun j _ q => ha j (by omega)
  refine ⟨inp', hY, hI, ?_⟩
  rcases hg with hg | ⟨R, E, Bw, g4, g7, hC, S, u, fi, la, hf, hP, hS, hGd, hCI, hB, -⟩
  · exact Or.inl (h4.trans hg)
  · exact Or.inr ⟨R, E, Bw, h4.trans g4, h7.trans g7, hC.newin e hY hc, S, u, fi, la, hf, hP.cong hr, hS, hGd.cong2 hr, hCI.cong2 hr, hB, fun z => by rw [h26] at z; exact absurd z (by decide)⟩
/-- behind a question: class's chart, reference's chart -/
theorem GY.ask (h : GY cy ad G inp J A mem R E Bw) (hC : CY cy ad R E G Bw inp mem') (hj : ∀ i, i ≠ 0 → i ≠ 26 → J' i = J i) (ha : ∀ j, j ≠ 241 → A' j = A j) (hx : J' 26 = 0 → Fx A G E (A' 241) ∧ Lst A G E (A' 241)) : GY cy ad G inp J' A' mem' R E Bw := by
  obtain ⟨g4, g7, -, S, u, fi, la, hf, hP, hS, hGd, hCI, hB, -⟩ := h
  have hr : ∀ j, 227 ≤ j → j ≤ 234 → A' j = A j := fun j _ q => ha j (by omega)
  exact ⟨(hj 4 (by decide) (by decide)).trans g4, (hj 7 (by decide) (by decide)).trans g7, hC, S, u, fi, la, hf, hP.cong hr, hS, hGd.cong2 hr, hCI.cong2 hr, hB, fun z => ⟨(hx z).1.cong ha, (hx z).2.cong ha⟩⟩
theorem GY.vv (h : GY cy ad G inp J A mem R E Bw) (hG : G ≤ 24) (hI : II9 G inp A) : CW R E G Bw inp ∧ (∀ gR, Fx A G E gR → Lst A G E gR → ∀ r i, r < R → i ≤ G → (if A 227 r < 0 then 0 else gR (25 * (A 227 r).toNatClampNeg + i)) = VV Bw inp G E r i) ∧ (J 26 = 0 → Fx A G E (A 241) ∧ Lst A G E (A 241)) ∧ ∃ u, u ≤ 240 ∧ Gd R E u A := by
  obtain ⟨g4, g7, -, S, u, fi, la, hf, hP, hS, hGd, hCI, hB, hx⟩ := h
  obtain ⟨w1, w2⟩ := charts_VV hP hf hB hS.1 hS.2 hG hGd hCI hI
  exact ⟨w1, w2, hx, u, hS.2, hGd⟩
end LYL
section FR9
variable {cy : Nat → ClassId} {ad : Nat → Nat} {R E S : Nat} {Bw : Ro} {fi la : Nat → Int32} {nm : Nat → Int64} {mem mem' : Nat → va_E}
theorem ER.fr9 (h : ER ad R E Bw mem) (hE : E ≤ 100) (e : ∀ i, 5 ≤ i → i < 222 → mem' i = mem i) : ER ad R E Bw mem' := fun k hk => ⟨(e _ (by omega) (by omega)).trans (h k hk).1, (h k hk).2⟩
theorem SR.fr9 (h : SR cy ad S Bw mem) (e : ∀ i, 5 ≤ i → i < 222 → mem' i = mem i) : SR cy ad S Bw mem' := ⟨(e _ (by omega) (by omega)).trans h.1, (e _ (by omega) (by omega)).trans h.2⟩
theorem RC.fr9 (h : RC ad R nm fi la mem) (hR : R ≤ 12) (e : ∀ i, 5 ≤ i → i < 222 → mem' i = mem i) : RC ad R nm fi la mem' := fun i hi => (e _ (by omega) (by omega)).trans (h i hi)
end FR9
/-- the class has read a text: its rows -/
def RY (cy : Nat → ClassId) (ad : Nat → Nat) (T : Nat → Int32) (Z : Nat) (A : Ro) (nm : Nat → Int64) (mem : Nat → va_E) : Prop := ∃ (a' u' R' E' lim' S' : Nat) (A' Bw' : Ro) (fi' la' : Nat → Int32) (nm' : Nat → Int64), RdR T Z (lineF T Z 0) 0 0 0 A nm (some (a', u', R', E', 0, A', nm', false)) ∧ GI cy ad lim' R' E' 1 mem ∧ NT R' (A' 227) nm' mem ∧ S' ≤ 240 ∧ ER ad R' E' Bw' mem ∧ SR cy ad S' Bw' mem ∧ RC ad R' nm' fi' la' mem ∧ PI R' E' S' u' A' Bw' fi' la'
theorem RY.out {cy : Nat → ClassId} {ad : Nat → Nat} {T : Nat → Int32} {Z : Nat} {A : Ro} {nm : Nat → Int64} {mem : Nat → va_E} {x : va_E} (h : RY cy ad T Z A nm mem) : RY cy ad T Z A nm (va_up mem 242 x) := by
  obtain ⟨a, u, R, E, lim, S, A', Bw, fi, la, nm', h1, h2, h3, h4, h5, h6, h7, h8⟩ := h
  have e : ∀ i, 5 ≤ i → i < 222 → va_up mem 242 x i = mem i := fun i _ _ => va_up_ne _ _ (by omega)
  have hb := h2.1
  exact ⟨a, u, R, E, lim, S, A', Bw, fi, la, nm', h1, h2.frame e, h3.fr hb.1 (fun i q1 q2 => e i (by omega) (by omega)), h4, h5.fr9 hb.2.1 e, h6.fr9 e, h7.fr9 hb.1 e, h8⟩
theorem rd_ly {cy : Nat → ClassId} {ad : Nat → Nat} {Z G : Nat} {T inp : Nat → Int32} {A A2 : Ro} {nm n2 : Nat → Int64} {J2 : Nat → Int32} {mem9 : Nat → va_E} {r : Int32} (hc : (RdR T Z (lineF T Z 0) 0 0 0 A nm none ∧ ∃ lim rc ec, GI cy ad lim rc ec 0 mem9) ∨ RY cy ad T Z A nm mem9) (hr : (RdR T Z (lineF T Z 0) 0 0 0 A nm none ∧ J2 4 = 0 ∧ J2 7 = 0) ∨ ∃ a' u' R' E' f', RdR T Z (lineF T Z 0) 0 0 0 A nm (some (a', u', R', E', f', A2, n2, false)) ∧ FinN Z G T a' u' R' E' J2 A2 ∧ r = nI R') (hY : IY cy ad G inp mem9) (hI : II9 G inp A) (h40 : A2 240 = A 240) (h26 : J2 26 = 1) (hc3 : mem9 223 = ctC ad 0) : LY cy ad G J2 A2 mem9 := by
  refine ⟨inp, hY, fun m hm => by rw [h40]; exact hI m hm, ?_⟩
  rcases hc with ⟨c1, c2⟩ | ⟨a, u, R, E, lim, S, A', Bw, fi, la, nm', c1, h2, h3, h4, h5, h6, h7, h8⟩
  · rcases hr with ⟨-, r2, r3⟩ | ⟨a2, u2, R2, E2, f2, r1, -⟩
    · exact Or.inl r2
    · exact absurd (c1.det r1) (by intro z; cases z)
  · rcases hr with ⟨r1, -⟩ | ⟨a2, u2, R2, E2, f2, r1, r2, -⟩
    · exact absurd (c1.det r1) (by intro z; cases z)
    · have e := c1.det r1
      cases e
      obtain ⟨⟨-, -, -, -, -, q4, q7⟩, ⟨b1, b2, b3, b4, b5⟩, -, hGd⟩ := r2
      obtain ⟨⟨g, hEM⟩, hCB⟩ := em_of h2 h5 h6 h7 h8 hGd.2.2.2 h4
      exact Or.inr ⟨_, _, va_up Bw 227 fi, q4, q7, ⟨lim, 0, g, h2, hEM, hY, hc3, fun z => absurd rfl z⟩, S, _, fi, la, fun r _ => by rw [va_up_self], h8.b27, ⟨h4, by omega⟩, hGd, c1.ci, hCB, fun z => by rw [h26] at z; exact absurd z (by decide)⟩
