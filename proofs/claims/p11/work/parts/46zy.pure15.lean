/-! how many bits; the class's chart is the least one that holds together -/
def pcN (x : Int32) : Nat → Nat
  | 0 => 0
  | n + 1 => pcN x n + if x.toBitVec.getLsbD n then 1 else 0
theorem pcN_le (x : Int32) : ∀ n, pcN x n ≤ n
  | 0 => Nat.le_refl _
  | n + 1 => by
    have := pcN_le x n
    unfold pcN
    split <;> omega
theorem pcN_mono {x y : Int32} (h : sub x y) : ∀ n, pcN x n ≤ pcN y n
  | 0 => Nat.le_refl _
  | n + 1 => by
    have := pcN_mono h n
    unfold pcN
    by_cases q : x.toBitVec.getLsbD n = true
    · have q2 : y.toBitVec.getLsbD n = true := Bt.sub.mp h n q
      rw [if_pos q, if_pos q2]; omega
    · rw [if_neg q]; omega
theorem pcN_lt {x y : Int32} (h : sub x y) {j : Nat} (h1 : Bt y j) (h2 : ¬ Bt x j) : ∀ n, j < n → pcN x n + 1 ≤ pcN y n
  | 0, hn => by omega
  | n + 1, hn => by
    unfold pcN
    by_cases e : j = n
    · subst e
      have := pcN_mono h j
      have q1 : y.toBitVec.getLsbD j = true := h1
      have q2 : ¬ x.toBitVec.getLsbD j = true := h2
      rw [if_neg q2, if_pos q1]; omega
    · have := pcN_lt h h1 h2 n (by omega)
      by_cases q : x.toBitVec.getLsbD n = true
      · have q2 : y.toBitVec.getLsbD n = true := Bt.sub.mp h n q
        rw [if_pos q, if_pos q2]; omega
      · rw [if_neg q]; omega
theorem pcN_strict {i G : Nat} {x y : Int32} (h : sub x y) (hne : y ≠ x) (hy : Iz i G y) (hG : G ≤ 24) : pcN x 25 + 1 ≤ pcN y 25 := by
  have : ∃ j, Bt y j ∧ ¬ Bt x j := by
    refine Classical.byContradiction (fun q => hne (Bt.ext (fun j _ => ⟨fun z => Classical.byContradiction (fun w => q ⟨j, z, w⟩), Bt.sub.mp h j⟩)))
  obtain ⟨j, h1, h2⟩ := this
  exact pcN_lt h h1 h2 25 (by have := hy j h1; omega)
def cnN (g : Nat → Int32) (i : Nat) : Nat → Nat
  | 0 => 0
  | n + 1 => cnN g i n + pcN (g (25 * n + i)) 25
theorem cnN_le (g : Nat → Int32) (i : Nat) : ∀ n, cnN g i n ≤ 25 * n
  | 0 => Nat.le_refl _
  | n + 1 => by
    have := cnN_le g i n
    have := pcN_le (g (25 * n + i)) 25
    unfold cnN
    omega
theorem cnN_same {g g' : Nat → Int32} {i : Nat} : ∀ {n}, (∀ k, k < n → g' (25 * k + i) = g (25 * k + i)) → cnN g' i n = cnN g i n
  | 0, _ => rfl
  | n + 1, h => by unfold cnN; rw [cnN_same (fun k hk => h k (by omega)), h n (by omega)]
theorem cnN_up {g : Nat → Int32} {i k : Nat} {x : Int32} (h : pcN (g (25 * k + i)) 25 + 1 ≤ pcN x 25) : ∀ {n}, k < n → cnN g i n + 1 ≤ cnN (upd g (25 * k + i) x) i n
  | 0, hk => by omega
  | n + 1, hk => by
    unfold cnN
    by_cases e : k = n
    · subst e
      rw [cnN_same (g := g) (g' := upd g (25 * k + i) x) (fun j hj => upd_ne (by omega)), upd_self]; omega
    · have := cnN_up h (n := n) (by omega)
      rw [upd_ne (show 25 * n + i ≠ 25 * k + i by omega)]; omega
section FIL
variable {R E I : Nat} {Bw : Ro} {inp H : Nat → Int32}
/-- what bounds the class's chart from above -/
def PrC (Bw : Ro) (inp : Nat → Int32) (I E : Nat) (H : Nat → Int32) : Prop := ∀ k, k < E → ∀ m, m ≤ I → sub (fcF Bw I k m H) (H (25 * k + m)) ∧ sub (chrF Bw inp I k m) (H (25 * k + m))
/-- an element whose ends come of characters -/
def isC (Bw : Ro) (k : Nat) : Prop := ¬ Bw 228 k = 0 ∧ ¬ Bw 228 k = 1 ∧ ¬ Bw 228 k = 2 ∧ ¬ Bw 228 k = 3 ∧ ¬ Bw 228 k = 4
theorem chr_0 {k m : Nat} (h : ¬ isC Bw k) : chrF Bw inp I k m = 0 := by
  have h2 : Bw 228 k = 0 ∨ Bw 228 k = 1 ∨ Bw 228 k = 2 ∨ Bw 228 k = 3 ∨ Bw 228 k = 4 := by
    refine Classical.byContradiction (fun q => h ⟨fun z => q (Or.inl z), fun z => q (Or.inr (Or.inl z)), fun z => q (Or.inr (Or.inr (Or.inl z))), fun z => q (Or.inr (Or.inr (Or.inr (Or.inl z)))), fun z => q (Or.inr (Or.inr (Or.inr (Or.inr z))))⟩)
  unfold chrF
  rcases h2 with q | q | q | q | q <;> rw [q, if_neg (by decide), if_neg (by decide)]
def NV (I E n : Nat) (H g : Nat → Int32) : Prop := ∀ k, k < E → ∀ m, n ≤ m → m ≤ I → Iz m I (g (25 * k + m)) ∧ sub (g (25 * k + m)) (H (25 * k + m))
def Iv (Bw : Ro) (inp : Nat → Int32) (I E i : Nat) (H g0 g : Nat → Int32) : Prop :=
  NV I E i H g ∧ (∀ k, k < E → sub (g (25 * k + i)) (fcF Bw I k i g)) ∧ (∀ k, k < E → isC Bw k → g (25 * k + i) = chrF Bw inp I k i) ∧ ∀ q, (∀ k, k < E → q ≠ 25 * k + i) → g q = g0 q
theorem Iv.up {i k : Nat} {g0 g : Nat → Int32} (h : Iv Bw inp I E i H g0 g) (hB : CB R E Bw) (hI : I ≤ 24) (hi : i ≤ I) (hH : PrC Bw inp I E H) (hk : k < E) : Iv Bw inp I E i H g0 (upd g (25 * k + i) (fcF Bw I k i g)) := by
  obtain ⟨h1, h2, h3, h4⟩ := h
  have hle : ∀ p, p < E → ∀ m, i ≤ m → m ≤ I → sub (g (25 * p + m)) (upd g (25 * k + i) (fcF Bw I k i g) (25 * p + m)) := by
    intro p hp m m1 m2
    by_cases e : 25 * p + m = 25 * k + i
    · have e1 : p = k := by omega
      have e2 : m = i := by omega
      subst e1 e2
      rw [upd_self]; exact h2 p hp
    · rw [upd_ne e]; exact sub.rf _
  refine ⟨fun p hp m m1 m2 => ?_, fun p hp => ?_, fun p hp hc => ?_, fun q hq => ?_⟩
  · by_cases e : 25 * p + m = 25 * k + i
    · have e1 : p = k := by omega
      have e2 : m = i := by omega
      subst e1 e2
      rw [upd_self]
      exact ⟨fc_in hB hI hi hp (fun p hp m m1 m2 => (h1 p hp m m1 m2).1), (fc_mono hB hI hi hp (fun p hp m m1 m2 => (h1 p hp m m1 m2).2)).trans (hH p hp m m2).1⟩
    · rw [upd_ne e]; exact h1 p hp m m1 m2
  · refine sub.trans ?_ (fc_mono hB hI hi hp hle)
    by_cases e : p = k
    · subst e; rw [upd_self]; exact sub.rf _
    · rw [upd_ne (by omega)]; exact h2 p hp
  · by_cases e : p = k
    · subst e
      rw [upd_self, fc_ch hc.1 hc.2.1 hc.2.2.1 hc.2.2.2.1 hc.2.2.2.2]; exact h3 p hp hc
    · rw [upd_ne (by omega)]; exact h3 p hp hc
  · rw [upd_ne (hq k hk)]; exact h4 q hq
/-- a pass -/
theorem fm_spec (hB : CB R E Bw) (hI : I ≤ 24) {i : Nat} (hi : i ≤ I) (hH : PrC Bw inp I E H) {g0 : Nat → Int32} : ∀ (n : Nat) (g : Nat → Int32) (mo : Bool), n ≤ E → Iv Bw inp I E i H g0 g → Iv Bw inp I E i H g0 (fmN Bw I i n g mo).1 ∧ (mo = true → (fmN Bw I i n g mo).2 = true) ∧ cnN g i E ≤ cnN (fmN Bw I i n g mo).1 i E ∧ (mo = false → (fmN Bw I i n g mo).2 = true → cnN g i E + 1 ≤ cnN (fmN Bw I i n g mo).1 i E) ∧ ((fmN Bw I i n g mo).2 = false → (fmN Bw I i n g mo).1 = g ∧ ∀ k, k < n → fcF Bw I k i g = g (25 * k + i))
  | 0, g, mo, hn, h => by
    refine ⟨h, id, Nat.le_refl _, fun e1 e2 => ?_, fun _ => ⟨rfl, fun k hk => by omega⟩⟩
    have e2 : mo = true := e2
    rw [e1] at e2; cases e2
  | n + 1, g, mo, hn, h => by
    by_cases q : fcF Bw I n i g = g (25 * n + i)
    · have e : fmN Bw I i (n + 1) g mo = fmN Bw I i n g mo := by conv => lhs; unfold fmN; rw [if_pos q]
      rw [e]
      obtain ⟨a1, a2, a3, a4, a5⟩ := fm_spec hB hI hi hH n g mo (by omega) h
      refine ⟨a1, a2, a3, a4, fun z => ⟨(a5 z).1, fun k hk => ?_⟩⟩
      by_cases e2 : k = n
      · subst e2; exact q
      · exact (a5 z).2 k (by omega)
    · have e : fmN Bw I i (n + 1) g mo = fmN Bw I i n (upd g (25 * n + i) (fcF Bw I n i g)) true := by conv => lhs; unfold fmN; rw [if_neg q]
      rw [e]
      obtain ⟨a1, a2, a3, a4, a5⟩ := fm_spec hB hI hi hH n (upd g (25 * n + i) (fcF Bw I n i g)) true (by omega) (h.up hB hI hi hH (by omega))
      have hc := cnN_up (g := g) (i := i) (k := n) (x := fcF Bw I n i g) (pcN_strict (h.2.1 n (by omega)) q (fc_in hB hI hi (by omega) (fun p hp m m1 m2 => (h.1 p hp m m1 m2).1)) hI) (n := E) (by omega)
      refine ⟨a1, fun _ => a2 rfl, by omega, fun _ _ => by omega, fun z => ?_⟩
      rw [a2 rfl] at z; cases z
def Fxc (Bw : Ro) (I E i : Nat) (g : Nat → Int32) : Prop := ∀ k, k < E → fcF Bw I k i g = g (25 * k + i)
theorem ps_spec (hB : CB R E Bw) (hI : I ≤ 24) {i : Nat} (hi : i ≤ I) (hH : PrC Bw inp I E H) {g0 : Nat → Int32} : ∀ (r : Nat) (g : Nat → Int32) (mo : Bool), Iv Bw inp I E i H g0 g → (mo = false → Fxc Bw I E i g) → (mo = true → 2500 < cnN g i E + r) → Iv Bw inp I E i H g0 (psN Bw I E i r g mo) ∧ Fxc Bw I E i (psN Bw I E i r g mo)
  | 0, g, mo, h, h1, h2 => by
    refine ⟨h, ?_⟩
    cases mo with
    | false => exact h1 rfl
    | true =>
      have := h2 rfl
      have := cnN_le g i E
      have := hB.2.2.2.1
      omega
  | r + 1, g, mo, h, h1, h2 => by
    cases mo with
    | false =>
      unfold psN
      rw [if_neg (by decide)]
      exact ⟨h, h1 rfl⟩
    | true =>
      unfold psN
      rw [if_pos rfl]
      obtain ⟨a1, a2, a3, a4, a5⟩ := fm_spec hB hI hi hH E g false (Nat.le_refl _) h
      refine ps_spec hB hI hi hH r _ _ a1 (fun z => ?_) (fun z => ?_)
      · obtain ⟨b1, b2⟩ := a5 z
        rw [b1]; exact b2
      · have := a4 rfl z
        have := h2 rfl
        omega
theorem in_spec {i : Nat} : ∀ (r k : Nat) (g : Nat → Int32), (∀ p, k ≤ p → p < k + r → inN Bw inp I i r k g (25 * p + i) = chrF Bw inp I p i) ∧ ∀ q, (∀ p, k ≤ p → p < k + r → q ≠ 25 * p + i) → inN Bw inp I i r k g q = g q
  | 0, k, g => ⟨fun p h1 h2 => by omega, fun q _ => rfl⟩
  | r + 1, k, g => by
    unfold inN
    obtain ⟨a1, a2⟩ := in_spec r (k + 1) (upd g (25 * k + i) (chrF Bw inp I k i)) (i := i)
    refine ⟨fun p h1 h2 => ?_, fun q hq => ?_⟩
    · by_cases e : p = k
      · subst e
        rw [a2 _ (fun p' h3 h4 => by omega), upd_self]
      · exact a1 p (by omega) (by omega)
    · rw [a2 q (fun p h3 h4 => hq p (by omega) (by omega)), upd_ne (hq k (by omega) (by omega))]
/-- what the chart is from place n on -/
def Gn (Bw : Ro) (inp : Nat → Int32) (I E n : Nat) (H g : Nat → Int32) : Prop := NV I E n H g ∧ ∀ k, k < E → ∀ m, n ≤ m → m ≤ I → fcF Bw I k m g = g (25 * k + m) ∧ (isC Bw k → g (25 * k + m) = chrF Bw inp I k m)
theorem fill_spec (hB : CB R E Bw) (hI : I ≤ 24) (hH : PrC Bw inp I E H) (hc : ∀ k, k < E → ∀ m, m ≤ I → Iz m I (chrF Bw inp I k m)) : ∀ (n : Nat) (g : Nat → Int32), n ≤ I + 1 → Gn Bw inp I E n H g → Gn Bw inp I E 0 H (fillN Bw inp I E n g)
  | 0, g, hn, h => h
  | i + 1, g, hn, h => by
    unfold fillN
    have hi : i ≤ I := by omega
    obtain ⟨n1, n2⟩ := in_spec (Bw := Bw) (inp := inp) (I := I) (i := i) E 0 g
    have hup : ∀ k, k < E → ∀ m, i < m → m ≤ I → inN Bw inp I i E 0 g (25 * k + m) = g (25 * k + m) := fun k hk m m1 m2 => n2 _ (fun p _ hp e => by omega)
    have hiv : Iv Bw inp I E i H (inN Bw inp I i E 0 g) (inN Bw inp I i E 0 g) := by
      refine ⟨fun k hk m m1 m2 => ?_, fun k hk => ?_, fun k hk _ => n1 k (by omega) (by omega), fun _ _ => rfl⟩
      · by_cases e : m = i
        · subst e
          rw [n1 k (by omega) (by omega)]; exact ⟨hc k hk m m2, (hH k hk m m2).2⟩
        · rw [hup k hk m (by omega) m2]; exact h.1 k hk m (by omega) m2
      · by_cases q : isC Bw k
        · rw [fc_ch q.1 q.2.1 q.2.2.1 q.2.2.2.1 q.2.2.2.2]; exact sub.rf _
        · rw [n1 k (by omega) (by omega), chr_0 q]; exact sub.zero _
    obtain ⟨a, f⟩ := ps_spec hB hI hi hH 2501 _ true hiv (fun z => by cases z) (fun _ => by omega)
    refine fill_spec hB hI hH hc i _ (by omega) ⟨a.1, fun k hk m m1 m2 => ?_⟩
    by_cases e : m = i
    · subst e
      exact ⟨f k hk, a.2.2.1 k hk⟩
    · have same : ∀ p, p < E → ∀ m', m ≤ m' → m' ≤ I → psN Bw I E i 2501 (inN Bw inp I i E 0 g) true (25 * p + m') = g (25 * p + m') := fun p hp m' q1 q2 => by
        rw [a.2.2.2 _ (fun k' hk' e' => by omega)]; exact hup p hp m' (by omega) q2
      obtain ⟨b1, b2⟩ := h.2 k hk m (by omega) m2
      rw [same k hk m (Nat.le_refl _) m2, fc_local hB hI m2 hk same]
      exact ⟨b1, b2⟩
theorem fill_all (hB : CB R E Bw) (hI : I ≤ 24) (hc : ∀ k, k < E → ∀ m, m ≤ I → Iz m I (chrF Bw inp I k m)) (hH : PrC Bw inp I E H) (g : Nat → Int32) : Gn Bw inp I E 0 H (fillN Bw inp I E (I + 1) g) := fill_spec hB hI hH hc (I + 1) g (Nat.le_refl _) ⟨fun k _ m m1 m2 => by omega, fun k _ m m1 m2 => by omega⟩
theorem PrC.top : PrC Bw inp I E (fun _ => -1) := fun k _ m _ => ⟨Bt.sub.mpr (fun j hj => Bt.all hj.lt), Bt.sub.mpr (fun j hj => Bt.all hj.lt)⟩
end FIL
/-! class and reference: one element at one place -/
section CM
variable {G p i : Nat} {g h : Nat → Int32}
theorem step_go (hG : G ≤ 24) (hi : i ≤ G) {x : Int32} (hx : Iz i G x) (e : ∀ m, i ≤ m → m ≤ G → h (25 * p + m) = g (25 * p + m)) : stepF h G p x = goF g G p x i := by
  refine Bt.ext (fun j _ => ?_)
  rw [Bt.go hG hi, Bt.step hG]
  constructor
  · rintro ⟨m, h2, h3, h4⟩
    have h1 := (hx m h3).1
    rw [e m h1 h2] at h4
    exact ⟨m, h1, h2, h3, h4⟩
  · rintro ⟨m, h1, h2, h3, h4⟩
    rw [← e m h1 h2] at h4
    exact ⟨m, h2, h3, h4⟩
theorem row_ch (hG : G ≤ 24) (hi : i ≤ G) : ∀ {ps : List Nat} {x : Int32}, (∀ p, p ∈ ps → ∀ m, i ≤ m → m ≤ G → h (25 * p + m) = g (25 * p + m) ∧ Iz m G (g (25 * p + m))) → Iz i G x → chF h G i 1 ps x = rowF g G i ps x
  | [], x, _, _ => rfl
  | p :: ps, x, e, hx => by
    unfold chF rowF
    have e1 := e p (List.mem_cons_self ..)
    rw [if_pos rfl, step_go hG hi hx (fun m m1 m2 => (e1 m m1 m2).1)]
    exact row_ch hG hi (fun q hq => e q (List.mem_cons_of_mem _ hq)) (go_in hG hi (fun m m1 m2 => (e1 m m1 m2).2))
theorem ch_cong {ps : List Nat} {x : Int32} (e : ∀ p, p ∈ ps → h (25 * p + i) = g (25 * p + i)) : chF h G i 0 ps x = chF g G i 0 ps x := by
  refine Bt.ext (fun j _ => ?_)
  rw [Bt.ch, Bt.ch]
  constructor
  · rintro (q | ⟨p, h1, h2⟩)
    · exact Or.inl q
    · exact Or.inr ⟨p, h1, by rw [← e p h1]; exact h2⟩
  · rintro (q | ⟨p, h1, h2⟩)
    · exact Or.inl q
    · exact Or.inr ⟨p, h1, by rw [e p h1]; exact h2⟩
theorem iterS_G (hG : G ≤ 24) (hi : i ≤ G) (e : ∀ m, i ≤ m → m ≤ G → h (25 * p + m) = g (25 * p + m) ∧ Iz m G (g (25 * p + m))) {x : Int32} (hx : Iz i G x) : ∀ n, iterS h G p x n = iterG g G p i x n ∧ Iz i G (iterG g G p i x n)
  | 0 => ⟨rfl, hx⟩
  | n + 1 => by
    obtain ⟨a1, a2⟩ := iterS_G hG hi e hx n
    unfold iterS iterG
    rw [a1]
    exact ⟨step_go hG hi a2 (fun m m1 m2 => (e m m1 m2).1), go_in hG hi (fun m m1 m2 => (e m m1 m2).2)⟩
theorem iterP_back : ∀ (n : Nat) (x : Int32), iterP g G p i (n + 1) x = iterP g G p i n x ||| goF g G p (iterP g G p i n x) i
  | 0, x => rfl
  | n + 1, x => iterP_back n (x ||| goF g G p x i)
theorem iterT_f (hG : G ≤ 24) (hi : i ≤ G) (e : ∀ m, i ≤ m → m ≤ G → h (25 * p + m) = g (25 * p + m) ∧ Iz m G (g (25 * p + m))) {x : Int32} (hx : Iz i G x) : ∀ n, (iterT h G p false x n).2 = iterP g G p i n x ∧ Iz i G (iterT h G p false x n).1 ∧ sub (goF g G p (iterP g G p i n x) i) (iterP g G p i n x ||| goF g G p (iterT h G p false x n).1 i)
  | 0 => ⟨rfl, hx, Bt.sub.mpr (fun j hj => Bt.or.mpr (Or.inr hj))⟩
  | n + 1 => by
    obtain ⟨a1, a2, a3⟩ := iterT_f hG hi e hx n
    have hs := step_go (p := p) (h := h) hG hi a2 (fun m m1 m2 => (e m m1 m2).1)
    have e1 : (iterT h G p false x (n + 1)).1 = goF g G p (iterT h G p false x n).1 i := hs
    have e2 : (iterT h G p false x (n + 1)).2 = iterP g G p i n x ||| goF g G p (iterT h G p false x n).1 i := by
      show (iterT h G p false x n).2 ||| stepF h G p (iterT h G p false x n).1 = _
      rw [a1, hs]
    have e3 : iterP g G p i (n + 1) x = iterP g G p i n x ||| goF g G p (iterT h G p false x n).1 i := by
      rw [iterP_back]
      refine Bt.ext (fun j _ => ?_)
      rw [Bt.or, Bt.or]
      constructor
      · rintro (q | q)
        · exact Or.inl q
        · exact Bt.or.mp (Bt.sub.mp a3 j q)
      · rintro (q | q)
        · exact Or.inl q
        · refine Or.inr (Bt.sub.mp (go_mono hG hi (fun _ _ _ => sub.rf _) ?_) j q)
          have key : ∀ n, sub (iterT h G p false x n).1 (iterT h G p false x n).2 := by
            intro n
            cases n with
            | zero => exact sub.rf _
            | succ n => exact Bt.sub.mpr (fun j hj => Bt.or.mpr (Or.inr hj))
          rw [← a1]; exact key n
    refine ⟨e2.trans e3.symm, by rw [e1]; exact go_in hG hi (fun m m1 m2 => (e m m1 m2).2), ?_⟩
    rw [e1]
    refine Bt.sub.mpr (fun j hj => ?_)
    rw [Bt.or]
    rw [Bt.go hG hi] at hj
    obtain ⟨m, m1, m2, m3, m4⟩ := hj
    rw [e3, Bt.or] at m3
    rcases m3 with m3 | m3
    · have : Bt (goF g G p (iterP g G p i n x) i) j := (Bt.go hG hi).mpr ⟨m, m1, m2, m3, m4⟩
      refine Or.inl ?_
      rw [e3]
      exact Bt.sub.mp a3 j this
    · exact Or.inr ((Bt.go hG hi).mpr ⟨m, m1, m2, m3, m4⟩)
theorem iterT_t (hG : G ≤ 24) (hi : i ≤ G) (e : ∀ m, i ≤ m → m ≤ G → h (25 * p + m) = g (25 * p + m) ∧ Iz m G (g (25 * p + m))) {x : Int32} (hx : Iz i G x) : ∀ n, (iterT h G p true x n).2 = iterP g G p i n x
  | 0 => rfl
  | n + 1 => by
    have a1 := iterT_t hG hi e hx n
    rw [iterP_back]
    show (iterT h G p true x n).2 ||| stepF h G p (iterT h G p true x n).2 = _
    rw [a1, step_go hG hi (iterP_in hG hi (fun m m1 m2 => (e m m1 m2).2) n hx) (fun m m1 m2 => (e m m1 m2).1)]
theorem pcN_in {y : Int32} (hy : Iz i G y) : ∀ n, pcN y n ≤ G + 1
  | 0 => Nat.zero_le _
  | n + 1 => by
    by_cases q : n ≤ G
    · have := pcN_le y (n + 1); omega
    · have := pcN_in hy n
      unfold pcN
      rw [if_neg (fun z => by have := hy n z; omega)]; exact this
/-- so many pieces are enough -/
theorem iterP_stable (hG : G ≤ 24) (hi : i ≤ G) (e : ∀ m, i ≤ m → m ≤ G → Iz m G (g (25 * p + m))) {x : Int32} (hx : Iz i G x) : iterP g G p i G x ||| goF g G p (iterP g G p i G x) i = iterP g G p i G x := by
  by_cases x0 : x = 0
  · have h0 : x ||| goF g G p x i = x := by
      subst x0
      refine Bt.ext (fun j _ => ?_)
      rw [Bt.or, Bt.go hG hi]
      exact ⟨fun z => z.elim id (fun ⟨m, _, _, h3, _⟩ => absurd h3 Bt.zero), Or.inl⟩
    rw [iterP_fix h0]; exact h0
  · have h1 : 1 ≤ pcN x 25 := by
      have := pcN_strict (sub.zero x) x0 hx hG
      omega
    have key : ∀ n, (iterP g G p i n x ||| goF g G p (iterP g G p i n x) i = iterP g G p i n x) ∨ n + 1 ≤ pcN (iterP g G p i n x) 25 := by
      intro n
      induction n with
      | zero => exact Or.inr h1
      | succ n ih =>
        rw [iterP_back]
        rcases ih with ih | ih
        · exact Or.inl (by rw [ih, ih])
        · by_cases q : iterP g G p i n x ||| goF g G p (iterP g G p i n x) i = iterP g G p i n x
          · exact Or.inl (by rw [q, q])
          · have := pcN_strict (sub.lf (iterP g G p i n x) (goF g G p (iterP g G p i n x) i)) q ((iterP_in hG hi e n hx).or (go_in hG hi e)) hG
            exact Or.inr (by omega)
    rcases key G with q | q
    · exact q
    · refine Classical.byContradiction (fun z => ?_)
      have hz := (iterP_in hG hi e G hx).or (go_in (x := iterP g G p i G x) hG hi e)
      have := pcN_strict (sub.lf (iterP g G p i G x) (goF g G p (iterP g G p i G x) i)) z hz hG
      have := pcN_in hz 25
      omega
theorem iterP_add : ∀ (a b : Nat) (x : Int32), iterP g G p i (a + b) x = iterP g G p i b (iterP g G p i a x)
  | 0, b, x => by rw [Nat.zero_add]; rfl
  | a + 1, b, x => by rw [show a + 1 + b = (a + b) + 1 by omega]; exact iterP_add a b _
theorem rep_times {on tw : Int32} (hG : G ≤ 24) (hi : i ≤ G) (e : ∀ m, i ≤ m → m ≤ G → h (25 * p + m) = g (25 * p + m) ∧ Iz m G (g (25 * p + m))) (ht : tw = -1 ∨ ¬ tw < 0) : timesF h G p i on tw = repF g G p i on tw := by
  unfold timesF repF
  rw [iterH_eq]
  obtain ⟨a1, a2⟩ := iterS_G hG hi e (Iz.bit (Nat.le_refl _) hi hG) on.toNatClampNeg
  rw [a1]
  rcases ht with rfl | ht
  · rw [if_pos (by decide), if_pos rfl, show decide ((-1 : Int32) < 0) = true from by decide, iterT_t hG hi e a2, show (26 : Int32).toNatClampNeg = 26 from by decide, nI_clamp (by omega)]
    have hs := iterP_stable hG hi (fun m m1 m2 => (e m m1 m2).2) a2
    rw [show 26 = G + (26 - G) by omega, iterP_add, iterP_fix hs]
  · rw [if_neg ht, if_neg (fun z => ht (by rw [z]; decide)), show decide (tw < 0) = false from decide_eq_false ht, (iterT_f hG hi e a2 _).1]
end CM
theorem stc_all {ch inp : Nat → Int32} {I i o : Nat} {sm : Bool} : ∀ {r m : Nat}, stcN ch inp I sm i o r m = true ↔ ∀ q, m ≤ q → q < m + r → (if sm then smF (ch (o + q)) = smF (hereF I inp (i + q)) else ch (o + q) = hereF I inp (i + q))
  | 0, m => ⟨fun _ q h1 h2 => by omega, fun _ => rfl⟩
  | r + 1, m => by
    by_cases hm : (if sm then smF (ch (o + m)) = smF (hereF I inp (i + m)) else ch (o + m) = hereF I inp (i + m))
    · have e0 : stcN ch inp I sm i o (r + 1) m = stcN ch inp I sm i o r (m + 1) := by conv => lhs; unfold stcN; rw [if_pos hm]
      rw [e0, stc_all (r := r) (m := m + 1)]
      constructor
      · intro h q h1 h2
        by_cases e : q = m
        · subst e; exact hm
        · exact h q (by omega) (by omega)
      · intro h q h1 h2
        exact h q (by omega) (by omega)
    · have e0 : stcN ch inp I sm i o (r + 1) m = false := by conv => lhs; unfold stcN; rw [if_neg hm]
      rw [e0]
      exact ⟨fun z => Bool.noConfusion z, fun z => absurd (z m (Nat.le_refl _) (by omega)) hm⟩
theorem good_all {inp chr : Nat → Int32} {ex : Int32} {G i o t : Nat} : ∀ {n : Nat}, ¬ goodN inp chr ex G i o t n = 0 ↔ i + t ≤ G ∧ ∀ q, q < n → ¬ sameF (inp (i + q)) (chr (o + q)) ex = 0
  | 0 => by
    unfold goodN
    by_cases q : G < i + t
    · rw [if_pos q]; exact ⟨fun z => absurd rfl z, fun z => by omega⟩
    · rw [if_neg q]; exact ⟨fun _ => ⟨by omega, fun q hq => by omega⟩, fun _ => by decide⟩
  | n + 1 => by
    unfold goodN
    by_cases z : goodN inp chr ex G i o t n = 0
    · rw [if_pos z]
      refine ⟨fun w => absurd rfl w, fun ⟨w1, w2⟩ => ?_⟩
      exact absurd z (good_all.mpr ⟨w1, fun q hq => w2 q (by omega)⟩)
    · rw [if_neg z]
      obtain ⟨w1, w2⟩ := good_all.mp z
      constructor
      · intro y
        refine ⟨w1, fun q hq => ?_⟩
        by_cases e : q = n
        · subst e; exact y
        · exact w2 q (by omega)
      · intro y
        exact y.2 n (by omega)
theorem same_ne {c d ex : Int32} : ¬ sameF c d ex = 0 ↔ c = d ∨ (ex = 0 ∧ smF c = smF d) := by
  unfold sameF
  by_cases q : c = d
  · rw [if_pos q]; exact ⟨fun _ => Or.inl q, fun _ => by decide⟩
  · rw [if_neg q]
    by_cases q2 : ex = 0
    · rw [if_neg (fun z => z q2)]
      by_cases q3 : smF c = smF d
      · rw [if_pos q3]; exact ⟨fun _ => Or.inr ⟨q2, q3⟩, fun _ => by decide⟩
      · rw [if_neg q3]; exact ⟨fun z => absurd rfl z, fun z => z.elim (fun w => absurd w q) (fun w => absurd w.2 q3)⟩
    · rw [if_pos q2]; exact ⟨fun z => absurd rfl z, fun z => z.elim (fun w => absurd w q) (fun w => absurd w.1 q2)⟩
theorem smF_pos {c : Int32} (h : ¬ c < 0) : ¬ smF c = -1 := by
  unfold smF
  obtain ⟨j, hj, rfl⟩ := nI_of h
  split
  · exact nI_m hj
  · rename_i q
    have e90 : (90 : Int32) = nI 90 := rfl
    have : ¬ 90 < j := fun z => q (Or.inr (by rw [e90]; exact (nI_ltI (by omega) hj).mpr z))
    rw [show (32 : Int32) = nI 32 from rfl, nI_add]
    exact nI_m (by omega)
