/-! chains as lists; what class and reference share between rules -/
section CH
variable {nx nx' : Nat → Int32} {E : Nat}
theorem chL_all {P : Nat → Prop} (hl : ∀ k, k < E → lk E k (nx k)) (hE : E ≤ 100) (hP : ∀ k x, k < E → x < E → P k → nx k = nI x → P x) : ∀ n k, k < E → P k → ∀ x, x ∈ chL nx n (nI k) → x < E ∧ k ≤ x ∧ P x
  | 0, k, hk, pk, x, hx => by cases hx
  | n + 1, k, hk, pk, x, hx => by
    rw [chL_n (by omega)] at hx
    rcases List.mem_cons.mp hx with rfl | hx
    · exact ⟨hk, Nat.le_refl _, pk⟩
    · rcases hl k hk with q | ⟨j, j1, j2, q⟩
      · rw [q, chL_m] at hx; cases hx
      · rw [q] at hx
        have := chL_all hl hE hP n j j2 (hP k j hk j2 pk q) x hx
        exact ⟨this.1, by omega, this.2.2⟩
theorem chL_cong : ∀ n v, (∀ x, x ∈ chL nx n v → nx' x = nx x) → chL nx' n v = chL nx n v
  | 0, v, h => rfl
  | n + 1, v, h => by
    unfold chL
    unfold chL at h
    by_cases q : v < 0
    · rw [if_pos q, if_pos q]
    · rw [if_neg q] at h
      rw [if_neg q, if_neg q, h _ (List.mem_cons_self ..)]
      congr 1
      exact chL_cong n _ (fun x hx => h x (List.mem_cons_of_mem _ hx))
theorem chL_fuel (hl : ∀ k, k < E → lk E k (nx k)) (hE : E ≤ 100) : ∀ n m k, k < E → E ≤ n + k → E ≤ m + k → chL nx n (nI k) = chL nx m (nI k)
  | 0, m, k, hk, h1, h2 => by omega
  | n + 1, 0, k, hk, h1, h2 => by omega
  | n + 1, m + 1, k, hk, h1, h2 => by
    rw [chL_n (by omega), chL_n (by omega)]
    rcases hl k hk with q | ⟨j, j1, j2, q⟩
    · rw [q, chL_m, chL_m]
    · rw [q, chL_fuel hl hE n m j j2 (by omega) (by omega)]
theorem lastN_P {P : Nat → Prop} (hl : ∀ k, k < E → lk E k (nx k)) (hE : E ≤ 100) (hP : ∀ k x, k < E → x < E → P k → nx k = nI x → P x) : ∀ n k, k < E → P k → P (lastN nx n k)
  | 0, k, hk, pk => pk
  | n + 1, k, hk, pk => by
    unfold lastN
    rcases hl k hk with q | ⟨j, j1, j2, q⟩
    · rw [q, if_pos (by decide)]; exact pk
    · rw [q, if_neg (nI_pos (by omega)), nI_clamp (by omega)]
      exact lastN_P hl hE hP n j j2 (hP k j hk j2 pk q)
theorem lastN_mem (hl : ∀ k, k < E → lk E k (nx k)) (hE : E ≤ 100) : ∀ n k, k < E → lastN nx n k ∈ chL nx (n + 1) (nI k)
  | 0, k, hk => by rw [chL_n (by omega)]; exact List.mem_cons_self ..
  | n + 1, k, hk => by
    rw [chL_n (by omega)]
    unfold lastN
    rcases hl k hk with q | ⟨j, j1, j2, q⟩
    · rw [if_pos (by rw [q]; decide)]; exact List.mem_cons_self ..
    · rw [q, if_neg (nI_pos (by omega)), nI_clamp (by omega)]
      exact List.mem_cons_of_mem _ (lastN_mem hl hE n j j2)
theorem chL_app {r : Nat} (hl : ∀ k, k < E → lk E k (nx k)) (hE : E ≤ 100) (hr : r < 2 ^ 31) : ∀ n k, k < E → E ≤ n + k → nx' (lastN nx n k) = nI r → (∀ x, x ∈ chL nx n (nI k) → x ≠ lastN nx n k → nx' x = nx x) → ∀ m, ∃ m', m ≤ m' ∧ chL nx' (n + m) (nI k) = chL nx n (nI k) ++ chL nx' m' (nI r)
  | 0, k, hk, hn, h1, h2, m => by omega
  | n + 1, k, hk, hn, h1, h2, m => by
    rcases hl k hk with q | ⟨j, j1, j2, q⟩
    · have e : lastN nx (n + 1) k = k := by unfold lastN; rw [if_pos (by rw [q]; decide)]
      rw [e] at h1
      refine ⟨n + m, by omega, ?_⟩
      rw [show n + 1 + m = (n + m) + 1 by omega, chL_n (by omega), chL_n (by omega), h1, q, chL_m]
      rfl
    · have e : lastN nx (n + 1) k = lastN nx n j := by
        conv => lhs; unfold lastN
        rw [q, if_neg (nI_pos (by omega)), nI_clamp (by omega)]
      have hmem : ∀ x, x ∈ chL nx n (nI j) → x ∈ chL nx (n + 1) (nI k) := fun x hx => by
        rw [chL_n (by omega), q]; exact List.mem_cons_of_mem _ hx
      have hkl : k ≠ lastN nx n j := by
        have := lastN_P (P := fun x => j ≤ x) hl hE (fun a x ha hx h1 h2 => by
          rcases hl a ha with z | ⟨y, y1, y2, z⟩
          · rw [z] at h2; exact absurd h2.symm (nI_m (by omega))
          · rw [z] at h2; have := (nI_eq (by omega) (by omega)).mp h2; omega) n j j2 (Nat.le_refl _)
        have : j ≤ lastN nx n j := this
        omega
      have hk' : nx' k = nx k := h2 k (by rw [chL_n (by omega)]; exact List.mem_cons_self ..) (by rw [e]; exact hkl)
      obtain ⟨m', hm', e'⟩ := chL_app hl hE hr n j j2 (by omega) (by rw [← e]; exact h1) (fun x hx hne => h2 x (hmem x hx) (by rw [e]; exact hne)) m
      refine ⟨m', hm', ?_⟩
      rw [show n + 1 + m = (n + m) + 1 by omega, chL_n (by omega), chL_n (by omega), hk', q, e']
      rfl
theorem flat_congr {α : Type} {l : List Nat} {f g : Nat → List α} (h : ∀ x, x ∈ l → f x = g x) : l.flatMap f = l.flatMap g := by
  induction l with
  | nil => rfl
  | cons a l ih => rw [List.flatMap_cons, List.flatMap_cons, h a (List.mem_cons_self ..), ih (fun x hx => h x (List.mem_cons_of_mem _ hx))]
end CH
/-- parts of an element -/
def pL (A : Ro) (k : Nat) : List Nat := chL (A 233) 100 (A 232 k)
def PI9 (own rl : Nat → Nat) (R E S u : Nat) (A Bw : Ro) (fi la : Nat → Int32) : Prop :=
  (∀ k, k < E → DK A Bw S u k) ∧ LKa E A ∧
  (∀ k x, k < E → x < E → A 232 k = nI x → rl x = 0 ∧ (own x = 0 ∨ own x = k + 1)) ∧
  (∀ k x, k < E → x < E → A 233 k = nI x → rl x = 0 ∧ own x = own k) ∧
  (∀ k, k < E → rl k = 0 → pL Bw k = pL A k) ∧
  (∀ k, k < E → rl k ≠ 0 → Bw 228 k = 0 ∧ (∀ x, x ∈ pL Bw k → rl x = 0 ∧ x < E) ∧ ∀ x, x < E → Bw 233 k = nI x → rl x = rl k) ∧
  (∀ i, i < R → (A 227 i < 0 ∧ fi i = -1 ∧ la i = -1) ∨ ∃ t l x, t < E ∧ l < E ∧ x < E ∧ A 227 i = nI t ∧ fi i = nI t ∧ la i = nI l ∧ lastN (Bw 233) 100 t = l ∧ A 228 t = 0 ∧ rl t = i + 1 ∧ A 232 t = nI x ∧ own x = t + 1 ∧ pL A t = (chL (Bw 233) 100 (nI t)).flatMap (pL Bw))
def PI (R E S u : Nat) (A Bw : Ro) (fi la : Nat → Int32) : Prop := ∃ own rl : Nat → Nat, PI9 own rl R E S u A Bw fi la
theorem PI.zero {A Bw : Ro} {fi la : Nat → Int32} {S u : Nat} : PI 0 0 S u A Bw fi la := ⟨fun _ => 0, fun _ => 0, fun k h => by omega, fun k h => by omega, fun k x h => by omega, fun k x h => by omega, fun k h => by omega, fun k h => by omega, fun i h => by omega⟩
def extN (R : Nat) (f : Nat → Int32) : Nat → Int32 := fun i => if i < R then f i else -1
theorem extN_lt {R i : Nat} {f : Nat → Int32} (h : i < R) : extN R f i = f i := if_pos h
theorem extN_ge {R i : Nat} {f : Nat → Int32} (h : R ≤ i) : extN R f i = -1 := if_neg (by omega)
theorem pL_congr {A A' : Ro} {k : Nat} (h2 : A' 232 k = A 232 k) (h3 : ∀ x, x ∈ pL A k → A' 233 x = A 233 x) : pL A' k = pL A k := by
  unfold pL at *
  rw [h2]; exact chL_cong _ _ h3
theorem pL_of {A : Ro} {k : Nat} {A' : Ro} (h2 : A' 232 k = A 232 k) (h3 : A' 233 = A 233) : pL A' k = pL A k := pL_congr h2 (fun x _ => by rw [h3])
/-- names read: new rules that aren't told -/
theorem PI.name {R R1 E S u : Nat} {A A1 Bw : Ro} {fi la : Nat → Int32} (h : PI R E S u A Bw fi la) (hA : ∀ j, j ≠ 227 → A1 j = A j) (ht : TOK R R1 (A 227) (A1 227)) (hR : R ≤ R1) : PI R1 E S u A1 Bw (extN R fi) (extN R la) := by
  obtain ⟨own, rl, p1, p2, p3, p4, p5, p6, p7⟩ := h
  have e8 := hA 228 (by decide)
  have e2 := hA 232 (by decide)
  have e3 := hA 233 (by decide)
  have ep : ∀ k, pL A1 k = pL A k := fun k => pL_of (by rw [e2]) e3
  refine ⟨own, rl, fun k hk => ?_, ?_, ?_, ?_, ?_, p6, fun i hi => ?_⟩
  · refine (p1 k hk).keep ?_ ⟨rfl, rfl, rfl, rfl⟩ (Nat.le_refl _) (Nat.le_refl _) (fun m _ => by rw [hA 234 (by decide)]) (fun _ _ => rfl)
    rw [e8, hA 229 (by decide), hA 230 (by decide), hA 231 (by decide)]; exact ⟨rfl, rfl, rfl, rfl⟩
  · intro k hk; rw [e2, e3]; exact p2 k hk
  · intro k x; rw [e2]; exact p3 k x
  · intro k x; rw [e3]; exact p4 k x
  · intro k hk hr; rw [ep]; exact p5 k hk hr
  · by_cases q : i < R
    · rw [ht.1 i q, extN_lt q, extN_lt q, e8, e2]
      rcases p7 i q with z | ⟨t, l, x, z⟩
      · exact Or.inl z
      · refine Or.inr ⟨t, l, x, ?_⟩
        rw [ep]; exact z
    · exact Or.inl ⟨by rw [ht.2 i (by omega) hi]; decide, extN_ge (by omega), extN_ge (by omega)⟩
