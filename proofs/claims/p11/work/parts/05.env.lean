/-! Words of all methods in one list; the flat world: cells by their numbers (fw n ad mem: n cells, cell j at the address ad j holds mem j); rows over it. -/
def tg : List Cond := lw_tbl.filter goodWord
def nstw : Cond → Bool
  | .fieldLinkNest .. => true
  | .methodLinkNest .. => true
  | .declares _ => true
  | .castable .. => true
  | .arrayOver (.object _) => true
  | _ => false
def TB : List Cond := lw_tbl.filter (fun w => goodWord w || nstw w)
theorem tg_of {w : Cond} (h : w ∈ lw_tbl) (g : goodWord w = true) : w ∈ tg := List.mem_filter.mpr ⟨h, g⟩
theorem tb {w : Cond} (h : w ∈ lw_tbl) (g : (goodWord w || nstw w) = true) : w ∈ TB := List.mem_filter.mpr ⟨h, g⟩
theorem tb_g {w : Cond} (h : w ∈ lw_tbl) (g : goodWord w = true) : w ∈ TB := tb h (by rw [g]; rfl)
theorem tg_in : GoodIn TB tg := fun w h => ⟨tb_g (List.mem_filter.mp h).1 (List.mem_filter.mp h).2, good_of_word (List.mem_filter.mp h).2⟩
theorem gdC {w : Cond} (h : w ∈ lw_tbl) (g : goodWord w = true) : GoodIn TB (w :: tg) := fun w' h' => (List.mem_cons.mp h').elim (fun e => by subst e; exact ⟨tb_g h g, good_of_word g⟩) (tg_in w')
theorem gdV {own C : String} {idx n : Nat} {y : MethodName} {bytes : ByteArray} {r : Option FieldType} (h1 : Cond.methodLink own idx y ∈ lw_tbl) (h2 : Cond.instanceMethod y ∈ lw_tbl) (h3 : Cond.selects C y y ∈ lw_tbl) (h4 : Cond.initialized C ∈ lw_tbl) (h5 : Cond.code y bytes n r ∈ lw_tbl) : GoodIn TB (wsV own idx C y (.code y bytes n r :: tg)) := by
  intro w h
  unfold wsV at h
  rcases List.mem_append.mp h with h | h
  · simp only [List.mem_cons, List.not_mem_nil, or_false] at h
    rcases h with rfl | rfl | rfl | rfl
    · exact ⟨tb_g h1 rfl, good_of_word rfl⟩
    · exact ⟨tb_g h2 rfl, good_of_word rfl⟩
    · exact ⟨tb_g h3 rfl, good_of_word rfl⟩
    · exact ⟨tb_g h4 rfl, good_of_word rfl⟩
  · exact gdC h5 rfl w h
theorem gdS {own : String} {idx n : Nat} {y : MethodName} {bytes : ByteArray} {r : Option FieldType} (h1 : Cond.methodLink own idx y ∈ lw_tbl) (h2 : Cond.static y ∈ lw_tbl) (h4 : Cond.initialized own ∈ lw_tbl) (h5 : Cond.code y bytes n r ∈ lw_tbl) : GoodIn TB (wsS own idx y (.code y bytes n r :: tg)) := by
  intro w h
  unfold wsS at h
  rcases List.mem_append.mp h with h | h
  · simp only [List.mem_cons, List.not_mem_nil, or_false] at h
    rcases h with rfl | rfl | rfl
    · exact ⟨tb_g h1 rfl, good_of_word rfl⟩
    · exact ⟨tb_g h2 rfl, good_of_word rfl⟩
    · exact ⟨tb_g h4 rfl, good_of_word rfl⟩
  · exact gdC h5 rfl w h
theorem uw_good {C : String} {T : u_T} {N : Nat} : ∀ w ∈ u_ws C T N, goodWord w = true := by
  intro w h
  unfold u_ws at h
  obtain ⟨k, -, rfl⟩ := List.mem_map.mp h
  unfold u_lay
  split <;> rfl
theorem uw_tb {C : String} {T : u_T} {N : Nat} (h : ∀ w ∈ u_ws C T N, w ∈ lw_tbl) : ∀ w ∈ u_ws C T N, w ∈ TB := fun w hw => tb_g (h w hw) (uw_good w hw)
def NW (U : State) : Prop := ∀ w ∈ lw_tbl, nstw w = true → w.before #[] U = true
theorem NW.warm {s U : State} (hW : s.WarmedH U.vm) (h : NW s) : NW U := by
  intro w hw hn
  have h1 := h w hw hn
  cases w
  case fieldLinkNest => exact va_Nw.warmF hW h1
  case methodLinkNest => exact va_Nw.warmM hW h1
  case declares => exact va_Nw.warmD hW h1
  case castable => exact va_Nw.warmC hW h1
  case arrayOver ty =>
    cases ty
    case object C => exact va_AO.moved hW.alike h1
    all_goals cases hn
  all_goals cases hn
theorem NW.use {U : State} {args : Array Value} (h : NW U) {w : Cond} (hw : w ∈ lw_tbl) (hn : nstw w = true) : w.before args U = true := by
  have h1 := h w hw hn
  cases w
  case fieldLinkNest => exact va_tabs rfl rfl h1
  case methodLinkNest => exact va_tabs rfl rfl h1
  case declares => exact va_tabs rfl rfl h1
  case castable => exact va_tabs rfl rfl h1
  case arrayOver ty =>
    cases ty
    case object C => exact h1
    all_goals cases hn
  all_goals cases hn
/-- in a body: all words of TB, out of the method's own list and of NW -/
theorem tb_all {s : State} {args : Array Value} {cw : Cond} (h : ∀ w ∈ (cw :: tg), w.before args s = true) (hN : NW s) : ∀ w ∈ TB, w.before args s = true := by
  intro w hw
  obtain ⟨h1, h2⟩ := List.mem_filter.mp hw
  by_cases g : goodWord w = true
  · exact h w (List.mem_cons_of_mem _ (tg_of h1 g))
  · have g' : nstw w = true := by
      cases hg : goodWord w
      · rw [hg] at h2; simpa using h2
      · exact absurd hg g
    exact hN.use h1 g'
def fw (n : Nat) (ad : Nat → Nat) (mem : Nat → va_E) : va_W := (List.range n).map (fun j => (ad j, mem j))
theorem fw_at {n j : Nat} {ad : Nat → Nat} {mem : Nat → va_E} (h : j < n) : (fw n ad mem)[j]? = some (ad j, mem j) := by
  unfold fw
  rw [List.getElem?_map, List.getElem?_range h]
  rfl
theorem fw_atm {n j : Nat} {ad : Nat → Nat} {mem : Nat → va_E} {e : va_E} (h : j < n) (hm : mem j = e) : (fw n ad mem)[j]? = some (ad j, e) := by rw [fw_at h, hm]
theorem fw_ge {n j : Nat} {ad : Nat → Nat} {mem : Nat → va_E} (h : n ≤ j) : (fw n ad mem)[j]? = none := by
  unfold fw
  simp [h]
theorem fw_get {n j : Nat} {ad : Nat → Nat} {mem : Nat → va_E} {q : Nat × va_E} (h : (fw n ad mem)[j]? = some q) : j < n ∧ q = (ad j, mem j) := by
  by_cases hj : j < n
  · rw [fw_at hj] at h
    exact ⟨hj, (Option.some.inj h).symm⟩
  · rw [fw_ge (Nat.le_of_not_lt hj)] at h
    cases h
theorem fw_set {n j : Nat} {ad : Nat → Nat} {mem : Nat → va_E} {e : va_E} (h : j < n) : (fw n ad mem).set j (ad j, e) = fw n ad (va_up mem j e) := by
  apply List.ext_getElem?
  intro k
  by_cases hk : k = j
  · subst hk
    rw [List.getElem?_set_self (by unfold fw; simpa using h), fw_at h, va_up_self]
  · rw [List.getElem?_set_ne (Ne.symm hk)]
    by_cases hn : k < n
    · rw [fw_at hn, fw_at hn, va_up_ne _ _ hk]
    · rw [fw_ge (Nat.le_of_not_lt hn), fw_ge (Nat.le_of_not_lt hn)]
theorem fw_push {n q : Nat} {ad : Nat → Nat} {mem : Nat → va_E} {e : va_E} : fw n ad mem ++ [(q, e)] = fw (n + 1) (va_up ad n q) (va_up mem n e) := by
  unfold fw
  rw [List.range_succ, List.map_append]
  congr 1
  · apply List.map_congr_left
    intro k hk
    have : k ≠ n := Nat.ne_of_lt (List.mem_range.mp hk)
    rw [va_up_ne _ _ this, va_up_ne _ _ this]
  · simp [va_up_self]
theorem fw_D {A : Nat → Prop} {n : Nat} {ad : Nat → Nat} {mem mem' : Nat → va_E} (h : va_D A (fw n ad mem)) : va_D A (fw n ad mem') := by
  refine ⟨fun i j x y hx hy hxy => ?_, fun k q hk => ?_⟩
  · obtain ⟨h1, rfl⟩ := fw_get hx
    obtain ⟨h2, rfl⟩ := fw_get hy
    exact h.1 i j _ _ (fw_at h1) (fw_at h2) hxy
  · obtain ⟨h1, rfl⟩ := fw_get hk
    exact h.2 k (ad k, mem k) (fw_at h1)
abbrev ty6 (cy : Nat → ClassId) : List (ClassId × FieldType) := [(cy 0, .char), (cy 1, .int), (cy 2, .long), (cy 3, .boolean), (cy 4, .object "AbnfChart$Element"), (cy 5, .object "AbnfChart$Rule")]
abbrev Az (sz : Nat) : Nat → Prop := fun q => sz ≤ q
def EV (D : va_G) (cy : Nat → ClassId) (sz : Nat) (U : State) : Prop :=
  va_K D vcl (ty6 cy) U ∧ NW U ∧ vx_Zq Bundle.tN "UNASSIGNED_STACK" Bundle.steD (Az sz) U U.heap ∧ vx_Zq Bundle.tN "SUPPRESSED_SENTINEL" Bundle.listD (Az sz) U U.heap ∧ sz ≤ U.heap.size ∧ va_Nc "java/lang/IllegalStateException" "java/lang/IllegalArgumentException" U ∧ va_Nc "java/lang/IndexOutOfBoundsException" "java/util/NoSuchElementException" U
def PR (D : va_G) (cy : Nat → ClassId) (sz n : Nat) (ad : Nat → Nat) (mem : Nat → va_E) (U : State) : Prop := EV D cy sz U ∧ va_P D vcl (fw n ad mem) U.heap ∧ va_D (Az sz) (fw n ad mem)
abbrev PP (D : va_G) (n : Nat) (ad : Nat → Nat) (mem : Nat → va_E) (t : State) : Prop := va_P D vcl (fw n ad mem) t.heap
theorem EV.at {D : va_G} {cy : Nat → ClassId} {sz : Nat} {s U : State} {H : Heap} {locs : List Loc} (h : EV D cy sz s) (hS : va_S (Az sz) s.heap H locs) (hU : U.heap = H) (hW : s.WarmedH U.vm) : EV D cy sz U := by
  obtain ⟨h1, h2, h3, h4, h5, h6, h7⟩ := h
  refine ⟨va_K.moved hW.alike h1, h2.warm hW, ?_, ?_, ?_, va_Nc.moved hW.alike h6, va_Nc.moved hW.alike h7⟩
  · rw [hU]; exact vx_Zq.moved hW.alike (h3.kept hS.2.1)
  · rw [hU]; exact vx_Zq.moved hW.alike (h4.kept hS.2.1)
  · rw [hU]; exact Nat.le_trans h5 hS.1
theorem EV.call {D : va_G} {cy : Nat → ClassId} {sz : Nat} {U : State} {g : JFrame} {mk : MethodId} {a : Array Value} (h : EV D cy sz U) : EV D cy sz (U.calling g mk a) := by
  obtain ⟨h1, h2, h3, h4, h5, h6, h7⟩ := h
  exact ⟨va_K.moved (u := U) (U := U.calling g mk a) (Vm.Alike.refl U.vm) h1, h2.warm (s := U) (U := U.calling g mk a) (State.WarmedH.refl U), vx_Zq.moved (u := U) (U := U.calling g mk a) (Vm.Alike.refl U.vm) h3, vx_Zq.moved (u := U) (U := U.calling g mk a) (Vm.Alike.refl U.vm) h4, h5, va_Nc.moved (u := U) (U := U.calling g mk a) (Vm.Alike.refl U.vm) h6, va_Nc.moved (u := U) (U := U.calling g mk a) (Vm.Alike.refl U.vm) h7⟩
theorem PR.blind {D : va_G} {cy : Nat → ClassId} {sz n : Nat} {ad : Nat → Nat} {mem : Nat → va_E} {av : List Value} : FrameBlind (va_Pc av (PR D cy sz n ad mem)) := fun a U g mk q => ⟨q.1, q.2.1.call, q.2.2.1, q.2.2.2⟩
