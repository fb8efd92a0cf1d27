/-! methods that may throw, counted well: a normal end makes no cell, a throw makes one -/
section XR
variable {p : Program} {l : Launch} {e : Env} {R : Room} {s : State} {m : MethodId} {args : Array Value} {below : List Frame} {meth : Method} {c : Code} {H : Heap} {locs : List Loc} {cells slots : Nat} {Q : State → Prop}
/-- where no cell is new, nothing has been used -/
theorem x_reset {T : State} (hz : T.heap.size = s.heap.size) (X : Stand p l e R s m args below meth c T locs cells slots) : Stand p l e R s m args below meth c T locs 0 0 := by
  obtain ⟨a1, a2, a3, a4, a5, a6, a7, a8, a9, a10, a11, a12, a13, h1, h2, h3, h4, h5, h6⟩ := X
  have hd : (T.setVm s.vm).heap.toList.drop s.heap.size = [] := List.drop_eq_nil_of_le (by show T.heap.toList.length ≤ _; rw [Array.length_toList, hz]; exact Nat.le_refl _)
  refine ⟨a1, a2, a3, a4, a5, a6, a7, a8, a9, a10, a11, a12, a13, h1, h2, ?_, h4, ?_, h6⟩
  · show T.heap.size ≤ _
    omega
  · rw [hd]; exact Nat.le_refl _
theorem x_size {g : JFrame} (kk : H.size = s.heap.size → W p l e R s m args below meth c H locs 0 slots Q g) : W p l e R s m args below meth c H locs 0 slots Q g := by
  intro T hT X
  have h1 : s.heap.size ≤ T.heap.size := X.same.2.1
  have h2 : T.heap.size ≤ s.heap.size + 0 := X.same.2.2.1
  exact kk (by rw [← hT]; omega) T hT X
theorem x_sizeX {g : JFrame} {q : Addr} (kk : H.size = s.heap.size → vx_W p l e R s m args below meth c H locs 0 slots Q g q) : vx_W p l e R s m args below meth c H locs 0 slots Q g q := by
  intro T hT X
  have h1 : s.heap.size ≤ T.heap.size := X.same.2.1
  have h2 : T.heap.size ≤ s.heap.size + 0 := X.same.2.2.1
  exact kk (by rw [← hT]; omega) T hT X
abbrev QX (Qc : Array Value → State → Outcome → State → Prop) : Array Value → State → Outcome → State → Prop := fun a st oc t => Qc a st oc t ∧ t.heap.size = st.heap.size
/-- a reference as an answer -/
def QR {S : Type} (post : Nat → S → Prop) (B : S → State → Prop) (A : Nat → Prop) : Array Value → State → Outcome → State → Prop := fun _ st oc t => (∃ (r : Nat) (u : S), oc = .returned (some (.ref r)) ∧ post r u ∧ B u t) ∧ va_F A st t
variable {mc ms : Nat} {free : Addr → Prop} {A0 A1 : Nat → Prop} {H0 : Heap} {a : Array Value} {pc : Nat} {ls : Array Slot} {st0 rest : List Value}
theorem x_calli {S SX : Type} {post : Int32 → S → Prop} {px : SX → Prop} {B : S → State → Prop} {BX : String → SX → State → Prop} {AX : Nat → Prop} (hr : vx_Run p l e R s m args below meth c H locs 0 0 mc ms (F0 m pc ls st0) rest (QX (va_Qi post B A1) a) (vx_X px BX AX) free) (hS : va_S A0 H0 H locs) (hA : ∀ q, q < H.size → A1 q → A0 q) (hf : ∀ q, free q → A0 q) (hAX : ∀ q, q < H.size → AX q → A0 q)
    (kx : ∀ (E : String) (ce : Cell) (q9 : Addr) (u : SX) (t : State) (H1 : Heap) (locs1 : List Loc), t.heap = H1 → s.vm.Alike t.vm → px u → BX E u t → H.size ≤ H1.size → (∀ q : Nat, q < H.size → ¬ AX q → H1[q]? = H[q]?) → va_S A0 H0 H1 locs1 → H1[q9]? = some ce → ce.vm = .none → s.vm.findClass E = some ce.cls → vx_W p l e R s m args below meth c H1 locs1 (0 + mc) (0 + ms) Q (F0 m pc ls rest) q9)
    (kk : ∀ (r : Int32) (u : S) (t : State) (H1 : Heap) (locs1 : List Loc), t.heap = H1 → post r u → B u t → va_S A0 H0 H1 locs1 → W p l e R s m args below meth c H1 locs1 0 0 Q (F0 m (pc + 3) ls (.int r :: rest))) : W p l e R s m args below meth c H locs 0 0 Q (F0 m pc ls st0) := by
  refine x_size (fun hz => ?_)
  intro T hT X
  rcases hr T hT X with ⟨v, st₀, t, T', L, h0, X', hL, e1, e2, ⟨⟨⟨r, u, hv, hp, hb⟩, hF⟩, hsz⟩, st⟩ | ⟨q, st₀, t, T', L, E, ce, h0, X', hL, e1, e2, ⟨u, hp, hb, hF⟩, hce, hcv, hcl, st⟩
  · cases hv
    obtain ⟨k1, k2, k3⟩ := vx_keep h0 e1 hS hA hf hL hF
    obtain ⟨t2, a1, b1⟩ := kk r u t T'.heap (locs ++ L) e1.symm hp hb k3 T' rfl (x_reset (by rw [e1, hsz, h0, hz]) X')
    exact ⟨t2, st t2 a1, b1⟩
  · obtain ⟨k1, k2, k3⟩ := vx_keep h0 e1 hS hAX hf hL hF
    obtain ⟨t2, a1, b1⟩ := kx E ce q u t T'.heap (locs ++ L) e1.symm (by rw [← e2]; exact X'.warmed.alike) hp hb k1 k2 k3 (by rw [e1]; exact hce) hcv hcl T' rfl X'
    exact ⟨t2, st.trans a1, b1⟩
theorem x_callr {S SX : Type} {post : Nat → S → Prop} {px : SX → Prop} {B : S → State → Prop} {BX : String → SX → State → Prop} {AX : Nat → Prop} (hr : vx_Run p l e R s m args below meth c H locs 0 0 mc ms (F0 m pc ls st0) rest (QX (QR post B A1) a) (vx_X px BX AX) free) (hS : va_S A0 H0 H locs) (hA : ∀ q, q < H.size → A1 q → A0 q) (hf : ∀ q, free q → A0 q) (hAX : ∀ q, q < H.size → AX q → A0 q)
    (kx : ∀ (E : String) (ce : Cell) (q9 : Addr) (u : SX) (t : State) (H1 : Heap) (locs1 : List Loc), t.heap = H1 → s.vm.Alike t.vm → px u → BX E u t → H.size ≤ H1.size → (∀ q : Nat, q < H.size → ¬ AX q → H1[q]? = H[q]?) → va_S A0 H0 H1 locs1 → H1[q9]? = some ce → ce.vm = .none → s.vm.findClass E = some ce.cls → vx_W p l e R s m args below meth c H1 locs1 (0 + mc) (0 + ms) Q (F0 m pc ls rest) q9)
    (kk : ∀ (r : Nat) (u : S) (t : State) (H1 : Heap) (locs1 : List Loc), t.heap = H1 → post r u → B u t → va_S A0 H0 H1 locs1 → W p l e R s m args below meth c H1 locs1 0 0 Q (F0 m (pc + 3) ls (.ref r :: rest))) : W p l e R s m args below meth c H locs 0 0 Q (F0 m pc ls st0) := by
  refine x_size (fun hz => ?_)
  intro T hT X
  rcases hr T hT X with ⟨v, st₀, t, T', L, h0, X', hL, e1, e2, ⟨⟨⟨r, u, hv, hp, hb⟩, hF⟩, hsz⟩, st⟩ | ⟨q, st₀, t, T', L, E, ce, h0, X', hL, e1, e2, ⟨u, hp, hb, hF⟩, hce, hcv, hcl, st⟩
  · cases hv
    obtain ⟨k1, k2, k3⟩ := vx_keep h0 e1 hS hA hf hL hF
    obtain ⟨t2, a1, b1⟩ := kk r u t T'.heap (locs ++ L) e1.symm hp hb k3 T' rfl (x_reset (by rw [e1, hsz, h0, hz]) X')
    exact ⟨t2, st t2 a1, b1⟩
  · obtain ⟨k1, k2, k3⟩ := vx_keep h0 e1 hS hAX hf hL hF
    obtain ⟨t2, a1, b1⟩ := kx E ce q u t T'.heap (locs ++ L) e1.symm (by rw [← e2]; exact X'.warmed.alike) hp hb k1 k2 k3 (by rw [e1]; exact hce) hcv hcl T' rfl X'
    exact ⟨t2, st.trans a1, b1⟩
theorem x_callv {S SX : Type} {post : S → Prop} {px : SX → Prop} {B : S → State → Prop} {BX : String → SX → State → Prop} {AX : Nat → Prop} (hr : vx_Run p l e R s m args below meth c H locs 0 0 mc ms (F0 m pc ls st0) rest (QX (va_Qv post B A1) a) (vx_X px BX AX) free) (hS : va_S A0 H0 H locs) (hA : ∀ q, q < H.size → A1 q → A0 q) (hf : ∀ q, free q → A0 q) (hAX : ∀ q, q < H.size → AX q → A0 q)
    (kx : ∀ (E : String) (ce : Cell) (q9 : Addr) (u : SX) (t : State) (H1 : Heap) (locs1 : List Loc), t.heap = H1 → s.vm.Alike t.vm → px u → BX E u t → H.size ≤ H1.size → (∀ q : Nat, q < H.size → ¬ AX q → H1[q]? = H[q]?) → va_S A0 H0 H1 locs1 → H1[q9]? = some ce → ce.vm = .none → s.vm.findClass E = some ce.cls → vx_W p l e R s m args below meth c H1 locs1 (0 + mc) (0 + ms) Q (F0 m pc ls rest) q9)
    (kk : ∀ (u : S) (t : State) (H1 : Heap) (locs1 : List Loc), t.heap = H1 → post u → B u t → va_S A0 H0 H1 locs1 → W p l e R s m args below meth c H1 locs1 0 0 Q (F0 m (pc + 3) ls rest)) : W p l e R s m args below meth c H locs 0 0 Q (F0 m pc ls st0) := by
  refine x_size (fun hz => ?_)
  intro T hT X
  rcases hr T hT X with ⟨v, st₀, t, T', L, h0, X', hL, e1, e2, ⟨⟨⟨u, hv, hp, hb⟩, hF⟩, hsz⟩, st⟩ | ⟨q, st₀, t, T', L, E, ce, h0, X', hL, e1, e2, ⟨u, hp, hb, hF⟩, hce, hcv, hcl, st⟩
  · cases hv
    obtain ⟨k1, k2, k3⟩ := vx_keep h0 e1 hS hA hf hL hF
    obtain ⟨t2, a1, b1⟩ := kk u t T'.heap (locs ++ L) e1.symm hp hb k3 T' rfl (x_reset (by rw [e1, hsz, h0, hz]) X')
    exact ⟨t2, st t2 a1, b1⟩
  · obtain ⟨k1, k2, k3⟩ := vx_keep h0 e1 hS hAX hf hL hF
    obtain ⟨t2, a1, b1⟩ := kx E ce q u t T'.heap (locs ++ L) e1.symm (by rw [← e2]; exact X'.warmed.alike) hp hb k1 k2 k3 (by rw [e1]; exact hce) hcv hcl T' rfl X'
    exact ⟨t2, st.trans a1, b1⟩
theorem callR {S : Type} {post : Nat → S → Prop} {B : S → State → Prop} (hr : va_Run p l e R s m args below meth c H locs cells slots mc ms (F0 m pc ls st0) rest (QR post B A1 a) free) (hS : va_S A0 H0 H locs) (hA : ∀ q, q < H.size → A1 q → A0 q) (hf : ∀ q, free q → A0 q)
    (kk : ∀ (r : Nat) (u : S) (t : State) (H1 : Heap) (locs1 : List Loc), t.heap = H1 → post r u → B u t → va_S A0 H0 H1 locs1 → W p l e R s m args below meth c H1 locs1 (cells + mc) (slots + ms) Q (F0 m (pc + 3) ls (.ref r :: rest))) : W p l e R s m args below meth c H locs cells slots Q (F0 m pc ls st0) := by
  intro T hT X
  obtain ⟨v, st₀, t, T', L, h0, X', hL, e1, e2, ⟨⟨r, u, hv, hp, hb⟩, hF⟩, st⟩ := hr T hT X
  cases hv
  obtain ⟨k1, k2, k3⟩ := vx_keep h0 e1 hS hA hf hL hF
  obtain ⟨t2, a1, b1⟩ := kk r u t T'.heap (locs ++ L) e1.symm hp hb k3 T' rfl X'
  exact ⟨t2, st t2 a1, b1⟩
end XR
section XF
variable {p : Program} {l : Launch} {e : Env} {R : Room} {s : State} {m : MethodId} {args : Array Value} {below : List Frame} {meth : Method} {c : Code} {H : Heap} {locs : List Loc} {cells slots : Nat} {Q : State → Prop}
variable {cc : ByteArray} {pc nL : Nat} {ls : Array Slot} {rest : List Value} {D : va_G} {cy : Nat → ClassId} {own C host : String} {T : u_T} {N ci index sz n j maxL na ik ic : Nat} {ad : Nat → Nat} {mem : Nat → va_E} {fs As : List Value} {y : MethodName} {bytes : ByteArray} {ret : Option FieldType} {rm : Room}
abbrev NXi (l : Launch) (D : va_G) (cy : Nat → ClassId) (sz n : Nat) (ad : Nat → Nat) (y : MethodName) (bytes : ByteArray) (maxL : Nat) (ret : Option FieldType) (rm : Room) (mem : Nat → va_E) (av : List Value) (post : Int32 → (Nat → va_E) → Prop) (px : String → (Nat → va_E) → Prop) : Prop :=
  vx_Met l y (.code y bytes maxL ret :: tg) rm (va_Pc av (PR D cy sz n ad mem)) (QX (va_Qi post (PP D n ad) (Az sz))) (XQ D sz n ad px) 1 6 (Az sz)
abbrev NXv (l : Launch) (D : va_G) (cy : Nat → ClassId) (sz n : Nat) (ad : Nat → Nat) (y : MethodName) (bytes : ByteArray) (maxL : Nat) (rm : Room) (mem : Nat → va_E) (av : List Value) (post : (Nat → va_E) → Prop) (px : String → (Nat → va_E) → Prop) : Prop :=
  vx_Met l y (.code y bytes maxL none :: tg) rm (va_Pc av (PR D cy sz n ad mem)) (QX (va_Qv post (PP D n ad) (Az sz))) (XQ D sz n ad px) 1 6 (Az sz)
abbrev NXr (l : Launch) (D : va_G) (cy : Nat → ClassId) (sz n : Nat) (ad : Nat → Nat) (y : MethodName) (bytes : ByteArray) (maxL : Nat) (ret : Option FieldType) (rm : Room) (mem : Nat → va_E) (av : List Value) (post : Nat → (Nat → va_E) → Prop) (px : String → (Nat → va_E) → Prop) : Prop :=
  vx_Met l y (.code y bytes maxL ret :: tg) rm (va_Pc av (PR D cy sz n ad mem)) (QX (QR post (PP D n ad) (Az sz))) (XQ D sz n ad px) 1 6 (Az sz)
abbrev MR (l : Launch) (D : va_G) (cy : Nat → ClassId) (sz n : Nat) (ad : Nat → Nat) (y : MethodName) (bytes : ByteArray) (maxL : Nat) (ret : Option FieldType) (rm : Room) (mem : Nat → va_E) (av : List Value) (post : Nat → (Nat → va_E) → Prop) : Prop :=
  Met l y (.code y bytes maxL ret :: tg) rm (va_Pc av (PR D cy sz n ad mem)) (QR post (PP D n ad) (Az sz)) 0 0 (Az sz)
theorem f_xVi {post : Int32 → (Nat → va_E) → Prop} {px : String → (Nat → va_E) → Prop} (B : MB p s m args c cc own D cy) (hml : c.maxLocals = nL) (E : EV D cy sz s) (hP : va_P D vcl (fw n ad mem) H) (hD : va_D (Az sz) (fw n ad mem)) (hS : va_S (Az sz) s.heap H locs) (hj : j < n) (hm : mem j = .inr (ci, fs)) (hc : vcl[ci]? = some (C, T, N))
    (M : NXi l D cy sz n ad y bytes maxL ret rm mem (.ref (ad j) :: As) post px) (h1 : Cond.methodLink own index y ∈ lw_tbl) (h2 : Cond.instanceMethod y ∈ lw_tbl) (h3 : Cond.selects C y y ∈ lw_tbl) (h4 : Cond.initialized C ∈ lw_tbl) (h5 : Cond.code y bytes maxL ret ∈ lw_tbl)
    (hd : y.cls = C ∧ y.cls ≠ "java/lang/invoke/MethodHandle" ∧ y.cls ≠ "java/lang/invoke/VarHandle" ∧ (parseMethodDescriptor y.desc).map (fun d => d.parameters.length) = some na) (hrm : rm.cells = 1 ∧ rm.slots = 6) (hR : rm.frames + 1 ≤ R.frames ∧ 8 + (maxL + 11) + rm.locals ≤ R.locals) (hn : As.length = na) (hsz : ls.size = nL) (hw : (rest.map fun v => v.category).sum ≤ 8) (hdg : decode cc pc = .ok (.invokevirtual index, 3)) (hf : 1 ≤ R.cells ∧ 6 ≤ R.slots)
    (kx : ∀ (X : String) (ce : Cell) (q9 : Addr) (mem' : Nat → va_E) (H1 : Heap) (locs1 : List Loc), px X mem' → va_P D vcl (fw n ad mem') H1 → va_S (Az sz) s.heap H1 locs1 → H1[q9]? = some ce → ce.vm = .none → s.vm.findClass X = some ce.cls → vx_W p l e R s m args below meth c H1 locs1 1 6 Q (F0 m pc ls rest) q9)
    (kk : ∀ (r : Int32) (mem' : Nat → va_E) (H1 : Heap) (locs1 : List Loc), post r mem' → va_P D vcl (fw n ad mem') H1 → va_S (Az sz) s.heap H1 locs1 → W p l e R s m args below meth c H1 locs1 0 0 Q (F0 m (pc + 3) ls (.int r :: rest))) :
    W p l e R s m args below meth c H locs 0 0 Q (F0 m pc ls (As.reverse ++ .ref (ad j) :: rest)) :=
  x_calli (vx_runV (As := As) (rest := rest) ⟨B.1, B.2.1, hml, B.2.2.2.1, B.2.2.1⟩ M (cwV na B.2.2.1 (gdV h1 h2 h3 h4 h5) rfl hrm.1 hrm.2 hd hR) (f_preV B E hP hD hS hj hm hc) rfl hn hsz rfl (lv_room hw) hdg ⟨by omega, by omega⟩) hS (fun q _ h => h) (fun q h => h) (fun q _ h => h)
    (fun X ce q9 u t H1 locs1 ht _ _ hb _ _ hS1 g1 g2 g3 => kx X ce q9 u H1 locs1 hb.1 (by rw [← ht]; exact hb.2) hS1 g1 g2 g3)
    (fun r u t H1 locs1 ht hp hb hS1 => kk r u H1 locs1 hp (by rw [← ht]; exact hb) hS1)
theorem f_xVr {post : Nat → (Nat → va_E) → Prop} {px : String → (Nat → va_E) → Prop} (B : MB p s m args c cc own D cy) (hml : c.maxLocals = nL) (E : EV D cy sz s) (hP : va_P D vcl (fw n ad mem) H) (hD : va_D (Az sz) (fw n ad mem)) (hS : va_S (Az sz) s.heap H locs) (hj : j < n) (hm : mem j = .inr (ci, fs)) (hc : vcl[ci]? = some (C, T, N))
    (M : NXr l D cy sz n ad y bytes maxL ret rm mem (.ref (ad j) :: As) post px) (h1 : Cond.methodLink own index y ∈ lw_tbl) (h2 : Cond.instanceMethod y ∈ lw_tbl) (h3 : Cond.selects C y y ∈ lw_tbl) (h4 : Cond.initialized C ∈ lw_tbl) (h5 : Cond.code y bytes maxL ret ∈ lw_tbl)
    (hd : y.cls = C ∧ y.cls ≠ "java/lang/invoke/MethodHandle" ∧ y.cls ≠ "java/lang/invoke/VarHandle" ∧ (parseMethodDescriptor y.desc).map (fun d => d.parameters.length) = some na) (hrm : rm.cells = 1 ∧ rm.slots = 6) (hR : rm.frames + 1 ≤ R.frames ∧ 8 + (maxL + 11) + rm.locals ≤ R.locals) (hn : As.length = na) (hsz : ls.size = nL) (hw : (rest.map fun v => v.category).sum ≤ 8) (hdg : decode cc pc = .ok (.invokevirtual index, 3)) (hf : 1 ≤ R.cells ∧ 6 ≤ R.slots)
    (kx : ∀ (X : String) (ce : Cell) (q9 : Addr) (mem' : Nat → va_E) (H1 : Heap) (locs1 : List Loc), px X mem' → va_P D vcl (fw n ad mem') H1 → va_S (Az sz) s.heap H1 locs1 → H1[q9]? = some ce → ce.vm = .none → s.vm.findClass X = some ce.cls → vx_W p l e R s m args below meth c H1 locs1 1 6 Q (F0 m pc ls rest) q9)
    (kk : ∀ (r : Nat) (mem' : Nat → va_E) (H1 : Heap) (locs1 : List Loc), post r mem' → va_P D vcl (fw n ad mem') H1 → va_S (Az sz) s.heap H1 locs1 → W p l e R s m args below meth c H1 locs1 0 0 Q (F0 m (pc + 3) ls (.ref r :: rest))) :
    W p l e R s m args below meth c H locs 0 0 Q (F0 m pc ls (As.reverse ++ .ref (ad j) :: rest)) :=
  x_callr (vx_runV (As := As) (rest := rest) ⟨B.1, B.2.1, hml, B.2.2.2.1, B.2.2.1⟩ M (cwV na B.2.2.1 (gdV h1 h2 h3 h4 h5) rfl hrm.1 hrm.2 hd hR) (f_preV B E hP hD hS hj hm hc) rfl hn hsz rfl (lv_room hw) hdg ⟨by omega, by omega⟩) hS (fun q _ h => h) (fun q h => h) (fun q _ h => h)
    (fun X ce q9 u t H1 locs1 ht _ _ hb _ _ hS1 g1 g2 g3 => kx X ce q9 u H1 locs1 hb.1 (by rw [← ht]; exact hb.2) hS1 g1 g2 g3)
    (fun r u t H1 locs1 ht hp hb hS1 => kk r u H1 locs1 hp (by rw [← ht]; exact hb) hS1)
theorem f_xVv {post : (Nat → va_E) → Prop} {px : String → (Nat → va_E) → Prop} (B : MB p s m args c cc own D cy) (hml : c.maxLocals = nL) (E : EV D cy sz s) (hP : va_P D vcl (fw n ad mem) H) (hD : va_D (Az sz) (fw n ad mem)) (hS : va_S (Az sz) s.heap H locs) (hj : j < n) (hm : mem j = .inr (ci, fs)) (hc : vcl[ci]? = some (C, T, N))
    (M : NXv l D cy sz n ad y bytes maxL rm mem (.ref (ad j) :: As) post px) (h1 : Cond.methodLink own index y ∈ lw_tbl) (h2 : Cond.instanceMethod y ∈ lw_tbl) (h3 : Cond.selects C y y ∈ lw_tbl) (h4 : Cond.initialized C ∈ lw_tbl) (h5 : Cond.code y bytes maxL none ∈ lw_tbl)
    (hd : y.cls = C ∧ y.cls ≠ "java/lang/invoke/MethodHandle" ∧ y.cls ≠ "java/lang/invoke/VarHandle" ∧ (parseMethodDescriptor y.desc).map (fun d => d.parameters.length) = some na) (hrm : rm.cells = 1 ∧ rm.slots = 6) (hR : rm.frames + 1 ≤ R.frames ∧ 8 + (maxL + 11) + rm.locals ≤ R.locals) (hn : As.length = na) (hsz : ls.size = nL) (hw : (rest.map fun v => v.category).sum ≤ 8) (hdg : decode cc pc = .ok (.invokevirtual index, 3)) (hf : 1 ≤ R.cells ∧ 6 ≤ R.slots)
    (kx : ∀ (X : String) (ce : Cell) (q9 : Addr) (mem' : Nat → va_E) (H1 : Heap) (locs1 : List Loc), px X mem' → va_P D vcl (fw n ad mem') H1 → va_S (Az sz) s.heap H1 locs1 → H1[q9]? = some ce → ce.vm = .none → s.vm.findClass X = some ce.cls → vx_W p l e R s m args below meth c H1 locs1 1 6 Q (F0 m pc ls rest) q9)
    (kk : ∀ (mem' : Nat → va_E) (H1 : Heap) (locs1 : List Loc), post mem' → va_P D vcl (fw n ad mem') H1 → va_S (Az sz) s.heap H1 locs1 → W p l e R s m args below meth c H1 locs1 0 0 Q (F0 m (pc + 3) ls rest)) :
    W p l e R s m args below meth c H locs 0 0 Q (F0 m pc ls (As.reverse ++ .ref (ad j) :: rest)) :=
  x_callv (vx_runV (As := As) (rest := rest) ⟨B.1, B.2.1, hml, B.2.2.2.1, B.2.2.1⟩ M (cwV na B.2.2.1 (gdV h1 h2 h3 h4 h5) rfl hrm.1 hrm.2 hd hR) (f_preV B E hP hD hS hj hm hc) rfl hn hsz rfl (lv_room hw) hdg ⟨by omega, by omega⟩) hS (fun q _ h => h) (fun q h => h) (fun q _ h => h)
    (fun X ce q9 u t H1 locs1 ht _ _ hb _ _ hS1 g1 g2 g3 => kx X ce q9 u H1 locs1 hb.1 (by rw [← ht]; exact hb.2) hS1 g1 g2 g3)
    (fun u t H1 locs1 ht hp hb hS1 => kk u H1 locs1 hp (by rw [← ht]; exact hb) hS1)
theorem f_callVr {post : Nat → (Nat → va_E) → Prop} (B : MB p s m args c cc own D cy) (hml : c.maxLocals = nL) (E : EV D cy sz s) (hP : va_P D vcl (fw n ad mem) H) (hD : va_D (Az sz) (fw n ad mem)) (hS : va_S (Az sz) s.heap H locs) (hj : j < n) (hm : mem j = .inr (ci, fs)) (hc : vcl[ci]? = some (C, T, N))
    (M : MR l D cy sz n ad y bytes maxL ret rm mem (.ref (ad j) :: As) post) (h1 : Cond.methodLink own index y ∈ lw_tbl) (h2 : Cond.instanceMethod y ∈ lw_tbl) (h3 : Cond.selects C y y ∈ lw_tbl) (h4 : Cond.initialized C ∈ lw_tbl) (h5 : Cond.code y bytes maxL ret ∈ lw_tbl)
    (hd : y.cls = C ∧ y.cls ≠ "java/lang/invoke/MethodHandle" ∧ y.cls ≠ "java/lang/invoke/VarHandle" ∧ (parseMethodDescriptor y.desc).map (fun d => d.parameters.length) = some na) (hrm : rm.cells = 0 ∧ rm.slots = 0) (hR : rm.frames + 1 ≤ R.frames ∧ 8 + (maxL + 11) + rm.locals ≤ R.locals) (hn : As.length = na) (hsz : ls.size = nL) (hw : (rest.map fun v => v.category).sum ≤ 8) (hdg : decode cc pc = .ok (.invokevirtual index, 3)) (hf : cells ≤ R.cells ∧ slots ≤ R.slots)
    (kk : ∀ (r : Nat) (mem' : Nat → va_E) (H1 : Heap) (locs1 : List Loc), post r mem' → va_P D vcl (fw n ad mem') H1 → va_S (Az sz) s.heap H1 locs1 → W p l e R s m args below meth c H1 locs1 cells slots Q (F0 m (pc + 3) ls (.ref r :: rest))) :
    W p l e R s m args below meth c H locs cells slots Q (F0 m pc ls (As.reverse ++ .ref (ad j) :: rest)) :=
  callR (va_runV (As := As) (rest := rest) ⟨B.1, B.2.1, hml, B.2.2.2.1, B.2.2.1⟩ M (cwV na B.2.2.1 (gdV h1 h2 h3 h4 h5) rfl hrm.1 hrm.2 hd hR) (f_preV B E hP hD hS hj hm hc) rfl hn hsz rfl (lv_room hw) hdg hf) hS (fun q _ h => h) (fun q h => h)
    (fun r u t H1 locs1 ht hp hb hS1 => kk r u H1 locs1 hp (by rw [← ht]; exact hb) hS1)
theorem x_iret {post : Int32 → (Nat → va_E) → Prop} {v : Int32} {px : String → (Nat → va_E) → Prop} (hx : p.tables.exec = Jvm.exec) (hb : c.code = cc) (hlocks : meth.locks = false) (hr : meth.sig.returnType = some .int) (hp : post v mem) (hP : va_P D vcl (fw n ad mem) H) (hS : va_S (Az sz) s.heap H locs) (hdg : decode cc pc = .ok (.ireturn, 1)) : W p l e R s m args below meth c H locs 0 0 (vx_MQ below (QX (va_Qi post (PP D n ad) (Az sz))) (XQ D sz n ad px) args s 1 6 (Az sz)) (F0 m pc ls [.int v]) :=
  x_size (fun hz => vx_ret (W.widen (k := 1) (n := 6) (by decide) (by decide) (W.iret (v := v) hx hb hr (fun t ht _ => ⟨⟨⟨v, mem, rfl, hp, by show va_P _ _ _ t.heap; rw [ht]; exact hP⟩, hS.F ht⟩, by rw [ht]; exact hz⟩) hS.2.2 hdg)))
theorem x_zret {post : Int32 → (Nat → va_E) → Prop} {v : Int32} {ty : FieldType} {px : String → (Nat → va_E) → Prop} (hx : p.tables.exec = Jvm.exec) (hb : c.code = cc) (hlocks : meth.locks = false) (hr : meth.sig.returnType = some ty) (hn : narrow ty (.int v) = .int v) (hp : post v mem) (hP : va_P D vcl (fw n ad mem) H) (hS : va_S (Az sz) s.heap H locs) (hdg : decode cc pc = .ok (.ireturn, 1)) : W p l e R s m args below meth c H locs 0 0 (vx_MQ below (QX (va_Qi post (PP D n ad) (Az sz))) (XQ D sz n ad px) args s 1 6 (Az sz)) (F0 m pc ls [.int v]) :=
  x_size (fun hz => vx_ret (W.widen (k := 1) (n := 6) (by decide) (by decide) (W.zret (v := v) hx hb hr hn (fun t ht _ => ⟨⟨⟨v, mem, rfl, hp, by show va_P _ _ _ t.heap; rw [ht]; exact hP⟩, hS.F ht⟩, by rw [ht]; exact hz⟩) hS.2.2 hdg)))
theorem x_vret {post : (Nat → va_E) → Prop} {px : String → (Nat → va_E) → Prop} (hx : p.tables.exec = Jvm.exec) (hb : c.code = cc) (hlocks : meth.locks = false) (hr : meth.sig.returnType = none) (hp : post mem) (hP : va_P D vcl (fw n ad mem) H) (hS : va_S (Az sz) s.heap H locs) (hdg : decode cc pc = .ok (.return_, 1)) : W p l e R s m args below meth c H locs 0 0 (vx_MQ below (QX (va_Qv post (PP D n ad) (Az sz))) (XQ D sz n ad px) args s 1 6 (Az sz)) (F0 m pc ls []) :=
  x_size (fun hz => vx_ret (W.widen (k := 1) (n := 6) (by decide) (by decide) (W.vret hx hb hr (fun t ht _ => ⟨⟨⟨mem, rfl, hp, by show va_P _ _ _ t.heap; rw [ht]; exact hP⟩, hS.F ht⟩, by rw [ht]; exact hz⟩) hS.2.2 hdg)))
theorem x_aret {post : Nat → (Nat → va_E) → Prop} {v : Nat} {nm : String} {px : String → (Nat → va_E) → Prop} (hx : p.tables.exec = Jvm.exec) (hb : c.code = cc) (hlocks : meth.locks = false) (hr : meth.sig.returnType = some (.object nm)) (hp : post v mem) (hP : va_P D vcl (fw n ad mem) H) (hS : va_S (Az sz) s.heap H locs) (hdg : decode cc pc = .ok (.areturn, 1)) : W p l e R s m args below meth c H locs 0 0 (vx_MQ below (QX (QR post (PP D n ad) (Az sz))) (XQ D sz n ad px) args s 1 6 (Az sz)) (F0 m pc ls [.ref v]) :=
  x_size (fun hz => vx_ret (W.widen (k := 1) (n := 6) (by decide) (by decide) (W.aret (v := .ref v) hx hb hr (Or.inl ⟨nm, rfl⟩) (Or.inr ⟨v, rfl⟩) (fun t ht _ => ⟨⟨⟨v, mem, rfl, hp, by show va_P _ _ _ t.heap; rw [ht]; exact hP⟩, hS.F ht⟩, by rw [ht]; exact hz⟩) hS.2.2 hdg)))
theorem r_aret {post : Nat → (Nat → va_E) → Prop} {v : Nat} {nm : String} (hx : p.tables.exec = Jvm.exec) (hb : c.code = cc) (hlocks : meth.locks = false) (hr : meth.sig.returnType = some (.object nm)) (hp : post v mem) (hP : va_P D vcl (fw n ad mem) H) (hS : va_S (Az sz) s.heap H locs) (hdg : decode cc pc = .ok (.areturn, 1)) : W p l e R s m args below meth c H locs 0 0 (MQ below (QR post (PP D n ad) (Az sz)) args s 0 0 (Az sz)) (F0 m pc ls [.ref v]) :=
  W.aret (v := .ref v) hx hb hr (Or.inl ⟨nm, rfl⟩) (Or.inr ⟨v, rfl⟩) (fun t ht _ => ⟨⟨v, mem, rfl, hp, by show va_P _ _ _ t.heap; rw [ht]; exact hP⟩, hS.F ht⟩) hS.2.2 hdg
end XF
