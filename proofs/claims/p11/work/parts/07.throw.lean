/-! methods that throw, in the flat world -/
abbrev cIA : String := "java/lang/IllegalArgumentException"
abbrev cIS : String := "java/lang/IllegalStateException"
abbrev cNS : String := "java/util/NoSuchElementException"
abbrev cIO : String := "java/lang/IndexOutOfBoundsException"
abbrev xnm : List String := ["java/lang/RuntimeException", "java/lang/Exception"]
theorem at_Ab_IA : ∀ w ∈ vx_at0 "AbnfChart" 54 cIA xnm, w ∈ TB ∧ vx_ot w = true := by decide +kernel
theorem at_Ab_IS : ∀ w ∈ vx_at0 "AbnfChart" 60 cIS xnm, w ∈ TB ∧ vx_ot w = true := by decide +kernel
theorem at_Ab_NS : ∀ w ∈ vx_at0 "AbnfChart" 120 cNS xnm, w ∈ TB ∧ vx_ot w = true := by decide +kernel
theorem at_Ab_IO : ∀ w ∈ vx_at0 "AbnfChart" 117 cIO xnm, w ∈ TB ∧ vx_ot w = true := by decide +kernel
theorem at_Rd_IA : ∀ w ∈ vx_at0 "AbnfChart$Reader" 203 cIA xnm, w ∈ TB ∧ vx_ot w = true := by decide +kernel
theorem at_Rd_IS : ∀ w ∈ vx_at0 "AbnfChart$Reader" 206 cIS xnm, w ∈ TB ∧ vx_ot w = true := by decide +kernel
theorem xnm_fit : ∀ n ∈ xnm, Bundle.fit n = true := by decide +kernel
section TW
variable {p : Program} {l : Launch} {e : Env} {R : Room} {s : State} {m : MethodId} {args : Array Value} {below : List Frame} {meth : Method} {c : Code} {H : Heap} {locs : List Loc} {cells slots : Nat} {Q : State → Prop}
variable {cc : ByteArray} {pc nL : Nat} {ls : Array Slot} {rest : List Value} {D : va_G} {cy : Nat → ClassId} {own C host : String} {T : u_T} {N ci index sz n j maxL na ik ic : Nat} {ad : Nat → Nat} {mem : Nat → va_E} {fs As : List Value} {y : MethodName} {bytes : ByteArray} {ret : Option FieldType} {rm : Room}
/-- what a thrown exception's class and the world behind it are -/
abbrev XQ (D : va_G) (sz n : Nat) (ad : Nat → Nat) (px : String → (Nat → va_E) → Prop) : String → State → State → Prop := vx_X (fun _ : Nat → va_E => True) (fun E u t => px E u ∧ PP D n ad u t) (Az sz)
abbrev MXi (l : Launch) (D : va_G) (cy : Nat → ClassId) (sz n : Nat) (ad : Nat → Nat) (y : MethodName) (bytes : ByteArray) (maxL : Nat) (ret : Option FieldType) (rm : Room) (mem : Nat → va_E) (av : List Value) (post : Int32 → (Nat → va_E) → Prop) (px : String → (Nat → va_E) → Prop) : Prop :=
  vx_Met l y (.code y bytes maxL ret :: tg) rm (va_Pc av (PR D cy sz n ad mem)) (va_Qi post (PP D n ad) (Az sz)) (XQ D sz n ad px) 1 6 (Az sz)
abbrev MXv (l : Launch) (D : va_G) (cy : Nat → ClassId) (sz n : Nat) (ad : Nat → Nat) (y : MethodName) (bytes : ByteArray) (maxL : Nat) (rm : Room) (mem : Nat → va_E) (av : List Value) (post : (Nat → va_E) → Prop) (px : String → (Nat → va_E) → Prop) : Prop :=
  vx_Met l y (.code y bytes maxL none :: tg) rm (va_Pc av (PR D cy sz n ad mem)) (va_Qv post (PP D n ad) (Az sz)) (XQ D sz n ad px) 1 6 (Az sz)
/-- throw new E() in a method without handlers -/
theorem f_throw {Qc : Array Value → State → Outcome → State → Prop} {px : String → (Nat → va_E) → Prop} {cls : String} (hlt : l.stackTraces = false) (B : MB p s m args c cc own D cy) (hml : c.maxLocals = nL) (hlocks : meth.locks = false) (hno : ∀ x ∈ c.exceptionTable.toList, False) (E : EV D cy sz s) (hP : va_P D vcl (fw n ad mem) H) (hS : va_S (Az sz) s.heap H locs)
    (hcls : Bundle.fit cls = true) (hk : Cond.classLink own ik cls ∈ lw_tbl) (hini : Cond.initialized cls ∈ lw_tbl) (hat : ∀ w ∈ vx_at0 own ic cls xnm, w ∈ TB ∧ vx_ot w = true) (hsz : ls.size = nL)
    (d0 : decode cc pc = .ok (.new ik, 3)) (d3 : decode cc (pc + 3) = .ok (.dup, 1)) (d4 : decode cc (pc + 4) = .ok (.invokespecial ic, 3)) (d7 : decode cc (pc + 7) = .ok (.athrow, 1))
    (hR : 5 < R.frames ∧ (rest.map fun v => v.category).sum + 81 ≤ R.locals ∧ cells + 1 ≤ R.cells ∧ slots + 6 ≤ R.slots) (hc : cells + 1 ≤ 1 ∧ slots + 6 ≤ 6) (hpx : px cls mem) :
    W p l e R s m args below meth c H locs cells slots (vx_MQ below Qc (XQ D sz n ad px) args s 1 6 (Az sz)) (F0 m pc ls rest) :=
  vx_throw0 B.1 B.2.1 hlt B.2.2.2.1 hcls xnm_fit (B.2.2.1 _ (tb_g hk rfl)) (B.2.2.1 _ (tb_g hini rfl)) (fun w hw => B.2.2.1 w (hat w hw).1)
    (fun w hw => by
      rcases List.mem_cons.mp hw with rfl | hw
      · rfl
      · rcases List.mem_cons.mp hw with rfl | hw
        · rfl
        · exact (hat w hw).2) E.2.2.1 E.2.2.2.1 hS (hsz.trans hml.symm) d0 d3 d4 d7 (fun x hx => (hno x hx).elim) hR.1 hR.2.1 hR.2.2.1 hR.2.2.2 hlocks
    (fun t hvm h1 h2 => ⟨mem, trivial, ⟨hpx, hP.kept (fun k q hq => h2 _ (hP k q hq).lt)⟩, Nat.le_trans hS.1 h1, fun q hq hz => by rw [h2 q (Nat.lt_of_lt_of_le hq hS.1)]; exact hS.2.1 q hq hz⟩) hS.2.2 hc.1 hc.2
/-- an exception goes on to the caller -/
theorem f_out {Qc : Array Value → State → Outcome → State → Prop} {px : String → (Nat → va_E) → Prop} {X : String} {ce : Cell} {q : Addr} (hlocks : meth.locks = false) (hno : ∀ x ∈ c.exceptionTable.toList, False) (hP : va_P D vcl (fw n ad mem) H) (hS : va_S (Az sz) s.heap H locs) (hcell : H[q]? = some ce) (hv : ce.vm = .none) (hcl : s.vm.findClass X = some ce.cls) (hc : cells ≤ 1 ∧ slots ≤ 6) (hpx : px X mem) :
    vx_W p l e R s m args below meth c H locs cells slots (vx_MQ below Qc (XQ D sz n ad px) args s 1 6 (Az sz)) (F0 m pc ls rest) q :=
  vx_out (fun x hx => (hno x hx).elim) hlocks hcell hv hcl (fun t ht _ => ⟨mem, trivial, ⟨hpx, by show va_P _ _ _ t.heap; rw [ht]; exact hP⟩, hS.F ht⟩) hS.2.2 hc.1 hc.2
theorem f_callVXi {post : Int32 → (Nat → va_E) → Prop} {px : String → (Nat → va_E) → Prop} (B : MB p s m args c cc own D cy) (hml : c.maxLocals = nL) (E : EV D cy sz s) (hP : va_P D vcl (fw n ad mem) H) (hD : va_D (Az sz) (fw n ad mem)) (hS : va_S (Az sz) s.heap H locs) (hj : j < n) (hm : mem j = .inr (ci, fs)) (hc : vcl[ci]? = some (C, T, N))
    (M : MXi l D cy sz n ad y bytes maxL ret rm mem (.ref (ad j) :: As) post px) (h1 : Cond.methodLink own index y ∈ lw_tbl) (h2 : Cond.instanceMethod y ∈ lw_tbl) (h3 : Cond.selects C y y ∈ lw_tbl) (h4 : Cond.initialized C ∈ lw_tbl) (h5 : Cond.code y bytes maxL ret ∈ lw_tbl)
    (hd : y.cls = C ∧ y.cls ≠ "java/lang/invoke/MethodHandle" ∧ y.cls ≠ "java/lang/invoke/VarHandle" ∧ (parseMethodDescriptor y.desc).map (fun d => d.parameters.length) = some na) (hrm : rm.cells = 1 ∧ rm.slots = 6) (hR : rm.frames + 1 ≤ R.frames ∧ 8 + (maxL + 11) + rm.locals ≤ R.locals) (hn : As.length = na) (hsz : ls.size = nL) (hw : (rest.map fun v => v.category).sum ≤ 8) (hdg : decode cc pc = .ok (.invokevirtual index, 3)) (hf : cells + 1 ≤ R.cells ∧ slots + 6 ≤ R.slots)
    (kx : ∀ (X : String) (ce : Cell) (q9 : Addr) (mem' : Nat → va_E) (H1 : Heap) (locs1 : List Loc), px X mem' → va_P D vcl (fw n ad mem') H1 → va_S (Az sz) s.heap H1 locs1 → H1[q9]? = some ce → ce.vm = .none → s.vm.findClass X = some ce.cls → vx_W p l e R s m args below meth c H1 locs1 (cells + 1) (slots + 6) Q (F0 m pc ls rest) q9)
    (kk : ∀ (r : Int32) (mem' : Nat → va_E) (H1 : Heap) (locs1 : List Loc), post r mem' → va_P D vcl (fw n ad mem') H1 → va_S (Az sz) s.heap H1 locs1 → W p l e R s m args below meth c H1 locs1 (cells + 1) (slots + 6) Q (F0 m (pc + 3) ls (.int r :: rest))) :
    W p l e R s m args below meth c H locs cells slots Q (F0 m pc ls (As.reverse ++ .ref (ad j) :: rest)) :=
  vx_calli (vx_runV (As := As) (rest := rest) ⟨B.1, B.2.1, hml, B.2.2.2.1, B.2.2.1⟩ M (cwV na B.2.2.1 (gdV h1 h2 h3 h4 h5) rfl hrm.1 hrm.2 hd hR) (f_preV B E hP hD hS hj hm hc) rfl hn hsz rfl (lv_room hw) hdg hf) hS (fun q _ h => h) (fun q h => h) (fun q _ h => h)
    (fun X ce q9 u t H1 locs1 ht _ _ hb _ _ hS1 g1 g2 g3 => kx X ce q9 u H1 locs1 hb.1 (by rw [← ht]; exact hb.2) hS1 g1 g2 g3)
    (fun r u t H1 locs1 ht _ hp hb _ _ hS1 => kk r u H1 locs1 hp (by rw [← ht]; exact hb) hS1)
theorem f_callVXv {post : (Nat → va_E) → Prop} {px : String → (Nat → va_E) → Prop} (B : MB p s m args c cc own D cy) (hml : c.maxLocals = nL) (E : EV D cy sz s) (hP : va_P D vcl (fw n ad mem) H) (hD : va_D (Az sz) (fw n ad mem)) (hS : va_S (Az sz) s.heap H locs) (hj : j < n) (hm : mem j = .inr (ci, fs)) (hc : vcl[ci]? = some (C, T, N))
    (M : MXv l D cy sz n ad y bytes maxL rm mem (.ref (ad j) :: As) post px) (h1 : Cond.methodLink own index y ∈ lw_tbl) (h2 : Cond.instanceMethod y ∈ lw_tbl) (h3 : Cond.selects C y y ∈ lw_tbl) (h4 : Cond.initialized C ∈ lw_tbl) (h5 : Cond.code y bytes maxL none ∈ lw_tbl)
    (hd : y.cls = C ∧ y.cls ≠ "java/lang/invoke/MethodHandle" ∧ y.cls ≠ "java/lang/invoke/VarHandle" ∧ (parseMethodDescriptor y.desc).map (fun d => d.parameters.length) = some na) (hrm : rm.cells = 1 ∧ rm.slots = 6) (hR : rm.frames + 1 ≤ R.frames ∧ 8 + (maxL + 11) + rm.locals ≤ R.locals) (hn : As.length = na) (hsz : ls.size = nL) (hw : (rest.map fun v => v.category).sum ≤ 8) (hdg : decode cc pc = .ok (.invokevirtual index, 3)) (hf : cells + 1 ≤ R.cells ∧ slots + 6 ≤ R.slots)
    (kx : ∀ (X : String) (ce : Cell) (q9 : Addr) (mem' : Nat → va_E) (H1 : Heap) (locs1 : List Loc), px X mem' → va_P D vcl (fw n ad mem') H1 → va_S (Az sz) s.heap H1 locs1 → H1[q9]? = some ce → ce.vm = .none → s.vm.findClass X = some ce.cls → vx_W p l e R s m args below meth c H1 locs1 (cells + 1) (slots + 6) Q (F0 m pc ls rest) q9)
    (kk : ∀ (mem' : Nat → va_E) (H1 : Heap) (locs1 : List Loc), post mem' → va_P D vcl (fw n ad mem') H1 → va_S (Az sz) s.heap H1 locs1 → W p l e R s m args below meth c H1 locs1 (cells + 1) (slots + 6) Q (F0 m (pc + 3) ls rest)) :
    W p l e R s m args below meth c H locs cells slots Q (F0 m pc ls (As.reverse ++ .ref (ad j) :: rest)) :=
  vx_callv (vx_runV (As := As) (rest := rest) ⟨B.1, B.2.1, hml, B.2.2.2.1, B.2.2.1⟩ M (cwV na B.2.2.1 (gdV h1 h2 h3 h4 h5) rfl hrm.1 hrm.2 hd hR) (f_preV B E hP hD hS hj hm hc) rfl hn hsz rfl (lv_room hw) hdg hf) hS (fun q _ h => h) (fun q h => h) (fun q _ h => h)
    (fun X ce q9 u t H1 locs1 ht _ _ hb _ _ hS1 g1 g2 g3 => kx X ce q9 u H1 locs1 hb.1 (by rw [← ht]; exact hb.2) hS1 g1 g2 g3)
    (fun u t H1 locs1 ht _ hp hb _ _ hS1 => kk u H1 locs1 hp (by rw [← ht]; exact hb) hS1)
end TW
