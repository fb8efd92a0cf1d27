/-! methods with handlers: the law's own calls of the class -/
section CT
variable {p : Program} {l : Launch} {e : Env} {R : Room} {s : State} {m : MethodId} {args : Array Value} {below : List Frame} {meth : Method} {c : Code} {H : Heap} {locs : List Loc} {cells slots : Nat} {Q : State → Prop}
variable {cc : ByteArray} {pc nL : Nat} {ls : Array Slot} {rest As : List Value} {D : va_G} {cy : Nat → ClassId} {own : String} {index sz n maxL na : Nat} {ad : Nat → Nat} {mem : Nat → va_E} {y : MethodName} {bytes : ByteArray} {ret : Option FieldType} {rm : Room} {hh : List (Nat × Nat × Nat × Nat)}
abbrev ML (l : Launch) (D : va_G) (cy : Nat → ClassId) (sz n : Nat) (ad : Nat → Nat) (y : MethodName) (bytes : ByteArray) (maxL : Nat) (ret : Option FieldType) (hh : List (Nat × Nat × Nat × Nat)) (rm : Room) (mem : Nat → va_E) (av : List Value) (post : Int32 → (Nat → va_E) → Prop) : Prop :=
  Met l y (.codeWith y bytes maxL ret hh :: tg) rm (va_Pc av (PR D cy sz n ad mem)) (va_Qi post (PP D n ad) (Az sz)) 1 6 (Az sz)
/-- the first row of the table takes it -/
theorem f_catch1 {X : String} {ce : Cell} {q : Addr} {en : Nat × Nat × Nat × Nat} {suf : List (Nat × Nat × Nat × Nat)} (B : MB p s m args c cc own D cy) (hT : c.exceptionTable.toList = tableOf (en :: suf)) (hx : en.1 ≤ pc ∧ pc < en.2.1) (h0 : en.2.2.2 ≠ 0) (hl : Cond.classLink own en.2.2.2 X ∈ lw_tbl) (hc : Cond.castable X X ∈ lw_tbl) (hcell : H[q]? = some ce) (hv : ce.vm = .none) (hcl : s.vm.findClass X = some ce.cls)
    (kk : W p l e R s m args below meth c H locs cells slots Q (F0 m en.2.2.1 ls [.ref q])) : vx_W p l e R s m args below meth c H locs cells slots Q (F0 m pc ls rest) q :=
  vx_catch (own := own) (name := X) (E := X) B.2.2.2.1 [] ⟨en.1, en.2.1, en.2.2.1, en.2.2.2⟩ (tableOf suf) hT (fun z hz => by cases hz) (by simp [covers, hx.1, hx.2]) h0 (B.2.2.1 _ (tb_g hl rfl)) (B.2.2.1 _ (tb hc rfl)) hcell hv hcl kk
/-- the second does -/
theorem f_catch2 {X Y : String} {ce : Cell} {q : Addr} {e0 en : Nat × Nat × Nat × Nat} {suf : List (Nat × Nat × Nat × Nat)} (B : MB p s m args c cc own D cy) (hT : c.exceptionTable.toList = tableOf (e0 :: en :: suf)) (hx : en.1 ≤ pc ∧ pc < en.2.1) (h0 : en.2.2.2 ≠ 0) (hl : Cond.classLink own en.2.2.2 X ∈ lw_tbl) (hc : Cond.castable X X ∈ lw_tbl) (h00 : e0.2.2.2 ≠ 0) (hl0 : Cond.classLink own e0.2.2.2 Y ∈ lw_tbl) (hnc : va_Nc X Y s) (hcell : H[q]? = some ce) (hv : ce.vm = .none) (hcl : s.vm.findClass X = some ce.cls)
    (kk : W p l e R s m args below meth c H locs cells slots Q (F0 m en.2.2.1 ls [.ref q])) : vx_W p l e R s m args below meth c H locs cells slots Q (F0 m pc ls rest) q :=
  vx_catch (own := own) (name := X) (E := X) B.2.2.2.1 [⟨e0.1, e0.2.1, e0.2.2.1, e0.2.2.2⟩] ⟨en.1, en.2.1, en.2.2.1, en.2.2.2⟩ (tableOf suf) hT (fun z hz => by
    obtain rfl := List.mem_singleton.mp hz
    exact Or.inr ⟨h00, Y, B.2.2.1 _ (tb_g hl0 rfl), hnc⟩) (by simp [covers, hx.1, hx.2]) h0 (B.2.2.1 _ (tb_g hl rfl)) (B.2.2.1 _ (tb hc rfl)) hcell hv hcl kk
theorem gdSW {idx k : Nat} {r : Option FieldType} (h1 : Cond.methodLink own idx y ∈ lw_tbl) (h2 : Cond.static y ∈ lw_tbl) (h4 : Cond.initialized y.cls ∈ lw_tbl) (h5 : Cond.codeWith y bytes k r hh ∈ lw_tbl) : GoodIn TB (va_wsS own idx y (.codeWith y bytes k r hh :: tg)) := by
  intro w h
  unfold va_wsS at h
  rcases List.mem_append.mp h with h | h
  · simp only [List.mem_cons, List.not_mem_nil, or_false] at h
    rcases h with rfl | rfl | rfl
    · exact ⟨tb_g h1 rfl, good_of_word rfl⟩
    · exact ⟨tb_g h2 rfl, good_of_word rfl⟩
    · exact ⟨tb_g h4 rfl, good_of_word rfl⟩
  · exact gdC h5 rfl w h
theorem f_callL {post : Int32 → (Nat → va_E) → Prop} (B : MB p s m args c cc own D cy) (hml : c.maxLocals = nL) (E : EV D cy sz s) (hP : va_P D vcl (fw n ad mem) H) (hD : va_D (Az sz) (fw n ad mem)) (hS : va_S (Az sz) s.heap H locs)
    (M : ML l D cy sz n ad y bytes maxL ret hh rm mem As post) (h1 : Cond.methodLink own index y ∈ lw_tbl) (h2 : Cond.static y ∈ lw_tbl) (h4 : Cond.initialized y.cls ∈ lw_tbl) (h5 : Cond.codeWith y bytes maxL ret hh ∈ lw_tbl)
    (hd : y.cls ≠ "java/lang/invoke/MethodHandle" ∧ y.cls ≠ "java/lang/invoke/VarHandle" ∧ (parseMethodDescriptor y.desc).map (fun d => d.parameters.length) = some na) (hrm : rm.cells = 1 ∧ rm.slots = 6) (hR : rm.frames + 1 ≤ R.frames ∧ 8 + (maxL + 11) + rm.locals ≤ R.locals) (hn : As.length = na) (hsz : ls.size = nL) (hw : (rest.map fun v => v.category).sum ≤ 8) (hdg : decode cc pc = .ok (.invokestatic index, 3)) (hf : cells + 1 ≤ R.cells ∧ slots + 6 ≤ R.slots)
    (kk : ∀ (r : Int32) (mem' : Nat → va_E) (H1 : Heap) (locs1 : List Loc), post r mem' → va_P D vcl (fw n ad mem') H1 → va_S (Az sz) s.heap H1 locs1 → W p l e R s m args below meth c H1 locs1 (cells + 1) (slots + 6) Q (F0 m (pc + 3) ls (.int r :: rest))) :
    W p l e R s m args below meth c H locs cells slots Q (F0 m pc ls (As.reverse ++ rest)) :=
  va_calli (vx_runSW (As := As) (rest := rest) ⟨B.1, B.2.1, hml, B.2.2.2.1, B.2.2.1⟩ M (vx_cwSW na B.2.2.1 (gdSW h1 h2 h4 h5) rfl hrm.1 hrm.2 hd hR) (f_preS E hP hD hS) rfl hn hsz rfl (lv_room hw) hdg hf) hS (fun q _ h => h) (fun q h => h)
    (fun r u t H1 locs1 ht _ hp hb _ _ hS1 => kk r u H1 locs1 hp (by rw [← ht]; exact hb) hS1)
end CT
