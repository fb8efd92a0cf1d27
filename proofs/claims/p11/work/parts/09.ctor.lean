/-! making cells: addresses one behind the other from base on -/
def adB (base : Nat) : Nat → Nat := fun k => base + k
theorem adB_up {base n : Nat} : va_up (adB base) n (base + n) = adB base := by
  funext i
  unfold va_up adB
  split
  · subst_vars; rfl
  · rfl
theorem fwB_push {base n : Nat} {mem : Nat → va_E} {e : va_E} : fw n (adB base) mem ++ [(base + n, e)] = fw (n + 1) (adB base) (va_up mem n e) := by rw [fw_push, adB_up]
theorem adB_D {base n sz : Nat} {mem : Nat → va_E} (h : sz ≤ base) : va_D (Az sz) (fw n (adB base) mem) := by
  refine ⟨fun i j x y hx hy hxy => ?_, fun k q hk => ?_⟩
  · obtain ⟨-, rfl⟩ := fw_get hx
    obtain ⟨-, rfl⟩ := fw_get hy
    have : base + i = base + j := hxy
    omega
  · obtain ⟨-, rfl⟩ := fw_get hk
    show sz ≤ base + k
    omega
abbrev PC (D : va_G) (cy : Nat → ClassId) (sz base n : Nat) (mem : Nat → va_E) (U : State) : Prop := PR D cy sz n (adB base) mem U ∧ U.heap.size = base + n
/-- a constructor: n cells before, n' behind -/
abbrev MC (l : Launch) (D : va_G) (cy : Nat → ClassId) (sz base n n' : Nat) (y : MethodName) (bytes : ByteArray) (maxL : Nat) (rm : Room) (mem : Nat → va_E) (av : List Value) (post : (Nat → va_E) → Prop) (mc ms : Nat) : Prop :=
  Met l y (.code y bytes maxL none :: tg) rm (va_Pc av (PC D cy sz base n mem)) (va_Qv post (fun u t => va_P D vcl (fw n' (adB base) u) t.heap ∧ t.heap.size = base + n') (Az sz)) mc ms (Az sz)
section CW
variable {p : Program} {l : Launch} {e : Env} {R : Room} {s : State} {m : MethodId} {args : Array Value} {below : List Frame} {meth : Method} {c : Code} {H : Heap} {locs : List Loc} {cells slots : Nat} {Q : State → Prop}
variable {cc : ByteArray} {pc nL : Nat} {ls : Array Slot} {rest : List Value} {D : va_G} {cy : Nat → ClassId} {own C host : String} {T : u_T} {N ci index sz n n' base j maxL na : Nat} {mem : Nat → va_E} {fs As : List Value} {y : MethodName} {bytes : ByteArray} {rm : Room} {H0 : Heap}
theorem c_grow {H1 : Heap} {e1 : va_E} (hP : va_P D vcl (fw n (adB base) mem) H) (hz : H.size = base + n) (o1 : ∀ q, q < base + n → H1[q]? = H[q]?) (he : va_at D vcl (base + n, e1) H1) : va_P D vcl (fw (n + 1) (adB base) (va_up mem n e1)) H1 := by
  rw [← fwB_push]
  refine (hP.kept (fun k x hx => o1 x.1 (by rw [← hz]; exact (hP k x hx).lt))).app (fun k x hx => ?_)
  have hk : k < 1 := (List.getElem?_eq_some_iff.mp hx).1
  rw [show k = 0 by omega] at hx
  cases hx
  exact he
theorem c_S {H1 : Heap} (hS : va_S (Az sz) H0 H locs) (hz : H.size = base + n) (z1 : H1.size = base + n + 1) (o1 : ∀ q, q < base + n → H1[q]? = H[q]?) : va_S (Az sz) H0 H1 locs :=
  ⟨Nat.le_trans hS.1 (by omega), fun x h1 h2 => (o1 x (Nat.lt_of_lt_of_le h1 (by rw [← hz]; exact hS.1))).trans (hS.2.1 x h1 h2), hS.2.2⟩
theorem f_new (B : MB p s m args c cc own D cy) (hP : va_P D vcl (fw n (adB base) mem) H) (hS : va_S (Az sz) H0 H locs) (hz : H.size = base + n) (hc : vcl[ci]? = some (C, T, N)) (hin : ∀ w ∈ u_ws C T N, w ∈ lw_tbl) (ty : Nat → FieldType) (hty : ∀ k, k < N → parseFieldDescriptor (T k).2.2.1 = some (ty k)) (hcl : Cond.classLink own index C ∈ lw_tbl) (hinst : Cond.instantiable C N ∈ lw_tbl) (hini : Cond.initialized C ∈ lw_tbl) (fs : List Value) (hfs : ∀ j, j < N → defaultValue (ty j) = vp_V fs j) (hcells : cells + 1 ≤ R.cells) (hslots : slots + N ≤ R.slots) (hdg : decode cc pc = .ok (.new index, 3))
    (kk : ∀ H1 : Heap, va_P D vcl (fw (n + 1) (adB base) (va_up mem n (.inr (ci, fs)))) H1 → va_S (Az sz) H0 H1 locs → H1.size = base + (n + 1) → W p l e R s m args below meth c H1 locs (cells + 1) (slots + N) Q (F0 m (pc + 3) ls (.ref ((adB base) (n)) :: rest))) : W p l e R s m args below meth c H locs cells slots Q (F0 m pc ls rest) := by
  have hKn := B.2.2.2.2.1 ci _ hc
  refine W.newcK B.1 B.2.1 B.2.2.2.1 (B.2.2.1 _ (tb_g hcl rfl)) (B.2.2.1 _ (tb_g hinst rfl)) (B.2.2.1 _ (tb_g hini rfl)) rfl hdg hcells hslots hKn.2.1 hz (fun H1 kC hkC e1 z1 o1 => ?_)
  exact kk H1 (c_grow hP hz o1 ⟨_, hc, (u_born ty B.2.2.1 (uw_tb hin) hKn hkC e1 hty).to hfs⟩) (c_S hS hz z1 o1) (by rw [z1]; omega)
theorem f_newa {atype : ArrayType} {t0 : Nat} {k : Int32} {N' : Nat} (B : MB p s m args c cc own D cy) (hP : va_P D vcl (fw n (adB base) mem) H) (hS : va_S (Az sz) H0 H locs) (hz : H.size = base + n) (harr : Cond.arrayClass (newarray.typeOf atype) ∈ lw_tbl) (hra : s.vm.findClass ("[" ++ (newarray.typeOf atype).toString) = some (cy t0)) (a0 : vp_A) (ha : ∀ cA : ClassId, vp_cell cA a0 = arrV cA N' (fun _ => defaultValue (newarray.typeOf atype))) (hn : ¬ k < 0) (hN : k.toNatClampNeg = N') (hb : N' * componentBytes (newarray.typeOf atype) ≤ 536870912) (hcells : cells + 1 ≤ R.cells) (hslots : slots + N' ≤ R.slots) (hdg : decode cc pc = .ok (.newarray atype, 2))
    (kk : ∀ H1 : Heap, va_P D vcl (fw (n + 1) (adB base) (va_up mem n (.inl (cy t0, a0)))) H1 → va_S (Az sz) H0 H1 locs → H1.size = base + (n + 1) → W p l e R s m args below meth c H1 locs (cells + 1) (slots + N') Q (F0 m (pc + 2) ls (.ref ((adB base) (n)) :: rest))) : W p l e R s m args below meth c H locs cells slots Q (F0 m pc ls (.int k :: rest)) := by
  refine va_newaK B.1 B.2.1 (B.2.2.1 _ (tb_g harr rfl)) rfl hdg rfl hn hN hb hcells hslots hz (fun H1 cA e1 z1 o1 _ hNm => ?_)
  have hcA : cA = cy t0 := Option.some.inj (hNm.symm.trans hra)
  subst hcA
  exact kk H1 (c_grow hP hz o1 (by show H1[base + n]? = some (vp_cell _ _); rw [ha]; exact e1)) (c_S hS hz z1 o1) (by rw [z1]; omega)
theorem f_anew {t0 : Nat} {k : Int32} {N' : Nat} (B : MB p s m args c cc own D cy) (hP : va_P D vcl (fw n (adB base) mem) H) (hS : va_S (Az sz) H0 H locs) (hz : H.size = base + n) (hcl : Cond.classLink own index C ∈ lw_tbl) (hov : Cond.arrayOver (.object C) ∈ lw_tbl) (ht : (ty6 cy)[t0]? = some (cy t0, .object C)) (hn : ¬ k < 0) (hN : k.toNatClampNeg = N') (hb : N' * 4 ≤ 536870912) (hcells : cells + 1 ≤ R.cells) (hslots : slots + N' ≤ R.slots) (hdg : decode cc pc = .ok (.anewarray index, 3))
    (kk : ∀ H1 : Heap, va_P D vcl (fw (n + 1) (adB base) (va_up mem n (.inl (cy t0, N', .inr (.inr (.inr (.inr (fun _ => none)))))))) H1 → va_S (Az sz) H0 H1 locs → H1.size = base + (n + 1) → W p l e R s m args below meth c H1 locs (cells + 1) (slots + N') Q (F0 m (pc + 3) ls (.ref ((adB base) (n)) :: rest))) : W p l e R s m args below meth c H locs cells slots Q (F0 m pc ls (.int k :: rest)) := by
  subst hN
  refine W.anew B.1 B.2.1 B.2.2.2.1 (B.2.2.1 _ (tb_g hcl rfl)) (B.2.2.1 _ (tb hov rfl)) rfl hdg rfl hn hb hcells hslots fun cA kA comp f1 f2 f3 f4 => ?_
  obtain ⟨kA', comp', -, -, -, h4⟩ := (B.2.2.2.2.2 t0 _ ht).2
  have hcA : cA = cy t0 := Option.some.inj (f1.symm.trans h4)
  subst hcA
  generalize hH1 : H.push ({ cls := cy t0, slots := Array.replicate k.toNatClampNeg .null, vm := .none } : Cell) = H1
  have z1 : H1.size = base + n + 1 := by rw [← hH1, Array.size_push, hz]
  have e1 : H1[base + n]? = some (arrV (cy t0) k.toNatClampNeg (fun _ => .null)) := by rw [← hH1, ← hz, Array.getElem?_push_size, ← arrV_new]
  have o1 : ∀ q : Nat, q < base + n → H1[q]? = H[q]? := fun q hq => by rw [← hH1, Array.getElem?_push, if_neg (by omega)]
  have hk := kk H1 (c_grow hP hz o1 (by show H1[base + n]? = some (vp_cell _ _); rw [vp_cell_q]; exact e1)) (c_S hS hz z1 o1) (by rw [z1]; omega)
  rw [show (adB base) n = H.size from hz.symm] at hk
  exact hk
theorem f_aast {j2 t0 ci2 N' : Nat} {f : Nat → Option Nat} {r : vw_C} {vs : List Value} {ad : Nat → Nat} (B : MB p s m args c cc own D cy) (hP : va_P D vcl (fw n ad mem) H) (hD : va_D (Az sz) (fw n ad mem)) (hS : va_S (Az sz) H0 H locs) (hj : j < n) (hm : mem j = .inl (cy t0, N', .inr (.inr (.inr (.inr f))))) (ht : (ty6 cy)[t0]? = some (cy t0, .object r.1)) (hj2 : j2 < n) (hm2 : mem j2 = .inr (ci2, vs)) (hc : vcl[ci2]? = some r) {i : Int32} (hi : vp_in i N') (hdg : decode cc pc = .ok (.aastore, 1))
    (kk : ∀ (H1 : Heap) (locs1 : List Loc), va_P D vcl (fw n ad (va_up mem j (.inl (cy t0, N', .inr (.inr (.inr (.inr (va_up f i.toNatClampNeg (some (ad j2)))))))))) H1 → va_S (Az sz) H0 H1 locs1 → W p l e R s m args below meth c H1 locs1 cells slots Q (F0 m (pc + 1) ls rest)) : W p l e R s m args below meth c H locs cells slots Q (F0 m pc ls (.ref (ad j2) :: .int i :: .ref (ad j) :: rest)) :=
  va_astq B.1 B.2.1 B.2.2.2.2 hP hD hS j t0 j2 ci2 (fw_atm hj hm) ht (fw_atm hj2 hm2) hc hi hdg (fun H1 locs1 hP1 _ hS1 => kk H1 locs1 (by rw [← fw_set hj]; exact hP1) hS1)
theorem c_size (hP : va_P D vcl (fw n (adB base) mem) H) (hs : s.heap.size + cells = base + n) (hn : 0 < n) {g : JFrame} (kk : H.size = base + n → W p l e R s m args below meth c H locs cells slots Q g) : W p l e R s m args below meth c H locs cells slots Q g := by
  intro T hT X
  have h1 : adB base (n - 1) < H.size := (hP (n - 1) _ (fw_at (by omega))).lt
  have h2 := X.heapSize
  rw [hT] at h2
  exact kk (by unfold adB at h1; omega) T hT X
theorem f_preC (E : EV D cy sz s) (hP : va_P D vcl (fw n (adB base) mem) H) (hS : va_S (Az sz) s.heap H locs) (hbz : sz ≤ base) (hz : H.size = base + n) : PreS s H (va_Pc As (PC D cy sz base n mem)) As :=
  ⟨fun a U g mk q => ⟨q.1, ⟨q.2.1.1.call, q.2.1.2.1, q.2.1.2.2⟩, q.2.2⟩, fun U hU hW => ⟨rfl, ⟨E.at hS hU hW, by rw [hU]; exact hP, adB_D hbz⟩, by rw [hU]; exact hz⟩⟩
theorem f_callI {post : (Nat → va_E) → Prop} {mc ms : Nat} (B : MB p s m args c cc own D cy) (hml : c.maxLocals = nL) (E : EV D cy sz s) (hP : va_P D vcl (fw n (adB base) mem) H) (hS : va_S (Az sz) s.heap H locs) (hbz : sz ≤ base) (hz : H.size = base + n)
    (M : MC l D cy sz base n n' y bytes maxL rm mem (.ref ((adB base) j) :: As) post mc ms) (h1 : Cond.methodLink own index y ∈ lw_tbl) (h2 : Cond.instanceMethod y ∈ lw_tbl) (h4 : Cond.initialized y.cls ∈ lw_tbl) (h5 : Cond.code y bytes maxL none ∈ lw_tbl) (hy1 : y.name = "<init>")
    (hd : y.cls ≠ "java/lang/invoke/MethodHandle" ∧ y.cls ≠ "java/lang/invoke/VarHandle" ∧ (parseMethodDescriptor y.desc).map (fun d => d.parameters.length) = some na) (hrm : rm.cells = mc ∧ rm.slots = ms) (hR : rm.frames + 1 ≤ R.frames ∧ 8 + (maxL + 11) + rm.locals ≤ R.locals) (hn : As.length = na) (hsz : ls.size = nL) (hw : (rest.map fun v => v.category).sum ≤ 8) (hdg : decode cc pc = .ok (.invokespecial index, 3)) (hf : cells + mc ≤ R.cells ∧ slots + ms ≤ R.slots)
    (kk : ∀ (mem' : Nat → va_E) (H1 : Heap) (locs1 : List Loc), post mem' → va_P D vcl (fw n' (adB base) mem') H1 → va_S (Az sz) s.heap H1 locs1 → H1.size = base + n' → W p l e R s m args below meth c H1 locs1 (cells + mc) (slots + ms) Q (F0 m (pc + 3) ls rest)) :
    W p l e R s m args below meth c H locs cells slots Q (F0 m pc ls (As.reverse ++ .ref ((adB base) j) :: rest)) :=
  va_callv (va_runI (As := As) (rest := rest) ⟨B.1, B.2.1, hml, B.2.2.2.1, B.2.2.1⟩ M (cwI na B.2.2.1 (gdC h5 rfl) rfl hrm.1 hrm.2 (B.2.2.1 _ (tb_g h4 rfl)) (B.2.2.1 _ (tb_g h1 rfl)) (B.2.2.1 _ (tb_g h2 rfl)) hy1 hd hR) (f_preC E hP hS hbz hz) rfl hn hsz rfl (lv_room hw) hdg hf) hS (fun q _ h => h) (fun q h => h)
    (fun u t H1 locs1 ht _ hp hb _ _ hS1 => kk u H1 locs1 hp (by rw [← ht]; exact hb.1) hS1 (by rw [← ht]; exact hb.2))
theorem f_callIN {post : (Nat → va_E) → Prop} {mc ms : Nat} (B : MB p s m args c cc own D cy) (hml : c.maxLocals = nL) (E : EV D cy sz s) (hP : va_P D vcl (fw n (adB base) mem) H) (hS : va_S (Az sz) s.heap H locs) (hbz : sz ≤ base) (hz : H.size = base + n)
    (M : MC l D cy sz base n n' y bytes maxL rm mem (.ref ((adB base) j) :: As) post mc ms) (h1 : Cond.methodLinkNest own index y host ∈ lw_tbl) (h2 : Cond.instanceMethod y ∈ lw_tbl) (h4 : Cond.initialized y.cls ∈ lw_tbl) (h5 : Cond.code y bytes maxL none ∈ lw_tbl) (hy1 : y.name = "<init>")
    (hd : y.cls ≠ "java/lang/invoke/MethodHandle" ∧ y.cls ≠ "java/lang/invoke/VarHandle" ∧ (parseMethodDescriptor y.desc).map (fun d => d.parameters.length) = some na) (hrm : rm.cells = mc ∧ rm.slots = ms) (hR : rm.frames + 1 ≤ R.frames ∧ 8 + (maxL + 11) + rm.locals ≤ R.locals) (hn : As.length = na) (hsz : ls.size = nL) (hw : (rest.map fun v => v.category).sum ≤ 8) (hdg : decode cc pc = .ok (.invokespecial index, 3)) (hf : cells + mc ≤ R.cells ∧ slots + ms ≤ R.slots)
    (kk : ∀ (mem' : Nat → va_E) (H1 : Heap) (locs1 : List Loc), post mem' → va_P D vcl (fw n' (adB base) mem') H1 → va_S (Az sz) s.heap H1 locs1 → H1.size = base + n' → W p l e R s m args below meth c H1 locs1 (cells + mc) (slots + ms) Q (F0 m (pc + 3) ls rest)) :
    W p l e R s m args below meth c H locs cells slots Q (F0 m pc ls (As.reverse ++ .ref ((adB base) j) :: rest)) :=
  va_callv (va_runIN (As := As) (rest := rest) ⟨B.1, B.2.1, hml, B.2.2.2.1, B.2.2.1⟩ M ⟨va_cnB na B.2.2.1 (gdC h5 rfl) rfl hrm.1 hrm.2 (va_Nw.of rfl (B.2.2.1 _ (tb h1 rfl))) (B.2.2.1 _ (tb_g h4 rfl)) hd hR, hy1, B.2.2.1 _ (tb_g h2 rfl)⟩ (f_preC E hP hS hbz hz) rfl hn hsz rfl (lv_room hw) hdg hf) hS (fun q _ h => h) (fun q h => h)
    (fun u t H1 locs1 ht _ hp hb _ _ hS1 => kk u H1 locs1 hp (by rw [← ht]; exact hb.1) hS1 (by rw [← ht]; exact hb.2))
end CW
