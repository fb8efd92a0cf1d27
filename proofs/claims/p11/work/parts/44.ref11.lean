set_option maxHeartbeats 4000000 in
set_option maxRecDepth 100000 in
theorem m_Mo_fits (l : Launch) {D : va_G} {cy : Nat → ClassId} {sz n : Nat} {ad : Nat → Nat} {mem : Nat → va_E} {J : Nat → Int32} {A : Nat → Nat → Int32} {nm : Nat → Int64} {m0 : Nat → va_E} {G R Ec u p9 i9 : Nat} (hn : 242 ≤ n) (hM : MW cy ad J A nm m0 mem) (h24 : J 24 = nI G) (hGb : G ≤ 24) (hEb : Ec ≤ 100) (hRb : R ≤ 12) (hub : u ≤ 240) (hGd : Gd R Ec u A) (hp9 : p9 < Ec) (hi9 : i9 ≤ G) : MI l D cy sz n ad y_Mo_fits c_Mo_fits 5 (some .int) ({ frames := 3, cells := 0, slots := 0, locals := 90 } : Room) mem [.ref (ad 224), .int (nI p9), .int (nI i9)] (fun r mem' => r = fitF A G p9 i9 (A 241) ∧ mem' = mem) := by
  refine Met.ofW (cc := c_Mo_fits) (maxL := 5) (ret := (some .int)) (by decide) rfl ?_
  intro p e s m args below meth c s₁ B hml hv
  obtain ⟨rfl, E, hP, hD⟩ := hv
  have hx := B.exec
  have hb := B.bytes
  have hr := B.returns
  have hlocks := B.notSynchronized
  have Bx : MB p s m [.ref (ad 224), .int (nI p9), .int (nI i9)].toArray c c_Mo_fits "AbnfChartModel" D cy := ⟨hx, hb, tb_all (atoms_spec B.pre) E.2.1, findClass_of_methodNamed B.named, E.1⟩
  have hS : va_S (Az sz) s.heap s.heap [] := va_S.rf
  have hl := lv_entry ([.ref (ad 224), .int (nI p9), .int (nI i9)]) (n := 5) (Nat.le_of_ble_eq_true rfl)
  rw [lg_entry_eq]
  generalize (lg_sl ([.ref (ad 224), .int (nI p9), .int (nI i9)]) ++ List.replicate (5 - (lg_sl ([.ref (ad 224), .int (nI p9), .int (nI i9)])).length) Slot.unset).toArray = ls at hl ⊢
  have hl : lv_has ls 5 [(0, .ref (ad 224)), (1, .int (nI p9)), (2, .int (nI i9))] := hl
  have hkd := hGd.2.2.1 p9 hp9
  have hlk := hGd.1 p9 hp9
  have hfu := hGd.2.2.2 p9 hp9
  refine lv_aload_n Bx.1 Bx.2.1 d_Mo_fits_0 rfl (lv_at hl 0 rfl) ?_
  refine f_get Bx hP (by omega) hM.1 rfl inMo 8 (by decide) kw_664 rfl rfl d_Mo_fits_1 ?_
  refine lv_iload_n Bx.1 Bx.2.1 d_Mo_fits_4 rfl (lv_at hl 1 rfl) ?_
  refine f_iald Bx hP (by omega) (show mem 228 = .inl (cy 1, 100, .inl (A 228)) from hM.2.2.1 228 (by decide) (by decide) (by decide)) (vp_in_nI (n := p9) (by omega) (by decide)) d_Mo_fits_5 ?_
  rw [nI_clamp (n := p9) (by omega)]
  refine lv_iconst (v := 5) Bx.1 Bx.2.1 d_Mo_fits_6 (by decide) ?_
  refine lv_icmp_ne Bx.1 Bx.2.1 d_Mo_fits_7 rfl (fun hb1 => ?_) (fun hb1 => ?_)
  · refine lv_aload_n Bx.1 Bx.2.1 d_Mo_fits_50 rfl (lv_at hl 0 rfl) ?_
    refine f_get Bx hP (by omega) hM.1 rfl inMo 8 (by decide) kw_664 rfl rfl d_Mo_fits_51 ?_
    refine lv_iload_n Bx.1 Bx.2.1 d_Mo_fits_54 rfl (lv_at hl 1 rfl) ?_
    refine f_iald Bx hP (by omega) (show mem 228 = .inl (cy 1, 100, .inl (A 228)) from hM.2.2.1 228 (by decide) (by decide) (by decide)) (vp_in_nI (n := p9) (by omega) (by decide)) d_Mo_fits_55 ?_
    rw [nI_clamp (n := p9) (by omega)]
    refine lv_iconst (v := 4) Bx.1 Bx.2.1 d_Mo_fits_56 (by decide) ?_
    refine lv_icmp_ne Bx.1 Bx.2.1 d_Mo_fits_57 rfl (fun hb2 => ?_) (fun hb2 => ?_)
    · refine lv_aload_n Bx.1 Bx.2.1 d_Mo_fits_158 rfl (lv_at hl 0 rfl) ?_
      refine f_get Bx hP (by omega) hM.1 rfl inMo 8 (by decide) kw_664 rfl rfl d_Mo_fits_159 ?_
      refine lv_iload_n Bx.1 Bx.2.1 d_Mo_fits_162 rfl (lv_at hl 1 rfl) ?_
      refine f_iald Bx hP (by omega) (show mem 228 = .inl (cy 1, 100, .inl (A 228)) from hM.2.2.1 228 (by decide) (by decide) (by decide)) (vp_in_nI (n := p9) (by omega) (by decide)) d_Mo_fits_163 ?_
      rw [nI_clamp (n := p9) (by omega)]
      refine lv_bipush (v := 6) Bx.1 Bx.2.1 d_Mo_fits_164 (by decide) ?_
      refine lv_icmp_ne Bx.1 Bx.2.1 d_Mo_fits_166 rfl (fun hb3 => ?_) (fun hb3 => ?_)
      · refine lv_aload_n Bx.1 Bx.2.1 d_Mo_fits_209 rfl (lv_at hl 0 rfl) ?_
        refine f_get Bx hP (by omega) hM.1 rfl inMo 8 (by decide) kw_664 rfl rfl d_Mo_fits_210 ?_
        refine lv_iload_n Bx.1 Bx.2.1 d_Mo_fits_213 rfl (lv_at hl 1 rfl) ?_
        refine f_iald Bx hP (by omega) (show mem 228 = .inl (cy 1, 100, .inl (A 228)) from hM.2.2.1 228 (by decide) (by decide) (by decide)) (vp_in_nI (n := p9) (by omega) (by decide)) d_Mo_fits_214 ?_
        rw [nI_clamp (n := p9) (by omega)]
        refine lv_iconst (v := 2) Bx.1 Bx.2.1 d_Mo_fits_215 (by decide) ?_
        refine lv_icmp_ne Bx.1 Bx.2.1 d_Mo_fits_216 rfl (fun hb4 => ?_) (fun hb4 => ?_)
        · refine lv_aload_n Bx.1 Bx.2.1 d_Mo_fits_226 rfl (lv_at hl 0 rfl) ?_
          refine f_get Bx hP (by omega) hM.1 rfl inMo 8 (by decide) kw_664 rfl rfl d_Mo_fits_227 ?_
          refine lv_iload_n Bx.1 Bx.2.1 d_Mo_fits_230 rfl (lv_at hl 1 rfl) ?_
          refine f_iald Bx hP (by omega) (show mem 228 = .inl (cy 1, 100, .inl (A 228)) from hM.2.2.1 228 (by decide) (by decide) (by decide)) (vp_in_nI (n := p9) (by omega) (by decide)) d_Mo_fits_231 ?_
          rw [nI_clamp (n := p9) (by omega)]
          refine lv_iconst (v := 3) Bx.1 Bx.2.1 d_Mo_fits_232 (by decide) ?_
          refine lv_icmp_ne Bx.1 Bx.2.1 d_Mo_fits_233 rfl (fun hb5 => ?_) (fun hb5 => ?_)
          · refine lv_aload_n Bx.1 Bx.2.1 d_Mo_fits_257 rfl (lv_at hl 0 rfl) ?_
            refine f_get Bx hP (by omega) hM.1 rfl inMo 8 (by decide) kw_664 rfl rfl d_Mo_fits_258 ?_
            refine lv_iload_n Bx.1 Bx.2.1 d_Mo_fits_261 rfl (lv_at hl 1 rfl) ?_
            refine f_iald Bx hP (by omega) (show mem 228 = .inl (cy 1, 100, .inl (A 228)) from hM.2.2.1 228 (by decide) (by decide) (by decide)) (vp_in_nI (n := p9) (by omega) (by decide)) d_Mo_fits_262 ?_
            rw [nI_clamp (n := p9) (by omega)]
            refine lv_iconst (v := 1) Bx.1 Bx.2.1 d_Mo_fits_263 (by decide) ?_
            refine lv_icmp_ne Bx.1 Bx.2.1 d_Mo_fits_264 rfl (fun hb6 => ?_) (fun hb6 => ?_)
            · have hst : chF (A 241) G i9 (A 228 p9) (chL (A 233) 100 (A 232 p9)) (0) = fitF A G p9 i9 (A 241) := by unfold fitF; rw [if_neg hb1, if_neg hb2, if_neg hb3, if_neg hb4, if_neg hb5, if_neg hb6]
              refine lv_iconst (v := 0) Bx.1 Bx.2.1 d_Mo_fits_273 (by decide) ?_
              refine lv_istore_n (lv' := [(3, .int (0)), (0, .ref (ad 224)), (1, .int (nI p9)), (2, .int (nI i9))]) Bx.1 Bx.2.1 d_Mo_fits_274 rfl hl (by decide) rfl (fun ls hl => ?_)
              refine lv_aload_n Bx.1 Bx.2.1 d_Mo_fits_275 rfl (lv_at hl 1 rfl) ?_
              refine f_get Bx hP (by omega) hM.1 rfl inMo 12 (by decide) kw_668 rfl rfl d_Mo_fits_276 ?_
              refine lv_iload_n Bx.1 Bx.2.1 d_Mo_fits_279 rfl (lv_at hl 2 rfl) ?_
              refine f_iald Bx hP (by omega) (show mem 232 = .inl (cy 1, 100, .inl (A 232)) from hM.2.2.1 232 (by decide) (by decide) (by decide)) (vp_in_nI (n := p9) (by omega) (by decide)) d_Mo_fits_280 ?_
              rw [nI_clamp (n := p9) (by omega)]
              refine lv_istore (lv' := [(4, .int (A 232 (p9))), (3, .int (0)), (0, .ref (ad 224)), (1, .int (nI p9)), (2, .int (nI i9))]) Bx.1 Bx.2.1 d_Mo_fits_281 hl (by decide) rfl (fun ls hl => ?_)
              have loop7 : ∀ (d8 : Nat) (m9 : Nat) (va : Int32) (x9 : Int32) (ls : Array Slot) (H : Heap) (locs : List Loc), (m9 < d8) → (va = -1 ∨ ∃ j, va = nI j ∧ j < Ec ∧ 100 ≤ m9 + j) → (chF (A 241) G i9 (A 228 p9) (chL (A 233) m9 va) x9 = fitF A G p9 i9 (A 241)) → (va_P D vcl (fw n ad mem) H) → (va_D (Az sz) (fw n ad mem)) → (va_S (Az sz) s.heap H locs) → (lv_has ls 5 [(4, .int (va)), (3, .int (x9)), (0, .ref (ad 224)), (1, .int (nI p9)), (2, .int (nI i9))]) → W p l e (headSpec (Cond.code y_Mo_fits c_Mo_fits 5 (some .int) :: tg) ({ frames := 3, cells := 0, slots := 0, locals := 90 } : Room)).room s m [.ref (ad 224), .int (nI p9), .int (nI i9)].toArray below meth c H locs 0 0 (MQ below (va_Qi (fun r mem' => r = fitF A G p9 i9 (A 241) ∧ mem' = mem) (PP D n ad) (Az sz)) [.ref (ad 224), .int (nI p9), .int (nI i9)].toArray s 0 0 (Az sz)) (F0 m 283 ls []) := by
                intro d8
                induction d8 with
                | zero => intro m9 va x9 ls H locs hmeas12; exact absurd hmeas12 (Nat.not_lt_zero _)
                | succ d8 ih11 =>
                  intro m9 va x9 ls H locs hmeas12 hz9 hz10 hP hD hS hl
                  rcases hz9 with hv | ⟨j, hv, hj, hm⟩
                  · subst hv
                    rw [chL_neg] at hz10
                    refine lv_iload Bx.1 Bx.2.1 d_Mo_fits_283 (lv_at hl 0 rfl) ?_
                    refine lv_if_lt Bx.1 Bx.2.1 d_Mo_fits_285 rfl (fun hb13 => ?_) (fun hb13 => ?_)
                    · refine lv_iload_n Bx.1 Bx.2.1 d_Mo_fits_335 rfl (lv_at hl 1 rfl) ?_
                      exact W.iret (v := x9) hx hb hr (fun t ht hW => ⟨⟨x9, mem, rfl, ⟨hz10, rfl⟩, by show va_P _ _ _ t.heap; rw [ht]; exact hP⟩, hS.F ht⟩) hS.2.2 d_Mo_fits_336
                    · exact absurd hb13 (by decide)
                  · subst hv
                    obtain ⟨mm, rfl⟩ : ∃ mm, m9 = mm + 1 := ⟨m9 - 1, by omega⟩
                    rw [chL_pos (by omega)] at hz10
                    have hnx := (hGd.1 j hj).2
                    refine lv_iload Bx.1 Bx.2.1 d_Mo_fits_283 (lv_at hl 0 rfl) ?_
                    refine lv_if_lt Bx.1 Bx.2.1 d_Mo_fits_285 rfl (fun hb14 => ?_) (fun hb14 => ?_)
                    · exact absurd hb14 (by first | exact nI_pos (by omega) | exact fun q9 => q9 (nI_pos' (by omega)))
                    · refine lv_aload_n Bx.1 Bx.2.1 d_Mo_fits_288 rfl (lv_at hl 2 rfl) ?_
                      refine f_get Bx hP (by omega) hM.1 rfl inMo 8 (by decide) kw_664 rfl rfl d_Mo_fits_289 ?_
                      refine lv_iload_n Bx.1 Bx.2.1 d_Mo_fits_292 rfl (lv_at hl 3 rfl) ?_
                      refine f_iald Bx hP (by omega) (show mem 228 = .inl (cy 1, 100, .inl (A 228)) from hM.2.2.1 228 (by decide) (by decide) (by decide)) (vp_in_nI (n := p9) (by omega) (by decide)) d_Mo_fits_293 ?_
                      rw [nI_clamp (n := p9) (by omega)]
                      refine lv_iconst (v := 1) Bx.1 Bx.2.1 d_Mo_fits_294 (by decide) ?_
                      refine lv_icmp_ne Bx.1 Bx.2.1 d_Mo_fits_295 rfl (fun hb15 => ?_) (fun hb15 => ?_)
                      · refine lv_iload_n Bx.1 Bx.2.1 d_Mo_fits_308 rfl (lv_at hl 1 rfl) ?_
                        refine lv_aload_n Bx.1 Bx.2.1 d_Mo_fits_309 rfl (lv_at hl 2 rfl) ?_
                        refine f_get Bx hP (by omega) hM.1 rfl inMo 27 (by decide) kw_683 rfl rfl d_Mo_fits_310 ?_
                        refine lv_bipush (v := 25) Bx.1 Bx.2.1 d_Mo_fits_313 (by decide) ?_
                        refine lv_iload Bx.1 Bx.2.1 d_Mo_fits_315 (lv_at hl 0 rfl) ?_
                        refine lv_imul Bx.1 Bx.2.1 d_Mo_fits_317 ?_
                        rw [show 25 * nI j = nI (25 * j) from nI_mulR (25) (j)]
                        refine lv_iload_n Bx.1 Bx.2.1 d_Mo_fits_318 rfl (lv_at hl 4 rfl) ?_
                        refine lv_iadd Bx.1 Bx.2.1 d_Mo_fits_319 ?_
                        rw [show nI (25 * j) + nI i9 = nI (25 * j + i9) from nI_add (25 * j) (i9)]
                        refine f_iald Bx hP (by omega) (show mem 241 = .inl (cy 1, 2500, .inl (A 241)) from hM.2.2.1 241 (by decide) (by decide) (by decide)) (vp_in_nI (n := 25 * j + i9) (by omega) (by decide)) d_Mo_fits_320 ?_
                        rw [nI_clamp (n := 25 * j + i9) (by omega)]
                        refine lv_ior Bx.1 Bx.2.1 d_Mo_fits_321 ?_
                        refine lv_istore_n (lv' := [(3, .int (x9 ||| A 241 (25 * j + i9))), (4, .int (nI j)), (0, .ref (ad 224)), (1, .int (nI p9)), (2, .int (nI i9))]) Bx.1 Bx.2.1 d_Mo_fits_322 rfl hl (by decide) rfl (fun ls hl => ?_)
                        refine lv_aload_n Bx.1 Bx.2.1 d_Mo_fits_323 rfl (lv_at hl 2 rfl) ?_
                        refine f_get Bx hP (by omega) hM.1 rfl inMo 13 (by decide) kw_669 rfl rfl d_Mo_fits_324 ?_
                        refine lv_iload Bx.1 Bx.2.1 d_Mo_fits_327 (lv_at hl 1 rfl) ?_
                        refine f_iald Bx hP (by omega) (show mem 233 = .inl (cy 1, 100, .inl (A 233)) from hM.2.2.1 233 (by decide) (by decide) (by decide)) (vp_in_nI (n := j) (by omega) (by decide)) d_Mo_fits_329 ?_
                        rw [nI_clamp (n := j) (by omega)]
                        have hnew : chF (A 241) G i9 (A 228 p9) (chL (A 233) mm (A 233 j)) (x9 ||| A 241 (25 * j + i9)) = fitF A G p9 i9 (A 241) := by
                          have h9 := hz10
                          unfold chF at h9
                          rw [if_neg hb6] at h9
                          exact h9
                        rcases hnx with hnx | ⟨j2, hj1, hj2, hnx⟩
                        · rw [hnx] at hnew ⊢
                          refine lv_istore (lv' := [(4, .int ((-1))), (3, .int (x9 ||| A 241 (25 * j + i9))), (0, .ref (ad 224)), (1, .int (nI p9)), (2, .int (nI i9))]) Bx.1 Bx.2.1 d_Mo_fits_330 hl (by decide) rfl (fun ls hl => ?_)
                          refine lv_goto Bx.1 Bx.2.1 d_Mo_fits_332 rfl ?_
                          exact ih11 (mm) ((-1)) (x9 ||| A 241 (25 * j + i9)) _ _ _ (by have := hmeas12; omega) (Or.inl rfl) (hnew) hP hD hS (lv_sub hl [0, 1, 2, 3, 4] rfl)
                        · rw [hnx] at hnew ⊢
                          refine lv_istore (lv' := [(4, .int (nI j2)), (3, .int (x9 ||| A 241 (25 * j + i9))), (0, .ref (ad 224)), (1, .int (nI p9)), (2, .int (nI i9))]) Bx.1 Bx.2.1 d_Mo_fits_330 hl (by decide) rfl (fun ls hl => ?_)
                          refine lv_goto Bx.1 Bx.2.1 d_Mo_fits_332 rfl ?_
                          exact ih11 (mm) (nI j2) (x9 ||| A 241 (25 * j + i9)) _ _ _ (by have := hmeas12; omega) (Or.inr ⟨j2, rfl, by omega, by omega⟩) (hnew) hP hD hS (lv_sub hl [0, 1, 2, 3, 4] rfl)
                      · exact absurd hb15 hb6
              exact loop7 _ (100) (A 232 p9) (0) _ _ _ (Nat.lt_succ_self _) (hlk.1.imp id (fun ⟨j, a, b, d⟩ => ⟨j, d, b, by omega⟩)) (hst) hP hD hS (lv_sub hl [0, 1, 2, 3, 4] rfl)
            · have hst : chF (A 241) G i9 (A 228 p9) (chL (A 233) 100 (A 232 p9)) (1 <<< (nI i9 &&& 31)) = fitF A G p9 i9 (A 241) := by unfold fitF; rw [if_neg hb1, if_neg hb2, if_neg hb3, if_neg hb4, if_neg hb5, if_pos hb6]
              refine lv_iconst (v := 1) Bx.1 Bx.2.1 d_Mo_fits_267 (by decide) ?_
              refine lv_iload_n Bx.1 Bx.2.1 d_Mo_fits_268 rfl (lv_at hl 2 rfl) ?_
              refine lv_ishl Bx.1 Bx.2.1 d_Mo_fits_269 ?_
              refine lv_goto Bx.1 Bx.2.1 d_Mo_fits_270 rfl ?_
              refine lv_istore_n (lv' := [(3, .int ((1) <<< ((nI i9) &&& 31))), (0, .ref (ad 224)), (1, .int (nI p9)), (2, .int (nI i9))]) Bx.1 Bx.2.1 d_Mo_fits_274 rfl hl (by decide) rfl (fun ls hl => ?_)
              refine lv_aload_n Bx.1 Bx.2.1 d_Mo_fits_275 rfl (lv_at hl 1 rfl) ?_
              refine f_get Bx hP (by omega) hM.1 rfl inMo 12 (by decide) kw_668 rfl rfl d_Mo_fits_276 ?_
              refine lv_iload_n Bx.1 Bx.2.1 d_Mo_fits_279 rfl (lv_at hl 2 rfl) ?_
              refine f_iald Bx hP (by omega) (show mem 232 = .inl (cy 1, 100, .inl (A 232)) from hM.2.2.1 232 (by decide) (by decide) (by decide)) (vp_in_nI (n := p9) (by omega) (by decide)) d_Mo_fits_280 ?_
              rw [nI_clamp (n := p9) (by omega)]
              refine lv_istore (lv' := [(4, .int (A 232 (p9))), (3, .int ((1) <<< ((nI i9) &&& 31))), (0, .ref (ad 224)), (1, .int (nI p9)), (2, .int (nI i9))]) Bx.1 Bx.2.1 d_Mo_fits_281 hl (by decide) rfl (fun ls hl => ?_)
              have loop16 : ∀ (d17 : Nat) (m9 : Nat) (va : Int32) (x9 : Int32) (ls : Array Slot) (H : Heap) (locs : List Loc), (m9 < d17) → (va = -1 ∨ ∃ j, va = nI j ∧ j < Ec ∧ 100 ≤ m9 + j) → (chF (A 241) G i9 (A 228 p9) (chL (A 233) m9 va) x9 = fitF A G p9 i9 (A 241)) → (va_P D vcl (fw n ad mem) H) → (va_D (Az sz) (fw n ad mem)) → (va_S (Az sz) s.heap H locs) → (lv_has ls 5 [(4, .int (va)), (3, .int (x9)), (0, .ref (ad 224)), (1, .int (nI p9)), (2, .int (nI i9))]) → W p l e (headSpec (Cond.code y_Mo_fits c_Mo_fits 5 (some .int) :: tg) ({ frames := 3, cells := 0, slots := 0, locals := 90 } : Room)).room s m [.ref (ad 224), .int (nI p9), .int (nI i9)].toArray below meth c H locs 0 0 (MQ below (va_Qi (fun r mem' => r = fitF A G p9 i9 (A 241) ∧ mem' = mem) (PP D n ad) (Az sz)) [.ref (ad 224), .int (nI p9), .int (nI i9)].toArray s 0 0 (Az sz)) (F0 m 283 ls []) := by
                intro d17
                induction d17 with
                | zero => intro m9 va x9 ls H locs hmeas21; exact absurd hmeas21 (Nat.not_lt_zero _)
                | succ d17 ih20 =>
                  intro m9 va x9 ls H locs hmeas21 hz18 hz19 hP hD hS hl
                  rcases hz18 with hv | ⟨j, hv, hj, hm⟩
                  · subst hv
                    rw [chL_neg] at hz19
                    refine lv_iload Bx.1 Bx.2.1 d_Mo_fits_283 (lv_at hl 0 rfl) ?_
                    refine lv_if_lt Bx.1 Bx.2.1 d_Mo_fits_285 rfl (fun hb22 => ?_) (fun hb22 => ?_)
                    · refine lv_iload_n Bx.1 Bx.2.1 d_Mo_fits_335 rfl (lv_at hl 1 rfl) ?_
                      exact W.iret (v := x9) hx hb hr (fun t ht hW => ⟨⟨x9, mem, rfl, ⟨hz19, rfl⟩, by show va_P _ _ _ t.heap; rw [ht]; exact hP⟩, hS.F ht⟩) hS.2.2 d_Mo_fits_336
                    · exact absurd hb22 (by decide)
                  · subst hv
                    obtain ⟨mm, rfl⟩ : ∃ mm, m9 = mm + 1 := ⟨m9 - 1, by omega⟩
                    rw [chL_pos (by omega)] at hz19
                    have hnx := (hGd.1 j hj).2
                    refine lv_iload Bx.1 Bx.2.1 d_Mo_fits_283 (lv_at hl 0 rfl) ?_
                    refine lv_if_lt Bx.1 Bx.2.1 d_Mo_fits_285 rfl (fun hb23 => ?_) (fun hb23 => ?_)
                    · exact absurd hb23 (by first | exact nI_pos (by omega) | exact fun q9 => q9 (nI_pos' (by omega)))
                    · refine lv_aload_n Bx.1 Bx.2.1 d_Mo_fits_288 rfl (lv_at hl 2 rfl) ?_
                      refine f_get Bx hP (by omega) hM.1 rfl inMo 8 (by decide) kw_664 rfl rfl d_Mo_fits_289 ?_
                      refine lv_iload_n Bx.1 Bx.2.1 d_Mo_fits_292 rfl (lv_at hl 3 rfl) ?_
                      refine f_iald Bx hP (by omega) (show mem 228 = .inl (cy 1, 100, .inl (A 228)) from hM.2.2.1 228 (by decide) (by decide) (by decide)) (vp_in_nI (n := p9) (by omega) (by decide)) d_Mo_fits_293 ?_
                      rw [nI_clamp (n := p9) (by omega)]
                      refine lv_iconst (v := 1) Bx.1 Bx.2.1 d_Mo_fits_294 (by decide) ?_
                      refine lv_icmp_ne Bx.1 Bx.2.1 d_Mo_fits_295 rfl (fun hb24 => ?_) (fun hb24 => ?_)
                      · exact absurd hb6 hb24
                      · refine lv_aload_n Bx.1 Bx.2.1 d_Mo_fits_298 rfl (lv_at hl 2 rfl) ?_
                        refine lv_iload Bx.1 Bx.2.1 d_Mo_fits_299 (lv_at hl 0 rfl) ?_
                        refine lv_iload_n Bx.1 Bx.2.1 d_Mo_fits_301 rfl (lv_at hl 1 rfl) ?_
                        refine f_callVi (na := 2) (As := [.int (nI j), .int (x9)]) (rest := []) Bx hml E hP hD hS (by omega) hM.1 rfl (m_Mo_step l hn hM h24 hGb (p9 := j) (by omega)) kw_898 kw_900 sel_Mo_step kw_8 kw_901 (by decide +kernel) ⟨rfl, rfl⟩ ⟨Nat.le_of_ble_eq_true rfl, Nat.le_of_ble_eq_true rfl⟩ rfl hl.1 (Nat.le_of_ble_eq_true rfl) d_Mo_fits_302 ⟨Nat.le_of_ble_eq_true rfl, Nat.le_of_ble_eq_true rfl⟩ (fun r25 mem26 H locs hq hP hS => ?_)
                        have hD : va_D (Az sz) (fw n ad mem26) := fw_D hD
                        obtain ⟨hre, hq⟩ := hq
                        rw [hq] at hP hD
                        subst hre
                        refine lv_goto Bx.1 Bx.2.1 d_Mo_fits_305 rfl ?_
                        refine lv_istore_n (lv' := [(3, .int (stepF (A 241) G j (x9))), (4, .int (nI j)), (0, .ref (ad 224)), (1, .int (nI p9)), (2, .int (nI i9))]) Bx.1 Bx.2.1 d_Mo_fits_322 rfl hl (by decide) rfl (fun ls hl => ?_)
                        refine lv_aload_n Bx.1 Bx.2.1 d_Mo_fits_323 rfl (lv_at hl 2 rfl) ?_
                        refine f_get Bx hP (by omega) hM.1 rfl inMo 13 (by decide) kw_669 rfl rfl d_Mo_fits_324 ?_
                        refine lv_iload Bx.1 Bx.2.1 d_Mo_fits_327 (lv_at hl 1 rfl) ?_
                        refine f_iald Bx hP (by omega) (show mem 233 = .inl (cy 1, 100, .inl (A 233)) from hM.2.2.1 233 (by decide) (by decide) (by decide)) (vp_in_nI (n := j) (by omega) (by decide)) d_Mo_fits_329 ?_
                        rw [nI_clamp (n := j) (by omega)]
                        have hnew : chF (A 241) G i9 (A 228 p9) (chL (A 233) mm (A 233 j)) (stepF (A 241) G j (x9)) = fitF A G p9 i9 (A 241) := by
                          have h9 := hz19
                          unfold chF at h9
                          rw [if_pos hb6] at h9
                          exact h9
                        rcases hnx with hnx | ⟨j2, hj1, hj2, hnx⟩
                        · rw [hnx] at hnew ⊢
                          refine lv_istore (lv' := [(4, .int ((-1))), (3, .int (stepF (A 241) G j (x9))), (0, .ref (ad 224)), (1, .int (nI p9)), (2, .int (nI i9))]) Bx.1 Bx.2.1 d_Mo_fits_330 hl (by decide) rfl (fun ls hl => ?_)
                          refine lv_goto Bx.1 Bx.2.1 d_Mo_fits_332 rfl ?_
                          exact ih20 (mm) ((-1)) (stepF (A 241) G j (x9)) _ _ _ (by have := hmeas21; omega) (Or.inl rfl) (hnew) hP hD hS (lv_sub hl [0, 1, 2, 3, 4] rfl)
                        · rw [hnx] at hnew ⊢
                          refine lv_istore (lv' := [(4, .int (nI j2)), (3, .int (stepF (A 241) G j (x9))), (0, .ref (ad 224)), (1, .int (nI p9)), (2, .int (nI i9))]) Bx.1 Bx.2.1 d_Mo_fits_330 hl (by decide) rfl (fun ls hl => ?_)
                          refine lv_goto Bx.1 Bx.2.1 d_Mo_fits_332 rfl ?_
                          exact ih20 (mm) (nI j2) (stepF (A 241) G j (x9)) _ _ _ (by have := hmeas21; omega) (Or.inr ⟨j2, rfl, by omega, by omega⟩) (hnew) hP hD hS (lv_sub hl [0, 1, 2, 3, 4] rfl)
              exact loop16 _ (100) (A 232 p9) (1 <<< (nI i9 &&& 31)) _ _ _ (Nat.lt_succ_self _) (hlk.1.imp id (fun ⟨j, a, b, d⟩ => ⟨j, d, b, by omega⟩)) (hst) hP hD hS (lv_sub hl [0, 1, 2, 3, 4] rfl)
          · obtain ⟨q0, hq1, hq2, hfi⟩ := hlk.1.resolve_left ((hfu (Or.inr hb5)).resolve_right (fun z => z))
            refine lv_iconst (v := 1) Bx.1 Bx.2.1 d_Mo_fits_236 (by decide) ?_
            refine lv_iload_n Bx.1 Bx.2.1 d_Mo_fits_237 rfl (lv_at hl 2 rfl) ?_
            refine lv_ishl Bx.1 Bx.2.1 d_Mo_fits_238 ?_
            refine lv_aload_n Bx.1 Bx.2.1 d_Mo_fits_239 rfl (lv_at hl 0 rfl) ?_
            refine f_get Bx hP (by omega) hM.1 rfl inMo 27 (by decide) kw_683 rfl rfl d_Mo_fits_240 ?_
            refine lv_bipush (v := 25) Bx.1 Bx.2.1 d_Mo_fits_243 (by decide) ?_
            refine lv_aload_n Bx.1 Bx.2.1 d_Mo_fits_245 rfl (lv_at hl 0 rfl) ?_
            refine f_get Bx hP (by omega) hM.1 rfl inMo 12 (by decide) kw_668 rfl rfl d_Mo_fits_246 ?_
            refine lv_iload_n Bx.1 Bx.2.1 d_Mo_fits_249 rfl (lv_at hl 1 rfl) ?_
            refine f_iald Bx hP (by omega) (show mem 232 = .inl (cy 1, 100, .inl (A 232)) from hM.2.2.1 232 (by decide) (by decide) (by decide)) (vp_in_nI (n := p9) (by omega) (by decide)) d_Mo_fits_250 ?_
            rw [nI_clamp (n := p9) (by omega)]
            rw [hfi]
            refine lv_imul Bx.1 Bx.2.1 d_Mo_fits_251 ?_
            rw [show 25 * nI q0 = nI (25 * q0) from nI_mulR (25) (q0)]
            refine lv_iload_n Bx.1 Bx.2.1 d_Mo_fits_252 rfl (lv_at hl 2 rfl) ?_
            refine lv_iadd Bx.1 Bx.2.1 d_Mo_fits_253 ?_
            rw [show nI (25 * q0) + nI i9 = nI (25 * q0 + i9) from nI_add (25 * q0) (i9)]
            refine f_iald Bx hP (by omega) (show mem 241 = .inl (cy 1, 2500, .inl (A 241)) from hM.2.2.1 241 (by decide) (by decide) (by decide)) (vp_in_nI (n := 25 * q0 + i9) (by omega) (by decide)) d_Mo_fits_254 ?_
            rw [nI_clamp (n := 25 * q0 + i9) (by omega)]
            refine lv_ior Bx.1 Bx.2.1 d_Mo_fits_255 ?_
            exact W.iret (v := (1) <<< ((nI i9) &&& 31) ||| A 241 (25 * q0 + i9)) hx hb hr (fun t ht hW => ⟨⟨(1) <<< ((nI i9) &&& 31) ||| A 241 (25 * q0 + i9), mem, rfl, ⟨by unfold fitF; rw [if_neg hb1, if_neg hb2, if_neg hb3, if_neg hb4, if_pos hb5, hfi, nI_clamp (n := q0) (by omega)], rfl⟩, by show va_P _ _ _ t.heap; rw [ht]; exact hP⟩, hS.F ht⟩) hS.2.2 d_Mo_fits_256
        · obtain ⟨q0, hq1, hq2, hfi⟩ := hlk.1.resolve_left ((hfu (Or.inl hb4)).resolve_right (fun z => z))
          refine lv_aload_n Bx.1 Bx.2.1 d_Mo_fits_219 rfl (lv_at hl 0 rfl) ?_
          refine lv_iload_n Bx.1 Bx.2.1 d_Mo_fits_220 rfl (lv_at hl 1 rfl) ?_
          refine lv_iload_n Bx.1 Bx.2.1 d_Mo_fits_221 rfl (lv_at hl 2 rfl) ?_
          refine f_callVi (na := 2) (As := [.int (nI p9), .int (nI i9)]) (rest := []) Bx hml E hP hD hS (by omega) hM.1 rfl (m_Mo_times l hn hM h24 hGb (p9 := p9) (q0 := q0) (by omega) (by omega) hfi) kw_894 kw_896 sel_Mo_times kw_8 kw_897 (by decide +kernel) ⟨rfl, rfl⟩ ⟨Nat.le_of_ble_eq_true rfl, Nat.le_of_ble_eq_true rfl⟩ rfl hl.1 (Nat.le_of_ble_eq_true rfl) d_Mo_fits_222 ⟨Nat.le_of_ble_eq_true rfl, Nat.le_of_ble_eq_true rfl⟩ (fun r27 mem28 H locs hq hP hS => ?_)
          have hD : va_D (Az sz) (fw n ad mem28) := fw_D hD
          obtain ⟨hre, hq⟩ := hq
          rw [hq] at hP hD
          subst hre
          exact W.iret (v := timesF (A 241) G q0 i9 (A 229 p9) (A 230 p9)) hx hb hr (fun t ht hW => ⟨⟨timesF (A 241) G q0 i9 (A 229 p9) (A 230 p9), mem, rfl, ⟨by unfold fitF; rw [if_neg hb1, if_neg hb2, if_neg hb3, if_pos hb4, hfi, nI_clamp (n := q0) (by omega)], rfl⟩, by show va_P _ _ _ t.heap; rw [ht]; exact hP⟩, hS.F ht⟩) hS.2.2 d_Mo_fits_225
      · obtain ⟨r1, hr1, hon⟩ := hkd.1 hb3
        have htp := hGd.2.1 r1 hr1
        refine lv_aload_n Bx.1 Bx.2.1 d_Mo_fits_169 rfl (lv_at hl 0 rfl) ?_
        refine f_get Bx hP (by omega) hM.1 rfl inMo 6 (by decide) kw_662 rfl rfl d_Mo_fits_170 ?_
        refine lv_aload_n Bx.1 Bx.2.1 d_Mo_fits_173 rfl (lv_at hl 0 rfl) ?_
        refine f_get Bx hP (by omega) hM.1 rfl inMo 9 (by decide) kw_665 rfl rfl d_Mo_fits_174 ?_
        refine lv_iload_n Bx.1 Bx.2.1 d_Mo_fits_177 rfl (lv_at hl 1 rfl) ?_
        refine f_iald Bx hP (by omega) (show mem 229 = .inl (cy 1, 100, .inl (A 229)) from hM.2.2.1 229 (by decide) (by decide) (by decide)) (vp_in_nI (n := p9) (by omega) (by decide)) d_Mo_fits_178 ?_
        rw [nI_clamp (n := p9) (by omega)]
        rw [hon]
        refine f_iald Bx hP (by omega) (show mem 227 = .inl (cy 1, 12, .inl (A 227)) from hM.2.2.1 227 (by decide) (by decide) (by decide)) (vp_in_nI (n := r1) (by omega) (by decide)) d_Mo_fits_179 ?_
        rw [nI_clamp (n := r1) (by omega)]
        rcases htp with htp | ⟨j, hj, htp⟩
        · rw [htp]
          refine lv_if_ge Bx.1 Bx.2.1 d_Mo_fits_180 rfl (fun hb29 => ?_) (fun hb29 => ?_)
          · exact absurd hb29 (by decide)
          · refine lv_iconst (v := 0) Bx.1 Bx.2.1 d_Mo_fits_183 (by decide) ?_
            refine lv_goto Bx.1 Bx.2.1 d_Mo_fits_184 rfl ?_
            exact W.iret (v := 0) hx hb hr (fun t ht hW => ⟨⟨0, mem, rfl, ⟨by unfold fitF; rw [if_neg hb1, if_neg hb2, if_pos hb3, hon, nI_clamp (n := r1) (by omega), htp, if_pos (by decide)], rfl⟩, by show va_P _ _ _ t.heap; rw [ht]; exact hP⟩, hS.F ht⟩) hS.2.2 d_Mo_fits_208
        · rw [htp]
          refine lv_if_ge Bx.1 Bx.2.1 d_Mo_fits_180 rfl (fun hb30 => ?_) (fun hb30 => ?_)
          · refine lv_aload_n Bx.1 Bx.2.1 d_Mo_fits_187 rfl (lv_at hl 0 rfl) ?_
            refine f_get Bx hP (by omega) hM.1 rfl inMo 27 (by decide) kw_683 rfl rfl d_Mo_fits_188 ?_
            refine lv_bipush (v := 25) Bx.1 Bx.2.1 d_Mo_fits_191 (by decide) ?_
            refine lv_aload_n Bx.1 Bx.2.1 d_Mo_fits_193 rfl (lv_at hl 0 rfl) ?_
            refine f_get Bx hP (by omega) hM.1 rfl inMo 6 (by decide) kw_662 rfl rfl d_Mo_fits_194 ?_
            refine lv_aload_n Bx.1 Bx.2.1 d_Mo_fits_197 rfl (lv_at hl 0 rfl) ?_
            refine f_get Bx hP (by omega) hM.1 rfl inMo 9 (by decide) kw_665 rfl rfl d_Mo_fits_198 ?_
            refine lv_iload_n Bx.1 Bx.2.1 d_Mo_fits_201 rfl (lv_at hl 1 rfl) ?_
            refine f_iald Bx hP (by omega) (show mem 229 = .inl (cy 1, 100, .inl (A 229)) from hM.2.2.1 229 (by decide) (by decide) (by decide)) (vp_in_nI (n := p9) (by omega) (by decide)) d_Mo_fits_202 ?_
            rw [nI_clamp (n := p9) (by omega)]
            rw [hon]
            refine f_iald Bx hP (by omega) (show mem 227 = .inl (cy 1, 12, .inl (A 227)) from hM.2.2.1 227 (by decide) (by decide) (by decide)) (vp_in_nI (n := r1) (by omega) (by decide)) d_Mo_fits_203 ?_
            rw [nI_clamp (n := r1) (by omega)]
            rw [htp]
            refine lv_imul Bx.1 Bx.2.1 d_Mo_fits_204 ?_
            rw [show 25 * nI j = nI (25 * j) from nI_mulR (25) (j)]
            refine lv_iload_n Bx.1 Bx.2.1 d_Mo_fits_205 rfl (lv_at hl 2 rfl) ?_
            refine lv_iadd Bx.1 Bx.2.1 d_Mo_fits_206 ?_
            rw [show nI (25 * j) + nI i9 = nI (25 * j + i9) from nI_add (25 * j) (i9)]
            refine f_iald Bx hP (by omega) (show mem 241 = .inl (cy 1, 2500, .inl (A 241)) from hM.2.2.1 241 (by decide) (by decide) (by decide)) (vp_in_nI (n := 25 * j + i9) (by omega) (by decide)) d_Mo_fits_207 ?_
            rw [nI_clamp (n := 25 * j + i9) (by omega)]
            exact W.iret (v := A 241 (25 * j + i9)) hx hb hr (fun t ht hW => ⟨⟨A 241 (25 * j + i9), mem, rfl, ⟨by unfold fitF; rw [if_neg hb1, if_neg hb2, if_pos hb3, hon, nI_clamp (n := r1) (by omega), htp, if_neg (nI_pos (by omega)), nI_clamp (n := j) (by omega)], rfl⟩, by show va_P _ _ _ t.heap; rw [ht]; exact hP⟩, hS.F ht⟩) hS.2.2 d_Mo_fits_208
          · exact absurd hb30 (by first | exact nI_pos (by omega) | exact fun q9 => q9 (nI_pos' (by omega)))
    · obtain ⟨o9, t9, ho, htw9, hot⟩ := hkd.2 hb2
      refine lv_iload_n Bx.1 Bx.2.1 d_Mo_fits_60 rfl (lv_at hl 2 rfl) ?_
      refine lv_aload_n Bx.1 Bx.2.1 d_Mo_fits_61 rfl (lv_at hl 0 rfl) ?_
      refine f_get Bx hP (by omega) hM.1 rfl inMo 10 (by decide) kw_666 rfl rfl d_Mo_fits_62 ?_
      refine lv_iload_n Bx.1 Bx.2.1 d_Mo_fits_65 rfl (lv_at hl 1 rfl) ?_
      refine f_iald Bx hP (by omega) (show mem 230 = .inl (cy 1, 100, .inl (A 230)) from hM.2.2.1 230 (by decide) (by decide) (by decide)) (vp_in_nI (n := p9) (by omega) (by decide)) d_Mo_fits_66 ?_
      rw [nI_clamp (n := p9) (by omega)]
      rw [htw9]
      refine lv_iadd Bx.1 Bx.2.1 d_Mo_fits_67 ?_
      rw [show nI i9 + nI t9 = nI (i9 + t9) from nI_add (i9) (t9)]
      refine lv_aload_n Bx.1 Bx.2.1 d_Mo_fits_68 rfl (lv_at hl 0 rfl) ?_
      refine f_get Bx hP (by omega) hM.1 rfl inMo 24 (by decide) kw_680 rfl rfl d_Mo_fits_69 ?_
      rw [h24]
      refine lv_icmp_gt Bx.1 Bx.2.1 d_Mo_fits_72 rfl (fun hb31 => ?_) (fun hb31 => ?_)
      · have hN32 : G < i9 + t9 := (nI_ltI (by omega) (by omega)).mp (show nI (G) < nI (i9 + t9) from hb31)
        refine lv_iconst (v := 0) Bx.1 Bx.2.1 d_Mo_fits_79 (by decide) ?_
        refine lv_istore_n (lv' := [(3, .int (0)), (0, .ref (ad 224)), (1, .int (nI p9)), (2, .int (nI i9))]) Bx.1 Bx.2.1 d_Mo_fits_80 rfl hl (by decide) rfl (fun ls hl => ?_)
        refine lv_iconst (v := 0) Bx.1 Bx.2.1 d_Mo_fits_81 (by decide) ?_
        refine lv_istore (lv' := [(4, .int (0)), (3, .int (0)), (0, .ref (ad 224)), (1, .int (nI p9)), (2, .int (nI i9))]) Bx.1 Bx.2.1 d_Mo_fits_82 hl (by decide) rfl (fun ls hl => ?_)
        have hg0 : goodN (A 240) (A 234) (A 231 p9) G i9 o9 t9 t9 = 0 := by
          have := goodN_0 (inp := A 240) (chr := A 234) (ex := A 231 p9) (o := o9) (k := 0) (if_pos (show G < i9 + t9 by omega)) t9
          rw [Nat.zero_add] at this
          exact this
        refine lv_iload Bx.1 Bx.2.1 d_Mo_fits_84 (lv_at hl 0 rfl) ?_
        refine lv_aload_n Bx.1 Bx.2.1 d_Mo_fits_86 rfl (lv_at hl 2 rfl) ?_
        refine f_get Bx hP (by omega) hM.1 rfl inMo 10 (by decide) kw_666 rfl rfl d_Mo_fits_87 ?_
        refine lv_iload_n Bx.1 Bx.2.1 d_Mo_fits_90 rfl (lv_at hl 3 rfl) ?_
        refine f_iald Bx hP (by omega) (show mem 230 = .inl (cy 1, 100, .inl (A 230)) from hM.2.2.1 230 (by decide) (by decide) (by decide)) (vp_in_nI (n := p9) (by omega) (by decide)) d_Mo_fits_91 ?_
        rw [nI_clamp (n := p9) (by omega)]
        rw [htw9]
        refine lv_icmp_ge Bx.1 Bx.2.1 d_Mo_fits_92 rfl (fun hb33 => ?_) (fun hb33 => ?_)
        · have hN34 : t9 ≤ 0 := (nI_leI (by omega) (by omega)).mp (show nI (t9) ≤ nI (0) from hb33)
          refine lv_iload_n Bx.1 Bx.2.1 d_Mo_fits_139 rfl (lv_at hl 1 rfl) ?_
          refine lv_if_eq Bx.1 Bx.2.1 d_Mo_fits_140 rfl (fun hb35 => ?_) (fun hb35 => ?_)
          · refine lv_iconst (v := 0) Bx.1 Bx.2.1 d_Mo_fits_156 (by decide) ?_
            exact W.iret (v := 0) hx hb hr (fun t ht hW => ⟨⟨0, mem, rfl, ⟨by unfold fitF; rw [if_neg hb1, if_pos hb2, ho, htw9, nI_clamp (n := o9) (by omega), nI_clamp (n := t9) (by omega), if_pos hg0], rfl⟩, by show va_P _ _ _ t.heap; rw [ht]; exact hP⟩, hS.F ht⟩) hS.2.2 d_Mo_fits_157
          · exact absurd hb35 (by decide)
        · have hN36 : ¬ t9 ≤ 0 := fun q9 => hb33 (show nI (t9) ≤ nI (0) from (nI_leI (by omega) (by omega)).mpr q9)
          refine lv_iload_n Bx.1 Bx.2.1 d_Mo_fits_95 rfl (lv_at hl 1 rfl) ?_
          refine lv_if_eq Bx.1 Bx.2.1 d_Mo_fits_96 rfl (fun hb37 => ?_) (fun hb37 => ?_)
          · refine lv_iload_n Bx.1 Bx.2.1 d_Mo_fits_139 rfl (lv_at hl 1 rfl) ?_
            refine lv_if_eq Bx.1 Bx.2.1 d_Mo_fits_140 rfl (fun hb38 => ?_) (fun hb38 => ?_)
            · refine lv_iconst (v := 0) Bx.1 Bx.2.1 d_Mo_fits_156 (by decide) ?_
              exact W.iret (v := 0) hx hb hr (fun t ht hW => ⟨⟨0, mem, rfl, ⟨by unfold fitF; rw [if_neg hb1, if_pos hb2, ho, htw9, nI_clamp (n := o9) (by omega), nI_clamp (n := t9) (by omega), if_pos hg0], rfl⟩, by show va_P _ _ _ t.heap; rw [ht]; exact hP⟩, hS.F ht⟩) hS.2.2 d_Mo_fits_157
            · exact absurd hb38 (by decide)
          · exact absurd hb37 (by decide)
      · have hN39 : ¬ G < i9 + t9 := fun q9 => hb31 (show nI (G) < nI (i9 + t9) from (nI_ltI (by omega) (by omega)).mpr q9)
        refine lv_iconst (v := 1) Bx.1 Bx.2.1 d_Mo_fits_75 (by decide) ?_
        refine lv_goto Bx.1 Bx.2.1 d_Mo_fits_76 rfl ?_
        refine lv_istore_n (lv' := [(3, .int (1)), (0, .ref (ad 224)), (1, .int (nI p9)), (2, .int (nI i9))]) Bx.1 Bx.2.1 d_Mo_fits_80 rfl hl (by decide) rfl (fun ls hl => ?_)
        refine lv_iconst (v := 0) Bx.1 Bx.2.1 d_Mo_fits_81 (by decide) ?_
        refine lv_istore (lv' := [(4, .int (0)), (3, .int (1)), (0, .ref (ad 224)), (1, .int (nI p9)), (2, .int (nI i9))]) Bx.1 Bx.2.1 d_Mo_fits_82 hl (by decide) rfl (fun ls hl => ?_)
        have loop40 : ∀ (d41 : Nat) (k : Nat) (ls : Array Slot) (H : Heap) (locs : List Loc), (t9 - k < d41) → (k ≤ t9) → (va_P D vcl (fw n ad mem) H) → (va_D (Az sz) (fw n ad mem)) → (va_S (Az sz) s.heap H locs) → (lv_has ls 5 [(4, .int (nI k)), (3, .int (goodN (A 240) (A 234) (A 231 p9) G i9 o9 t9 k)), (0, .ref (ad 224)), (1, .int (nI p9)), (2, .int (nI i9))]) → W p l e (headSpec (Cond.code y_Mo_fits c_Mo_fits 5 (some .int) :: tg) ({ frames := 3, cells := 0, slots := 0, locals := 90 } : Room)).room s m [.ref (ad 224), .int (nI p9), .int (nI i9)].toArray below meth c H locs 0 0 (MQ below (va_Qi (fun r mem' => r = fitF A G p9 i9 (A 241) ∧ mem' = mem) (PP D n ad) (Az sz)) [.ref (ad 224), .int (nI p9), .int (nI i9)].toArray s 0 0 (Az sz)) (F0 m 84 ls []) := by
          intro d41
          induction d41 with
          | zero => intro k ls H locs hmeas44; exact absurd hmeas44 (Nat.not_lt_zero _)
          | succ d41 ih43 =>
            intro k ls H locs hmeas44 hz42 hP hD hS hl
            refine lv_iload Bx.1 Bx.2.1 d_Mo_fits_84 (lv_at hl 0 rfl) ?_
            refine lv_aload_n Bx.1 Bx.2.1 d_Mo_fits_86 rfl (lv_at hl 2 rfl) ?_
            refine f_get Bx hP (by omega) hM.1 rfl inMo 10 (by decide) kw_666 rfl rfl d_Mo_fits_87 ?_
            refine lv_iload_n Bx.1 Bx.2.1 d_Mo_fits_90 rfl (lv_at hl 3 rfl) ?_
            refine f_iald Bx hP (by omega) (show mem 230 = .inl (cy 1, 100, .inl (A 230)) from hM.2.2.1 230 (by decide) (by decide) (by decide)) (vp_in_nI (n := p9) (by omega) (by decide)) d_Mo_fits_91 ?_
            rw [nI_clamp (n := p9) (by omega)]
            rw [htw9]
            refine lv_icmp_ge Bx.1 Bx.2.1 d_Mo_fits_92 rfl (fun hb45 => ?_) (fun hb45 => ?_)
            · have hN46 : t9 ≤ k := (nI_leI (by omega) (by omega)).mp (show nI (t9) ≤ nI (k) from hb45)
              obtain rfl : k = t9 := by omega
              refine lv_iload_n Bx.1 Bx.2.1 d_Mo_fits_139 rfl (lv_at hl 1 rfl) ?_
              refine lv_if_eq Bx.1 Bx.2.1 d_Mo_fits_140 rfl (fun hb47 => ?_) (fun hb47 => ?_)
              · refine lv_iconst (v := 0) Bx.1 Bx.2.1 d_Mo_fits_156 (by decide) ?_
                exact W.iret (v := 0) hx hb hr (fun t ht hW => ⟨⟨0, mem, rfl, ⟨by unfold fitF; rw [if_neg hb1, if_pos hb2, ho, htw9, nI_clamp (n := o9) (by omega), nI_clamp (n := k) (by omega), if_pos hb47], rfl⟩, by show va_P _ _ _ t.heap; rw [ht]; exact hP⟩, hS.F ht⟩) hS.2.2 d_Mo_fits_157
              · refine lv_iconst (v := 1) Bx.1 Bx.2.1 d_Mo_fits_143 (by decide) ?_
                refine lv_iload_n Bx.1 Bx.2.1 d_Mo_fits_144 rfl (lv_at hl 4 rfl) ?_
                refine lv_aload_n Bx.1 Bx.2.1 d_Mo_fits_145 rfl (lv_at hl 2 rfl) ?_
                refine f_get Bx hP (by omega) hM.1 rfl inMo 10 (by decide) kw_666 rfl rfl d_Mo_fits_146 ?_
                refine lv_iload_n Bx.1 Bx.2.1 d_Mo_fits_149 rfl (lv_at hl 3 rfl) ?_
                refine f_iald Bx hP (by omega) (show mem 230 = .inl (cy 1, 100, .inl (A 230)) from hM.2.2.1 230 (by decide) (by decide) (by decide)) (vp_in_nI (n := p9) (by omega) (by decide)) d_Mo_fits_150 ?_
                rw [nI_clamp (n := p9) (by omega)]
                rw [htw9]
                refine lv_iadd Bx.1 Bx.2.1 d_Mo_fits_151 ?_
                rw [show nI i9 + nI k = nI (i9 + k) from nI_add (i9) (k)]
                refine lv_ishl Bx.1 Bx.2.1 d_Mo_fits_152 ?_
                refine lv_goto Bx.1 Bx.2.1 d_Mo_fits_153 rfl ?_
                exact W.iret (v := (1) <<< ((nI (i9 + k)) &&& 31)) hx hb hr (fun t ht hW => ⟨⟨(1) <<< ((nI (i9 + k)) &&& 31), mem, rfl, ⟨by unfold fitF; rw [if_neg hb1, if_pos hb2, ho, htw9, nI_clamp (n := o9) (by omega), nI_clamp (n := k) (by omega), if_neg hb47], rfl⟩, by show va_P _ _ _ t.heap; rw [ht]; exact hP⟩, hS.F ht⟩) hS.2.2 d_Mo_fits_157
            · have hN48 : ¬ t9 ≤ k := fun q9 => hb45 (show nI (t9) ≤ nI (k) from (nI_leI (by omega) (by omega)).mpr q9)
              refine lv_iload_n Bx.1 Bx.2.1 d_Mo_fits_95 rfl (lv_at hl 1 rfl) ?_
              refine lv_if_eq Bx.1 Bx.2.1 d_Mo_fits_96 rfl (fun hb49 => ?_) (fun hb49 => ?_)
              · have hg0 : goodN (A 240) (A 234) (A 231 p9) G i9 o9 t9 t9 = 0 := by
                  have := goodN_0 hb49 (t9 - k)
                  rw [show k + (t9 - k) = t9 by omega] at this
                  exact this
                refine lv_iload_n Bx.1 Bx.2.1 d_Mo_fits_139 rfl (lv_at hl 1 rfl) ?_
                refine lv_if_eq Bx.1 Bx.2.1 d_Mo_fits_140 rfl (fun hb50 => ?_) (fun hb50 => ?_)
                · refine lv_iconst (v := 0) Bx.1 Bx.2.1 d_Mo_fits_156 (by decide) ?_
                  exact W.iret (v := 0) hx hb hr (fun t ht hW => ⟨⟨0, mem, rfl, ⟨by unfold fitF; rw [if_neg hb1, if_pos hb2, ho, htw9, nI_clamp (n := o9) (by omega), nI_clamp (n := t9) (by omega), if_pos hg0], rfl⟩, by show va_P _ _ _ t.heap; rw [ht]; exact hP⟩, hS.F ht⟩) hS.2.2 d_Mo_fits_157
                · exact absurd hb49 hb50
              · have hit := goodN_le hb49
                refine lv_aload_n Bx.1 Bx.2.1 d_Mo_fits_99 rfl (lv_at hl 2 rfl) ?_
                refine lv_aload_n Bx.1 Bx.2.1 d_Mo_fits_100 rfl (lv_at hl 2 rfl) ?_
                refine f_get Bx hP (by omega) hM.1 rfl inMo 25 (by decide) kw_681 rfl rfl d_Mo_fits_101 ?_
                refine lv_iload_n Bx.1 Bx.2.1 d_Mo_fits_104 rfl (lv_at hl 4 rfl) ?_
                refine lv_iload Bx.1 Bx.2.1 d_Mo_fits_105 (lv_at hl 0 rfl) ?_
                refine lv_iadd Bx.1 Bx.2.1 d_Mo_fits_107 ?_
                rw [show nI i9 + nI k = nI (i9 + k) from nI_add (i9) (k)]
                refine f_iald Bx hP (by omega) (show mem 240 = .inl (cy 1, 24, .inl (A 240)) from hM.2.2.1 240 (by decide) (by decide) (by decide)) (vp_in_nI (n := i9 + k) (by omega) (by decide)) d_Mo_fits_108 ?_
                rw [nI_clamp (n := i9 + k) (by omega)]
                refine lv_aload_n Bx.1 Bx.2.1 d_Mo_fits_109 rfl (lv_at hl 2 rfl) ?_
                refine f_get Bx hP (by omega) hM.1 rfl inMo 15 (by decide) kw_671 rfl rfl d_Mo_fits_110 ?_
                refine lv_aload_n Bx.1 Bx.2.1 d_Mo_fits_113 rfl (lv_at hl 2 rfl) ?_
                refine f_get Bx hP (by omega) hM.1 rfl inMo 9 (by decide) kw_665 rfl rfl d_Mo_fits_114 ?_
                refine lv_iload_n Bx.1 Bx.2.1 d_Mo_fits_117 rfl (lv_at hl 3 rfl) ?_
                refine f_iald Bx hP (by omega) (show mem 229 = .inl (cy 1, 100, .inl (A 229)) from hM.2.2.1 229 (by decide) (by decide) (by decide)) (vp_in_nI (n := p9) (by omega) (by decide)) d_Mo_fits_118 ?_
                rw [nI_clamp (n := p9) (by omega)]
                rw [ho]
                refine lv_iload Bx.1 Bx.2.1 d_Mo_fits_119 (lv_at hl 0 rfl) ?_
                refine lv_iadd Bx.1 Bx.2.1 d_Mo_fits_121 ?_
                rw [show nI o9 + nI k = nI (o9 + k) from nI_add (o9) (k)]
                refine f_iald Bx hP (by omega) (show mem 234 = .inl (cy 1, 400, .inl (A 234)) from hM.2.2.1 234 (by decide) (by decide) (by decide)) (vp_in_nI (n := o9 + k) (by omega) (by decide)) d_Mo_fits_122 ?_
                rw [nI_clamp (n := o9 + k) (by omega)]
                refine lv_aload_n Bx.1 Bx.2.1 d_Mo_fits_123 rfl (lv_at hl 2 rfl) ?_
                refine f_get Bx hP (by omega) hM.1 rfl inMo 11 (by decide) kw_667 rfl rfl d_Mo_fits_124 ?_
                refine lv_iload_n Bx.1 Bx.2.1 d_Mo_fits_127 rfl (lv_at hl 3 rfl) ?_
                refine f_zald Bx hP (by omega) (show mem 231 = .inl (cy 3, 100, .inl (A 231)) from hM.2.2.1 231 (by decide) (by decide) (by decide)) (vp_in_nI (n := p9) (by omega) (by decide)) d_Mo_fits_128 ?_
                rw [nI_clamp (n := p9) (by omega)]
                refine f_callVi (na := 3) (As := [.int (A 240 (i9 + k)), .int (A 234 (o9 + k)), .int (A 231 (p9))]) (rest := []) Bx hml E hP hD hS (by omega) hM.1 rfl (m_Mo_same l hn hM) kw_890 kw_892 sel_Mo_same kw_8 kw_893 (by decide +kernel) ⟨rfl, rfl⟩ ⟨Nat.le_of_ble_eq_true rfl, Nat.le_of_ble_eq_true rfl⟩ rfl hl.1 (Nat.le_of_ble_eq_true rfl) d_Mo_fits_129 ⟨Nat.le_of_ble_eq_true rfl, Nat.le_of_ble_eq_true rfl⟩ (fun r51 mem52 H locs hq hP hS => ?_)
                have hD : va_D (Az sz) (fw n ad mem52) := fw_D hD
                obtain ⟨hre, hq⟩ := hq
                rw [hq] at hP hD
                subst hre
                refine lv_istore_n (lv' := [(3, .int (sameF (A 240 (i9 + k)) (A 234 (o9 + k)) (A 231 (p9)))), (4, .int (nI k)), (0, .ref (ad 224)), (1, .int (nI p9)), (2, .int (nI i9))]) Bx.1 Bx.2.1 d_Mo_fits_132 rfl hl (by decide) rfl (fun ls hl => ?_)
                refine lv_iinc (lv' := [(4, .int ((nI k + (1)))), (3, .int (sameF (A 240 (i9 + k)) (A 234 (o9 + k)) (A 231 (p9)))), (0, .ref (ad 224)), (1, .int (nI p9)), (2, .int (nI i9))]) Bx.1 Bx.2.1 d_Mo_fits_133 hl (k := 1) rfl rfl (by decide) rfl (fun ls hl => ?_)
                rw [show (nI k + (1) : Int32) = nI (k + 1) from nI_1 (k)] at hl
                refine lv_goto Bx.1 Bx.2.1 d_Mo_fits_136 rfl ?_
                exact ih43 (k + 1) _ _ _ (by have := hmeas44; omega) (by omega) hP hD hS (by rw [show goodN (A 240) (A 234) (A 231 p9) G i9 o9 t9 (k + 1) = sameF (A 240 (i9 + k)) (A 234 (o9 + k)) (A 231 (p9)) from by show (if _ then _ else _) = _; rw [if_neg hb49]]; exact (lv_sub hl [0, 1, 2, 3, 4] rfl))
        exact loop40 _ (0) _ _ _ (Nat.lt_succ_self _) (by omega) hP hD hS (by rw [show goodN (A 240) (A 234) (A 231 p9) G i9 o9 t9 0 = 1 from if_neg (by omega)]; exact (lv_sub hl [0, 1, 2, 3, 4] rfl))
  · refine lv_iload_n Bx.1 Bx.2.1 d_Mo_fits_10 rfl (lv_at hl 2 rfl) ?_
    refine lv_aload_n Bx.1 Bx.2.1 d_Mo_fits_11 rfl (lv_at hl 0 rfl) ?_
    refine f_get Bx hP (by omega) hM.1 rfl inMo 24 (by decide) kw_680 rfl rfl d_Mo_fits_12 ?_
    rw [h24]
    refine lv_icmp_ge Bx.1 Bx.2.1 d_Mo_fits_15 rfl (fun hb53 => ?_) (fun hb53 => ?_)
    · have hN54 : G ≤ i9 := (nI_leI (by omega) (by omega)).mp (show nI (G) ≤ nI (i9) from hb53)
      refine lv_iconst (v := 0) Bx.1 Bx.2.1 d_Mo_fits_48 (by decide) ?_
      exact W.iret (v := 0) hx hb hr (fun t ht hW => ⟨⟨0, mem, rfl, ⟨by unfold fitF; rw [if_pos hb1, if_neg (fun z => by omega)], rfl⟩, by show va_P _ _ _ t.heap; rw [ht]; exact hP⟩, hS.F ht⟩) hS.2.2 d_Mo_fits_49
    · have hN55 : ¬ G ≤ i9 := fun q9 => hb53 (show nI (G) ≤ nI (i9) from (nI_leI (by omega) (by omega)).mpr q9)
      refine lv_aload_n Bx.1 Bx.2.1 d_Mo_fits_18 rfl (lv_at hl 0 rfl) ?_
      refine f_get Bx hP (by omega) hM.1 rfl inMo 25 (by decide) kw_681 rfl rfl d_Mo_fits_19 ?_
      refine lv_iload_n Bx.1 Bx.2.1 d_Mo_fits_22 rfl (lv_at hl 2 rfl) ?_
      refine f_iald Bx hP (by omega) (show mem 240 = .inl (cy 1, 24, .inl (A 240)) from hM.2.2.1 240 (by decide) (by decide) (by decide)) (vp_in_nI (n := i9) (by omega) (by decide)) d_Mo_fits_23 ?_
      rw [nI_clamp (n := i9) (by omega)]
      refine lv_aload_n Bx.1 Bx.2.1 d_Mo_fits_24 rfl (lv_at hl 0 rfl) ?_
      refine f_get Bx hP (by omega) hM.1 rfl inMo 9 (by decide) kw_665 rfl rfl d_Mo_fits_25 ?_
      refine lv_iload_n Bx.1 Bx.2.1 d_Mo_fits_28 rfl (lv_at hl 1 rfl) ?_
      refine f_iald Bx hP (by omega) (show mem 229 = .inl (cy 1, 100, .inl (A 229)) from hM.2.2.1 229 (by decide) (by decide) (by decide)) (vp_in_nI (n := p9) (by omega) (by decide)) d_Mo_fits_29 ?_
      rw [nI_clamp (n := p9) (by omega)]
      refine lv_aload_n Bx.1 Bx.2.1 d_Mo_fits_30 rfl (lv_at hl 0 rfl) ?_
      refine f_get Bx hP (by omega) hM.1 rfl inMo 10 (by decide) kw_666 rfl rfl d_Mo_fits_31 ?_
      refine lv_iload_n Bx.1 Bx.2.1 d_Mo_fits_34 rfl (lv_at hl 1 rfl) ?_
      refine f_iald Bx hP (by omega) (show mem 230 = .inl (cy 1, 100, .inl (A 230)) from hM.2.2.1 230 (by decide) (by decide) (by decide)) (vp_in_nI (n := p9) (by omega) (by decide)) d_Mo_fits_35 ?_
      rw [nI_clamp (n := p9) (by omega)]
      refine f_callSi (na := 3) (As := [.int (A 240 (i9)), .int (A 229 (p9)), .int (A 230 (p9))]) (rest := []) Bx hml E.2.1 (m_Mo_within l (A 240 (i9)) (A 229 (p9)) (A 230 (p9))) kw_754 kw_755 kw_8 kw_756 (by decide +kernel) ⟨rfl, rfl⟩ ⟨Nat.le_of_ble_eq_true rfl, Nat.le_of_ble_eq_true rfl⟩ rfl hl.1 (Nat.le_of_ble_eq_true rfl) d_Mo_fits_36 ⟨Nat.le_of_ble_eq_true rfl, Nat.le_of_ble_eq_true rfl⟩ (fun r57 hs56 => ?_)
      subst hs56
      refine lv_if_eq Bx.1 Bx.2.1 d_Mo_fits_39 rfl (fun hb58 => ?_) (fun hb58 => ?_)
      · refine lv_iconst (v := 0) Bx.1 Bx.2.1 d_Mo_fits_48 (by decide) ?_
        exact W.iret (v := 0) hx hb hr (fun t ht hW => ⟨⟨0, mem, rfl, ⟨by unfold fitF; rw [if_pos hb1, if_neg (fun z => z.2 (if0 hb58))], rfl⟩, by show va_P _ _ _ t.heap; rw [ht]; exact hP⟩, hS.F ht⟩) hS.2.2 d_Mo_fits_49
      · refine lv_iconst (v := 2) Bx.1 Bx.2.1 d_Mo_fits_42 (by decide) ?_
        refine lv_iload_n Bx.1 Bx.2.1 d_Mo_fits_43 rfl (lv_at hl 2 rfl) ?_
        refine lv_ishl Bx.1 Bx.2.1 d_Mo_fits_44 ?_
        refine lv_goto Bx.1 Bx.2.1 d_Mo_fits_45 rfl ?_
        exact W.iret (v := (2) <<< ((nI i9) &&& 31)) hx hb hr (fun t ht hW => ⟨⟨(2) <<< ((nI i9) &&& 31), mem, rfl, ⟨by unfold fitF; rw [if_pos hb1, if_pos ⟨by omega, fun z => hb58 (if_pos z)⟩], rfl⟩, by show va_P _ _ _ t.heap; rw [ht]; exact hP⟩, hS.F ht⟩) hS.2.2 d_Mo_fits_49
