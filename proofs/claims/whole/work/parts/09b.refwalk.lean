set_option maxHeartbeats 4000000 in
set_option maxRecDepth 100000 in
theorem wX12_moreOf_108 {Γ : gT} {m : Nat} {r : Nat → Nat} {o : Nat → Int32} {A : Nat → Nat → Int32} (K : gOK Γ cX12_moreOf gU RX12) (hlt : ∀ i, i < 12 → i < g_n Γ) (hRm : g_R Γ = ({ frames := 5, cells := 0, slots := 0, locals := 173 } : Room)) {res : Int32 × ((Nat → Int32)) × ((Nat → Int32))} (hret : ∀ (pc : Nat) (L : List (Nat × Value)) (v : Int32) (w : va_W), decode cX12_moreOf pc = .ok (.ireturn, 1) → narrow .int (.int v) = .int v → (v = res.1 ∧ w = mw (g_E Γ) m r o (gu (gu A 10 res.2.1) 11 res.2.2)) → gGO Γ 0 0 pc L [.int v] w) : ∀ (n : Nat) (a10 : (Nat → Int32)) (a11 : (Nat → Int32)) (x3 : Int32) (x4 : Int32) (x5 : Int32) (x6 : Int32) (x7 : Int32), pX12_moreOf_108 (A 1) n a10 a11 x3 x4 x5 x6 x7 = some res → gGO Γ 0 0 108 [(0, .ref m), (3, .int x3), (4, .int x4), (5, .int x5), (6, .int x6), (7, .int x7)] [] (mw (g_E Γ) m r o (gu (gu A 10 a10) 11 a11)) := by
  intro n
  induction n with
  | zero => intro _ _ _ _ _ _ _ h; cases h
  | succ n ih =>
    intro a10 a11 x3 x4 x5 x6 x7 h
    simp only [pX12_moreOf_108] at h
    refine g_iload K dX12_moreOf_108 5 rfl ?_
    refine g_iload K dX12_moreOf_110 3 rfl ?_
    refine g_iload K dX12_moreOf_112 2 rfl ?_
    refine g_iadd K dX12_moreOf_114 ?_
    obtain ⟨ht9, hf9⟩ := gi_br h; clear h
    refine g_icmp_ge (tgt := 394) K dX12_moreOf_115 (by decide) (fun qh => ?_) (fun qh => ?_)
    · have h := ht9 qh; clear ht9 hf9
      refine g_iload_n K dX12_moreOf_394 rfl 1 rfl ?_
      obtain rfl := Option.some.inj h
      exact hret _ _ _ _ dX12_moreOf_395 rfl ⟨rfl, rfl⟩
    · have h := hf9 qh; clear ht9 hf9
      refine g_aload_n K dX12_moreOf_118 rfl 0 rfl ?_
      refine mg_1 K hin_X12 (u_980) dX12_moreOf_119 ?_
      refine g_iload K dX12_moreOf_122 5 rfl ?_
      obtain ⟨b_1, h⟩ := gi_none h
      refine g_iald (f := (A 1)) K 1 rfl (ginb_in b_1) dX12_moreOf_124 ?_
      obtain ⟨v_2, ev_2, h⟩ := gi_nm h
      refine g_topi ev_2 ?_
      refine g_istore (L' := [(8, .int v_2), (0, .ref m), (3, .int x3), (4, .int x4), (5, .int x5), (6, .int x6), (7, .int x7)]) K dX12_moreOf_125 (hlt _ (by decide)) rfl ?_
      refine g_iload K dX12_moreOf_127 0 rfl ?_
      obtain ⟨ht9, hf9⟩ := gi_br h; clear h
      refine g_if_lt (tgt := 226) K dX12_moreOf_129 (by decide) (fun qh => ?_) (fun qh => ?_)
      · have h := ht9 qh; clear ht9 hf9
        refine g_iload K dX12_moreOf_226 0 rfl ?_
        refine g_iconst (v := (-1)) K dX12_moreOf_228 (by decide) ?_
        obtain ⟨ht9, hf9⟩ := gi_br h; clear h
        refine g_icmp_ne (tgt := 261) K dX12_moreOf_229 (by decide) (fun qh => ?_) (fun qh => ?_)
        · have h := hf9 qh; clear ht9 hf9
          refine g_iload K dX12_moreOf_261 0 rfl ?_
          refine g_bipush (v := (-10)) K dX12_moreOf_263 (by decide) ?_
          obtain ⟨ht9, hf9⟩ := gi_br h; clear h
          refine g_icmp_le (tgt := 347) K dX12_moreOf_265 (by decide) (fun qh => ?_) (fun qh => ?_)
          · have h := ht9 qh; clear ht9 hf9
            refine g_iconst (v := 0) K dX12_moreOf_347 (by decide) ?_
            refine g_istore (L' := [(6, .int 0), (8, .int v_2), (0, .ref m), (3, .int x3), (4, .int x4), (5, .int x5), (7, .int x7)]) K dX12_moreOf_348 (hlt _ (by decide)) rfl ?_
            refine g_iload_n K dX12_moreOf_350 rfl 3 rfl ?_
            refine g_aload_n K dX12_moreOf_351 rfl 2 rfl ?_
            refine mg_11 K hin_X12 (u_990) dX12_moreOf_352 ?_
            refine g_iconst (v := 0) K dX12_moreOf_355 (by decide) ?_
            obtain ⟨b_3, h⟩ := gi_none h
            refine g_zald (f := a11) K 5 rfl (ginb_in b_3) dX12_moreOf_356 ?_
            obtain ⟨ht9, hf9⟩ := gi_br h; clear h
            refine g_if_ne (tgt := 364) K dX12_moreOf_357 (by decide) (fun qh => ?_) (fun qh => ?_)
            · have h := hf9 qh; clear ht9 hf9
              refine g_iload K dX12_moreOf_364 1 rfl ?_
              refine g_sipush (v := (-200)) K dX12_moreOf_366 (by decide) ?_
              obtain ⟨ht9, hf9⟩ := gi_br h; clear h
              refine g_icmp_le (tgt := 380) K dX12_moreOf_369 (by decide) (fun qh => ?_) (fun qh => ?_)
              · have h := ht9 qh; clear ht9 hf9
                refine g_iload K dX12_moreOf_380 1 rfl ?_
                refine g_sipush (v := (-200)) K dX12_moreOf_382 (by decide) ?_
                refine g_isub K dX12_moreOf_385 ?_
                refine g_iadd K dX12_moreOf_386 ?_
                obtain ⟨v_4, ev_4, h⟩ := gi_nm h
                refine g_topi ev_4 ?_
                refine g_istore_n (L' := [(3, .int v_4), (6, .int 0), (8, .int v_2), (0, .ref m), (4, .int x4), (5, .int x5), (7, .int x7)]) K dX12_moreOf_387 rfl (hlt _ (by decide)) rfl ?_
                refine g_iinc (v := (x7 + 1)) (L' := [(7, .int (x7 + 1)), (3, .int v_4), (6, .int 0), (8, .int v_2), (0, .ref m), (4, .int x4), (5, .int x5)]) K dX12_moreOf_388 6 rfl rfl (hlt _ (by decide)) rfl ?_
                refine g_goto (tgt := 108) K dX12_moreOf_391 (by decide) ?_
                refine g_sub (L' := [(0, .ref m), (3, .int v_4), (4, .int x4), (5, .int x5), (6, .int 0), (7, .int (x7 + 1))]) [4, 1, 5, 6, 2, 0] rfl ?_
                exact ih a10 a11 v_4 x4 x5 0 (x7 + 1) h
              · have h := hf9 qh; clear ht9 hf9
                refine g_bipush (v := (-10)) K dX12_moreOf_372 (by decide) ?_
                refine g_iload K dX12_moreOf_374 1 rfl ?_
                refine g_isub K dX12_moreOf_376 ?_
                refine g_goto (tgt := 386) K dX12_moreOf_377 (by decide) ?_
                refine g_iadd K dX12_moreOf_386 ?_
                obtain ⟨v_5, ev_5, h⟩ := gi_nm h
                refine g_topi ev_5 ?_
                refine g_istore_n (L' := [(3, .int v_5), (6, .int 0), (8, .int v_2), (0, .ref m), (4, .int x4), (5, .int x5), (7, .int x7)]) K dX12_moreOf_387 rfl (hlt _ (by decide)) rfl ?_
                refine g_iinc (v := (x7 + 1)) (L' := [(7, .int (x7 + 1)), (3, .int v_5), (6, .int 0), (8, .int v_2), (0, .ref m), (4, .int x4), (5, .int x5)]) K dX12_moreOf_388 6 rfl rfl (hlt _ (by decide)) rfl ?_
                refine g_goto (tgt := 108) K dX12_moreOf_391 (by decide) ?_
                refine g_sub (L' := [(0, .ref m), (3, .int v_5), (4, .int x4), (5, .int x5), (6, .int 0), (7, .int (x7 + 1))]) [4, 1, 5, 6, 2, 0] rfl ?_
                exact ih a10 a11 v_5 x4 x5 0 (x7 + 1) h
            · have h := ht9 qh; clear ht9 hf9
              refine g_iconst (v := 0) K dX12_moreOf_360 (by decide) ?_
              refine g_goto (tgt := 386) K dX12_moreOf_361 (by decide) ?_
              refine g_iadd K dX12_moreOf_386 ?_
              obtain ⟨v_6, ev_6, h⟩ := gi_nm h
              refine g_topi ev_6 ?_
              refine g_istore_n (L' := [(3, .int v_6), (6, .int 0), (8, .int v_2), (0, .ref m), (4, .int x4), (5, .int x5), (7, .int x7)]) K dX12_moreOf_387 rfl (hlt _ (by decide)) rfl ?_
              refine g_iinc (v := (x7 + 1)) (L' := [(7, .int (x7 + 1)), (3, .int v_6), (6, .int 0), (8, .int v_2), (0, .ref m), (4, .int x4), (5, .int x5)]) K dX12_moreOf_388 6 rfl rfl (hlt _ (by decide)) rfl ?_
              refine g_goto (tgt := 108) K dX12_moreOf_391 (by decide) ?_
              refine g_sub (L' := [(0, .ref m), (3, .int v_6), (4, .int x4), (5, .int x5), (6, .int 0), (7, .int (x7 + 1))]) [4, 1, 5, 6, 2, 0] rfl ?_
              exact ih a10 a11 v_6 x4 x5 0 (x7 + 1) h
          · have h := hf9 qh; clear ht9 hf9
            refine g_iinc (v := (x6 + (-1))) (L' := [(6, .int (x6 + (-1))), (8, .int v_2), (0, .ref m), (3, .int x3), (4, .int x4), (5, .int x5), (7, .int x7)]) K dX12_moreOf_268 5 rfl rfl (hlt _ (by decide)) rfl ?_
            refine g_aload_n K dX12_moreOf_271 rfl 2 rfl ?_
            refine mg_11 K hin_X12 (u_990) dX12_moreOf_272 ?_
            refine g_iload K dX12_moreOf_275 0 rfl ?_
            refine g_iconst (v := 1) K dX12_moreOf_277 (by decide) ?_
            refine g_isub K dX12_moreOf_278 ?_
            refine g_iload K dX12_moreOf_279 1 rfl ?_
            refine g_bipush (v := (-2)) K dX12_moreOf_281 (by decide) ?_
            obtain ⟨ht9, hf9⟩ := gi_br h; clear h
            refine g_icmp_ne (tgt := 316) K dX12_moreOf_283 (by decide) (fun qh => ?_) (fun qh => ?_)
            · have h := hf9 qh; clear ht9 hf9
              refine g_aload_n K dX12_moreOf_316 rfl 2 rfl ?_
              refine mg_11 K hin_X12 (u_990) dX12_moreOf_317 ?_
              refine g_iload K dX12_moreOf_320 0 rfl ?_
              refine g_iconst (v := 1) K dX12_moreOf_322 (by decide) ?_
              refine g_isub K dX12_moreOf_323 ?_
              obtain ⟨b_7, h⟩ := gi_none h
              refine g_zald (f := a11) K 5 rfl (ginb_in b_7) dX12_moreOf_324 ?_
              obtain ⟨ht9, hf9⟩ := gi_br h; clear h
              refine g_if_ne (tgt := 338) K dX12_moreOf_325 (by decide) (fun qh => ?_) (fun qh => ?_)
              · have h := hf9 qh; clear ht9 hf9
                refine g_iconst (v := 1) K dX12_moreOf_338 (by decide) ?_
                refine g_goto (tgt := 343) K dX12_moreOf_339 (by decide) ?_
                obtain ⟨b_8, h⟩ := gi_none h
                obtain ⟨f_9, ef_9, h⟩ := gi_nm h
                refine g_zast (f := a11) (ws' := mw (g_E Γ) m r o (gu (gu A 10 a10) 11 f_9)) K 5 rfl (ginb_in b_8) dX12_moreOf_343 (by rw [ef_9]; rfl) ?_
                refine g_goto (tgt := 388) K dX12_moreOf_344 (by decide) ?_
                refine g_iinc (v := (x7 + 1)) (L' := [(7, .int (x7 + 1)), (6, .int (x6 + (-1))), (8, .int v_2), (0, .ref m), (3, .int x3), (4, .int x4), (5, .int x5)]) K dX12_moreOf_388 6 rfl rfl (hlt _ (by decide)) rfl ?_
                refine g_goto (tgt := 108) K dX12_moreOf_391 (by decide) ?_
                refine g_sub (L' := [(0, .ref m), (3, .int x3), (4, .int x4), (5, .int x5), (6, .int (x6 + (-1))), (7, .int (x7 + 1))]) [3, 4, 5, 6, 1, 0] rfl ?_
                exact ih a10 f_9 x3 x4 x5 (x6 + (-1)) (x7 + 1) h
              · have h := ht9 qh; clear ht9 hf9
                refine g_aload_n K dX12_moreOf_328 rfl 2 rfl ?_
                refine mg_11 K hin_X12 (u_990) dX12_moreOf_329 ?_
                refine g_iload K dX12_moreOf_332 0 rfl ?_
                obtain ⟨b_10, h⟩ := gi_none h
                refine g_zald (f := a11) K 5 rfl (ginb_in b_10) dX12_moreOf_334 ?_
                obtain ⟨ht9, hf9⟩ := gi_br h; clear h
                refine g_if_eq (tgt := 342) K dX12_moreOf_335 (by decide) (fun qh => ?_) (fun qh => ?_)
                · have h := ht9 qh; clear ht9 hf9
                  refine g_iconst (v := 0) K dX12_moreOf_342 (by decide) ?_
                  obtain ⟨b_11, h⟩ := gi_none h
                  obtain ⟨f_12, ef_12, h⟩ := gi_nm h
                  refine g_zast (f := a11) (ws' := mw (g_E Γ) m r o (gu (gu A 10 a10) 11 f_12)) K 5 rfl (ginb_in b_11) dX12_moreOf_343 (by rw [ef_12]; rfl) ?_
                  refine g_goto (tgt := 388) K dX12_moreOf_344 (by decide) ?_
                  refine g_iinc (v := (x7 + 1)) (L' := [(7, .int (x7 + 1)), (6, .int (x6 + (-1))), (8, .int v_2), (0, .ref m), (3, .int x3), (4, .int x4), (5, .int x5)]) K dX12_moreOf_388 6 rfl rfl (hlt _ (by decide)) rfl ?_
                  refine g_goto (tgt := 108) K dX12_moreOf_391 (by decide) ?_
                  refine g_sub (L' := [(0, .ref m), (3, .int x3), (4, .int x4), (5, .int x5), (6, .int (x6 + (-1))), (7, .int (x7 + 1))]) [3, 4, 5, 6, 1, 0] rfl ?_
                  exact ih a10 f_12 x3 x4 x5 (x6 + (-1)) (x7 + 1) h
                · have h := hf9 qh; clear ht9 hf9
                  refine g_iconst (v := 1) K dX12_moreOf_338 (by decide) ?_
                  refine g_goto (tgt := 343) K dX12_moreOf_339 (by decide) ?_
                  obtain ⟨b_13, h⟩ := gi_none h
                  obtain ⟨f_14, ef_14, h⟩ := gi_nm h
                  refine g_zast (f := a11) (ws' := mw (g_E Γ) m r o (gu (gu A 10 a10) 11 f_14)) K 5 rfl (ginb_in b_13) dX12_moreOf_343 (by rw [ef_14]; rfl) ?_
                  refine g_goto (tgt := 388) K dX12_moreOf_344 (by decide) ?_
                  refine g_iinc (v := (x7 + 1)) (L' := [(7, .int (x7 + 1)), (6, .int (x6 + (-1))), (8, .int v_2), (0, .ref m), (3, .int x3), (4, .int x4), (5, .int x5)]) K dX12_moreOf_388 6 rfl rfl (hlt _ (by decide)) rfl ?_
                  refine g_goto (tgt := 108) K dX12_moreOf_391 (by decide) ?_
                  refine g_sub (L' := [(0, .ref m), (3, .int x3), (4, .int x4), (5, .int x5), (6, .int (x6 + (-1))), (7, .int (x7 + 1))]) [3, 4, 5, 6, 1, 0] rfl ?_
                  exact ih a10 f_14 x3 x4 x5 (x6 + (-1)) (x7 + 1) h
            · have h := ht9 qh; clear ht9 hf9
              refine g_aload_n K dX12_moreOf_286 rfl 2 rfl ?_
              refine mg_11 K hin_X12 (u_990) dX12_moreOf_287 ?_
              refine g_iload K dX12_moreOf_290 0 rfl ?_
              refine g_iconst (v := 1) K dX12_moreOf_292 (by decide) ?_
              refine g_isub K dX12_moreOf_293 ?_
              obtain ⟨b_15, h⟩ := gi_none h
              refine g_zald (f := a11) K 5 rfl (ginb_in b_15) dX12_moreOf_294 ?_
              obtain ⟨ht9, hf9⟩ := gi_br h; clear h
              refine g_if_eq (tgt := 312) K dX12_moreOf_295 (by decide) (fun qh => ?_) (fun qh => ?_)
              · have h := ht9 qh; clear ht9 hf9
                refine g_iconst (v := 0) K dX12_moreOf_312 (by decide) ?_
                refine g_goto (tgt := 343) K dX12_moreOf_313 (by decide) ?_
                obtain ⟨b_16, h⟩ := gi_none h
                obtain ⟨f_17, ef_17, h⟩ := gi_nm h
                refine g_zast (f := a11) (ws' := mw (g_E Γ) m r o (gu (gu A 10 a10) 11 f_17)) K 5 rfl (ginb_in b_16) dX12_moreOf_343 (by rw [ef_17]; rfl) ?_
                refine g_goto (tgt := 388) K dX12_moreOf_344 (by decide) ?_
                refine g_iinc (v := (x7 + 1)) (L' := [(7, .int (x7 + 1)), (6, .int (x6 + (-1))), (8, .int v_2), (0, .ref m), (3, .int x3), (4, .int x4), (5, .int x5)]) K dX12_moreOf_388 6 rfl rfl (hlt _ (by decide)) rfl ?_
                refine g_goto (tgt := 108) K dX12_moreOf_391 (by decide) ?_
                refine g_sub (L' := [(0, .ref m), (3, .int x3), (4, .int x4), (5, .int x5), (6, .int (x6 + (-1))), (7, .int (x7 + 1))]) [3, 4, 5, 6, 1, 0] rfl ?_
                exact ih a10 f_17 x3 x4 x5 (x6 + (-1)) (x7 + 1) h
              · have h := hf9 qh; clear ht9 hf9
                refine g_aload_n K dX12_moreOf_298 rfl 2 rfl ?_
                refine mg_11 K hin_X12 (u_990) dX12_moreOf_299 ?_
                refine g_iload K dX12_moreOf_302 0 rfl ?_
                obtain ⟨b_18, h⟩ := gi_none h
                refine g_zald (f := a11) K 5 rfl (ginb_in b_18) dX12_moreOf_304 ?_
                obtain ⟨ht9, hf9⟩ := gi_br h; clear h
                refine g_if_eq (tgt := 312) K dX12_moreOf_305 (by decide) (fun qh => ?_) (fun qh => ?_)
                · have h := ht9 qh; clear ht9 hf9
                  refine g_iconst (v := 0) K dX12_moreOf_312 (by decide) ?_
                  refine g_goto (tgt := 343) K dX12_moreOf_313 (by decide) ?_
                  obtain ⟨b_19, h⟩ := gi_none h
                  obtain ⟨f_20, ef_20, h⟩ := gi_nm h
                  refine g_zast (f := a11) (ws' := mw (g_E Γ) m r o (gu (gu A 10 a10) 11 f_20)) K 5 rfl (ginb_in b_19) dX12_moreOf_343 (by rw [ef_20]; rfl) ?_
                  refine g_goto (tgt := 388) K dX12_moreOf_344 (by decide) ?_
                  refine g_iinc (v := (x7 + 1)) (L' := [(7, .int (x7 + 1)), (6, .int (x6 + (-1))), (8, .int v_2), (0, .ref m), (3, .int x3), (4, .int x4), (5, .int x5)]) K dX12_moreOf_388 6 rfl rfl (hlt _ (by decide)) rfl ?_
                  refine g_goto (tgt := 108) K dX12_moreOf_391 (by decide) ?_
                  refine g_sub (L' := [(0, .ref m), (3, .int x3), (4, .int x4), (5, .int x5), (6, .int (x6 + (-1))), (7, .int (x7 + 1))]) [3, 4, 5, 6, 1, 0] rfl ?_
                  exact ih a10 f_20 x3 x4 x5 (x6 + (-1)) (x7 + 1) h
                · have h := hf9 qh; clear ht9 hf9
                  refine g_iconst (v := 1) K dX12_moreOf_308 (by decide) ?_
                  refine g_goto (tgt := 343) K dX12_moreOf_309 (by decide) ?_
                  obtain ⟨b_21, h⟩ := gi_none h
                  obtain ⟨f_22, ef_22, h⟩ := gi_nm h
                  refine g_zast (f := a11) (ws' := mw (g_E Γ) m r o (gu (gu A 10 a10) 11 f_22)) K 5 rfl (ginb_in b_21) dX12_moreOf_343 (by rw [ef_22]; rfl) ?_
                  refine g_goto (tgt := 388) K dX12_moreOf_344 (by decide) ?_
                  refine g_iinc (v := (x7 + 1)) (L' := [(7, .int (x7 + 1)), (6, .int (x6 + (-1))), (8, .int v_2), (0, .ref m), (3, .int x3), (4, .int x4), (5, .int x5)]) K dX12_moreOf_388 6 rfl rfl (hlt _ (by decide)) rfl ?_
                  refine g_goto (tgt := 108) K dX12_moreOf_391 (by decide) ?_
                  refine g_sub (L' := [(0, .ref m), (3, .int x3), (4, .int x4), (5, .int x5), (6, .int (x6 + (-1))), (7, .int (x7 + 1))]) [3, 4, 5, 6, 1, 0] rfl ?_
                  exact ih a10 f_22 x3 x4 x5 (x6 + (-1)) (x7 + 1) h
        · have h := ht9 qh; clear ht9 hf9
          refine g_aload_n K dX12_moreOf_232 rfl 1 rfl ?_
          refine mg_11 K hin_X12 (u_990) dX12_moreOf_233 ?_
          refine g_iload K dX12_moreOf_236 5 rfl ?_
          refine g_iconst (v := 1) K dX12_moreOf_238 (by decide) ?_
          refine g_isub K dX12_moreOf_239 ?_
          refine g_aload_n K dX12_moreOf_240 rfl 1 rfl ?_
          refine mg_11 K hin_X12 (u_990) dX12_moreOf_241 ?_
          refine g_iload K dX12_moreOf_244 5 rfl ?_
          refine g_iconst (v := 1) K dX12_moreOf_246 (by decide) ?_
          refine g_isub K dX12_moreOf_247 ?_
          obtain ⟨b_23, h⟩ := gi_none h
          refine g_zald (f := a11) K 5 rfl (ginb_in b_23) dX12_moreOf_248 ?_
          obtain ⟨ht9, hf9⟩ := gi_br h; clear h
          refine g_if_ne (tgt := 256) K dX12_moreOf_249 (by decide) (fun qh => ?_) (fun qh => ?_)
          · have h := hf9 qh; clear ht9 hf9
            refine g_iconst (v := 0) K dX12_moreOf_256 (by decide) ?_
            obtain ⟨b_24, h⟩ := gi_none h
            obtain ⟨f_25, ef_25, h⟩ := gi_nm h
            refine g_zast (f := a11) (ws' := mw (g_E Γ) m r o (gu (gu A 10 a10) 11 f_25)) K 5 rfl (ginb_in b_24) dX12_moreOf_257 (by rw [ef_25]; rfl) ?_
            refine g_goto (tgt := 388) K dX12_moreOf_258 (by decide) ?_
            refine g_iinc (v := (x7 + 1)) (L' := [(7, .int (x7 + 1)), (8, .int v_2), (0, .ref m), (3, .int x3), (4, .int x4), (5, .int x5), (6, .int x6)]) K dX12_moreOf_388 6 rfl rfl (hlt _ (by decide)) rfl ?_
            refine g_goto (tgt := 108) K dX12_moreOf_391 (by decide) ?_
            refine g_sub (L' := [(0, .ref m), (3, .int x3), (4, .int x4), (5, .int x5), (6, .int x6), (7, .int (x7 + 1))]) [2, 3, 4, 5, 6, 0] rfl ?_
            exact ih a10 f_25 x3 x4 x5 x6 (x7 + 1) h
          · have h := ht9 qh; clear ht9 hf9
            refine g_iconst (v := 1) K dX12_moreOf_252 (by decide) ?_
            refine g_goto (tgt := 257) K dX12_moreOf_253 (by decide) ?_
            obtain ⟨b_26, h⟩ := gi_none h
            obtain ⟨f_27, ef_27, h⟩ := gi_nm h
            refine g_zast (f := a11) (ws' := mw (g_E Γ) m r o (gu (gu A 10 a10) 11 f_27)) K 5 rfl (ginb_in b_26) dX12_moreOf_257 (by rw [ef_27]; rfl) ?_
            refine g_goto (tgt := 388) K dX12_moreOf_258 (by decide) ?_
            refine g_iinc (v := (x7 + 1)) (L' := [(7, .int (x7 + 1)), (8, .int v_2), (0, .ref m), (3, .int x3), (4, .int x4), (5, .int x5), (6, .int x6)]) K dX12_moreOf_388 6 rfl rfl (hlt _ (by decide)) rfl ?_
            refine g_goto (tgt := 108) K dX12_moreOf_391 (by decide) ?_
            refine g_sub (L' := [(0, .ref m), (3, .int x3), (4, .int x4), (5, .int x5), (6, .int x6), (7, .int (x7 + 1))]) [2, 3, 4, 5, 6, 0] rfl ?_
            exact ih a10 f_27 x3 x4 x5 x6 (x7 + 1) h
      · have h := hf9 qh; clear ht9 hf9
        refine g_aload_n K dX12_moreOf_132 rfl 1 rfl ?_
        refine mg_10 K hin_X12 (u_989) dX12_moreOf_133 ?_
        refine g_iload K dX12_moreOf_136 0 rfl ?_
        refine g_bipush (v := 8) K dX12_moreOf_138 (by decide) ?_
        refine g_irem K dX12_moreOf_140 (by decide) ?_
        obtain ⟨b_29, h⟩ := gi_none h
        refine g_iald (f := a10) K 4 rfl (ginb_in b_29) dX12_moreOf_141 ?_
        obtain ⟨v_30, ev_30, h⟩ := gi_nm h
        refine g_topi ev_30 ?_
        refine g_istore (L' := [(9, .int v_30), (8, .int v_2), (0, .ref m), (3, .int x3), (4, .int x4), (5, .int x5), (6, .int x6), (7, .int x7)]) K dX12_moreOf_142 (hlt _ (by decide)) rfl ?_
        refine g_iload K dX12_moreOf_144 1 rfl ?_
        refine g_bipush (v := 8) K dX12_moreOf_146 (by decide) ?_
        refine g_idiv K dX12_moreOf_148 (by decide) ?_
        refine g_iconst (v := 4) K dX12_moreOf_149 (by decide) ?_
        refine g_irem K dX12_moreOf_150 (by decide) ?_
        obtain ⟨v_33, ev_33, h⟩ := gi_nm h
        refine g_topi ev_33 ?_
        refine g_istore (L' := [(10, .int v_33), (9, .int v_30), (8, .int v_2), (0, .ref m), (3, .int x3), (4, .int x4), (5, .int x5), (6, .int x6), (7, .int x7)]) K dX12_moreOf_151 (hlt _ (by decide)) rfl ?_
        refine g_iload K dX12_moreOf_153 2 rfl ?_
        refine g_bipush (v := 32) K dX12_moreOf_155 (by decide) ?_
        refine g_idiv K dX12_moreOf_157 (by decide) ?_
        obtain ⟨v_35, ev_35, h⟩ := gi_nm h
        refine g_topi ev_35 ?_
        refine g_istore (L' := [(11, .int v_35), (10, .int v_33), (9, .int v_30), (8, .int v_2), (0, .ref m), (3, .int x3), (4, .int x4), (5, .int x5), (6, .int x6), (7, .int x7)]) K dX12_moreOf_158 (hlt _ (by decide)) rfl ?_
        refine g_aload_n K dX12_moreOf_160 rfl 4 rfl ?_
        refine mg_11 K hin_X12 (u_990) dX12_moreOf_161 ?_
        refine g_iload K dX12_moreOf_164 8 rfl ?_
        refine g_iload K dX12_moreOf_166 1 rfl ?_
        obtain ⟨ht9, hf9⟩ := gi_br h; clear h
        refine g_if_ne (tgt := 186) K dX12_moreOf_168 (by decide) (fun qh => ?_) (fun qh => ?_)
        · have h := hf9 qh; clear ht9 hf9
          refine g_iload K dX12_moreOf_186 1 rfl ?_
          refine g_iconst (v := 1) K dX12_moreOf_188 (by decide) ?_
          obtain ⟨ht9, hf9⟩ := gi_br h; clear h
          refine g_icmp_ne (tgt := 207) K dX12_moreOf_189 (by decide) (fun qh => ?_) (fun qh => ?_)
          · have h := hf9 qh; clear ht9 hf9
            refine g_iload K dX12_moreOf_207 2 rfl ?_
            refine g_iload K dX12_moreOf_209 0 rfl ?_
            obtain ⟨ht9, hf9⟩ := gi_br h; clear h
            refine g_icmp_le (tgt := 218) K dX12_moreOf_211 (by decide) (fun qh => ?_) (fun qh => ?_)
            · have h := ht9 qh; clear ht9 hf9
              refine g_iconst (v := 0) K dX12_moreOf_218 (by decide) ?_
              obtain ⟨b_36, h⟩ := gi_none h
              obtain ⟨f_37, ef_37, h⟩ := gi_nm h
              refine g_zast (f := a11) (ws' := mw (g_E Γ) m r o (gu (gu A 10 a10) 11 f_37)) K 5 rfl (ginb_in b_36) dX12_moreOf_219 (by rw [ef_37]; rfl) ?_
              refine g_iinc (v := (x6 + 1)) (L' := [(6, .int (x6 + 1)), (11, .int v_35), (10, .int v_33), (9, .int v_30), (8, .int v_2), (0, .ref m), (3, .int x3), (4, .int x4), (5, .int x5), (7, .int x7)]) K dX12_moreOf_220 8 rfl rfl (hlt _ (by decide)) rfl ?_
              refine g_goto (tgt := 388) K dX12_moreOf_223 (by decide) ?_
              refine g_iinc (v := (x7 + 1)) (L' := [(7, .int (x7 + 1)), (6, .int (x6 + 1)), (11, .int v_35), (10, .int v_33), (9, .int v_30), (8, .int v_2), (0, .ref m), (3, .int x3), (4, .int x4), (5, .int x5)]) K dX12_moreOf_388 9 rfl rfl (hlt _ (by decide)) rfl ?_
              refine g_goto (tgt := 108) K dX12_moreOf_391 (by decide) ?_
              refine g_sub (L' := [(0, .ref m), (3, .int x3), (4, .int x4), (5, .int x5), (6, .int (x6 + 1)), (7, .int (x7 + 1))]) [6, 7, 8, 9, 1, 0] rfl ?_
              exact ih a10 f_37 x3 x4 x5 (x6 + 1) (x7 + 1) h
            · have h := hf9 qh; clear ht9 hf9
              refine g_iconst (v := 1) K dX12_moreOf_214 (by decide) ?_
              refine g_goto (tgt := 219) K dX12_moreOf_215 (by decide) ?_
              obtain ⟨b_38, h⟩ := gi_none h
              obtain ⟨f_39, ef_39, h⟩ := gi_nm h
              refine g_zast (f := a11) (ws' := mw (g_E Γ) m r o (gu (gu A 10 a10) 11 f_39)) K 5 rfl (ginb_in b_38) dX12_moreOf_219 (by rw [ef_39]; rfl) ?_
              refine g_iinc (v := (x6 + 1)) (L' := [(6, .int (x6 + 1)), (11, .int v_35), (10, .int v_33), (9, .int v_30), (8, .int v_2), (0, .ref m), (3, .int x3), (4, .int x4), (5, .int x5), (7, .int x7)]) K dX12_moreOf_220 8 rfl rfl (hlt _ (by decide)) rfl ?_
              refine g_goto (tgt := 388) K dX12_moreOf_223 (by decide) ?_
              refine g_iinc (v := (x7 + 1)) (L' := [(7, .int (x7 + 1)), (6, .int (x6 + 1)), (11, .int v_35), (10, .int v_33), (9, .int v_30), (8, .int v_2), (0, .ref m), (3, .int x3), (4, .int x4), (5, .int x5)]) K dX12_moreOf_388 9 rfl rfl (hlt _ (by decide)) rfl ?_
              refine g_goto (tgt := 108) K dX12_moreOf_391 (by decide) ?_
              refine g_sub (L' := [(0, .ref m), (3, .int x3), (4, .int x4), (5, .int x5), (6, .int (x6 + 1)), (7, .int (x7 + 1))]) [6, 7, 8, 9, 1, 0] rfl ?_
              exact ih a10 f_39 x3 x4 x5 (x6 + 1) (x7 + 1) h
          · have h := ht9 qh; clear ht9 hf9
            refine g_iload K dX12_moreOf_192 2 rfl ?_
            refine g_iload K dX12_moreOf_194 0 rfl ?_
            obtain ⟨ht9, hf9⟩ := gi_br h; clear h
            refine g_icmp_ne (tgt := 203) K dX12_moreOf_196 (by decide) (fun qh => ?_) (fun qh => ?_)
            · have h := hf9 qh; clear ht9 hf9
              refine g_iconst (v := 0) K dX12_moreOf_203 (by decide) ?_
              refine g_goto (tgt := 219) K dX12_moreOf_204 (by decide) ?_
              obtain ⟨b_40, h⟩ := gi_none h
              obtain ⟨f_41, ef_41, h⟩ := gi_nm h
              refine g_zast (f := a11) (ws' := mw (g_E Γ) m r o (gu (gu A 10 a10) 11 f_41)) K 5 rfl (ginb_in b_40) dX12_moreOf_219 (by rw [ef_41]; rfl) ?_
              refine g_iinc (v := (x6 + 1)) (L' := [(6, .int (x6 + 1)), (11, .int v_35), (10, .int v_33), (9, .int v_30), (8, .int v_2), (0, .ref m), (3, .int x3), (4, .int x4), (5, .int x5), (7, .int x7)]) K dX12_moreOf_220 8 rfl rfl (hlt _ (by decide)) rfl ?_
              refine g_goto (tgt := 388) K dX12_moreOf_223 (by decide) ?_
              refine g_iinc (v := (x7 + 1)) (L' := [(7, .int (x7 + 1)), (6, .int (x6 + 1)), (11, .int v_35), (10, .int v_33), (9, .int v_30), (8, .int v_2), (0, .ref m), (3, .int x3), (4, .int x4), (5, .int x5)]) K dX12_moreOf_388 9 rfl rfl (hlt _ (by decide)) rfl ?_
              refine g_goto (tgt := 108) K dX12_moreOf_391 (by decide) ?_
              refine g_sub (L' := [(0, .ref m), (3, .int x3), (4, .int x4), (5, .int x5), (6, .int (x6 + 1)), (7, .int (x7 + 1))]) [6, 7, 8, 9, 1, 0] rfl ?_
              exact ih a10 f_41 x3 x4 x5 (x6 + 1) (x7 + 1) h
            · have h := ht9 qh; clear ht9 hf9
              refine g_iconst (v := 1) K dX12_moreOf_199 (by decide) ?_
              refine g_goto (tgt := 219) K dX12_moreOf_200 (by decide) ?_
              obtain ⟨b_42, h⟩ := gi_none h
              obtain ⟨f_43, ef_43, h⟩ := gi_nm h
              refine g_zast (f := a11) (ws' := mw (g_E Γ) m r o (gu (gu A 10 a10) 11 f_43)) K 5 rfl (ginb_in b_42) dX12_moreOf_219 (by rw [ef_43]; rfl) ?_
              refine g_iinc (v := (x6 + 1)) (L' := [(6, .int (x6 + 1)), (11, .int v_35), (10, .int v_33), (9, .int v_30), (8, .int v_2), (0, .ref m), (3, .int x3), (4, .int x4), (5, .int x5), (7, .int x7)]) K dX12_moreOf_220 8 rfl rfl (hlt _ (by decide)) rfl ?_
              refine g_goto (tgt := 388) K dX12_moreOf_223 (by decide) ?_
              refine g_iinc (v := (x7 + 1)) (L' := [(7, .int (x7 + 1)), (6, .int (x6 + 1)), (11, .int v_35), (10, .int v_33), (9, .int v_30), (8, .int v_2), (0, .ref m), (3, .int x3), (4, .int x4), (5, .int x5)]) K dX12_moreOf_388 9 rfl rfl (hlt _ (by decide)) rfl ?_
              refine g_goto (tgt := 108) K dX12_moreOf_391 (by decide) ?_
              refine g_sub (L' := [(0, .ref m), (3, .int x3), (4, .int x4), (5, .int x5), (6, .int (x6 + 1)), (7, .int (x7 + 1))]) [6, 7, 8, 9, 1, 0] rfl ?_
              exact ih a10 f_43 x3 x4 x5 (x6 + 1) (x7 + 1) h
        · have h := ht9 qh; clear ht9 hf9
          refine g_iload K dX12_moreOf_171 2 rfl ?_
          refine g_iload K dX12_moreOf_173 0 rfl ?_
          obtain ⟨ht9, hf9⟩ := gi_br h; clear h
          refine g_icmp_ge (tgt := 182) K dX12_moreOf_175 (by decide) (fun qh => ?_) (fun qh => ?_)
          · have h := ht9 qh; clear ht9 hf9
            refine g_iconst (v := 0) K dX12_moreOf_182 (by decide) ?_
            refine g_goto (tgt := 219) K dX12_moreOf_183 (by decide) ?_
            obtain ⟨b_44, h⟩ := gi_none h
            obtain ⟨f_45, ef_45, h⟩ := gi_nm h
            refine g_zast (f := a11) (ws' := mw (g_E Γ) m r o (gu (gu A 10 a10) 11 f_45)) K 5 rfl (ginb_in b_44) dX12_moreOf_219 (by rw [ef_45]; rfl) ?_
            refine g_iinc (v := (x6 + 1)) (L' := [(6, .int (x6 + 1)), (11, .int v_35), (10, .int v_33), (9, .int v_30), (8, .int v_2), (0, .ref m), (3, .int x3), (4, .int x4), (5, .int x5), (7, .int x7)]) K dX12_moreOf_220 8 rfl rfl (hlt _ (by decide)) rfl ?_
            refine g_goto (tgt := 388) K dX12_moreOf_223 (by decide) ?_
            refine g_iinc (v := (x7 + 1)) (L' := [(7, .int (x7 + 1)), (6, .int (x6 + 1)), (11, .int v_35), (10, .int v_33), (9, .int v_30), (8, .int v_2), (0, .ref m), (3, .int x3), (4, .int x4), (5, .int x5)]) K dX12_moreOf_388 9 rfl rfl (hlt _ (by decide)) rfl ?_
            refine g_goto (tgt := 108) K dX12_moreOf_391 (by decide) ?_
            refine g_sub (L' := [(0, .ref m), (3, .int x3), (4, .int x4), (5, .int x5), (6, .int (x6 + 1)), (7, .int (x7 + 1))]) [6, 7, 8, 9, 1, 0] rfl ?_
            exact ih a10 f_45 x3 x4 x5 (x6 + 1) (x7 + 1) h
          · have h := hf9 qh; clear ht9 hf9
            refine g_iconst (v := 1) K dX12_moreOf_178 (by decide) ?_
            refine g_goto (tgt := 219) K dX12_moreOf_179 (by decide) ?_
            obtain ⟨b_46, h⟩ := gi_none h
            obtain ⟨f_47, ef_47, h⟩ := gi_nm h
            refine g_zast (f := a11) (ws' := mw (g_E Γ) m r o (gu (gu A 10 a10) 11 f_47)) K 5 rfl (ginb_in b_46) dX12_moreOf_219 (by rw [ef_47]; rfl) ?_
            refine g_iinc (v := (x6 + 1)) (L' := [(6, .int (x6 + 1)), (11, .int v_35), (10, .int v_33), (9, .int v_30), (8, .int v_2), (0, .ref m), (3, .int x3), (4, .int x4), (5, .int x5), (7, .int x7)]) K dX12_moreOf_220 8 rfl rfl (hlt _ (by decide)) rfl ?_
            refine g_goto (tgt := 388) K dX12_moreOf_223 (by decide) ?_
            refine g_iinc (v := (x7 + 1)) (L' := [(7, .int (x7 + 1)), (6, .int (x6 + 1)), (11, .int v_35), (10, .int v_33), (9, .int v_30), (8, .int v_2), (0, .ref m), (3, .int x3), (4, .int x4), (5, .int x5)]) K dX12_moreOf_388 9 rfl rfl (hlt _ (by decide)) rfl ?_
            refine g_goto (tgt := 108) K dX12_moreOf_391 (by decide) ?_
            refine g_sub (L' := [(0, .ref m), (3, .int x3), (4, .int x4), (5, .int x5), (6, .int (x6 + 1)), (7, .int (x7 + 1))]) [6, 7, 8, 9, 1, 0] rfl ?_
            exact ih a10 f_47 x3 x4 x5 (x6 + 1) (x7 + 1) h

set_option maxHeartbeats 4000000 in
set_option maxRecDepth 100000 in
theorem wX12_moreOf {Γ : gT} {m : Nat} {r : Nat → Nat} {o : Nat → Int32} {A : Nat → Nat → Int32} (K : gOK Γ cX12_moreOf gU RX12) (hlt : ∀ i, i < 12 → i < g_n Γ) (hRm : g_R Γ = ({ frames := 5, cells := 0, slots := 0, locals := 173 } : Room)) {res : Int32 × ((Nat → Int32)) × ((Nat → Int32))} (hret : ∀ (pc : Nat) (L : List (Nat × Value)) (v : Int32) (w : va_W), decode cX12_moreOf pc = .ok (.ireturn, 1) → narrow .int (.int v) = .int v → (v = res.1 ∧ w = mw (g_E Γ) m r o (gu (gu A 10 res.2.1) 11 res.2.2)) → gGO Γ 0 0 pc L [.int v] w) (a10 : (Nat → Int32)) (a11 : (Nat → Int32)) (x1 : Int32) (x2 : Int32) (h : pX12_moreOf (A 1) a10 a11 x1 x2 = some res) : gGO Γ 0 0 0 [(0, .ref m), (1, .int x1), (2, .int x2)] [] (mw (g_E Γ) m r o (gu (gu A 10 a10) 11 a11)) := by
    unfold pX12_moreOf at h
    refine g_aload_n K dX12_moreOf_0 rfl 0 rfl ?_
    refine mg_10 K hin_X12 (u_989) dX12_moreOf_1 ?_
    refine g_iconst (v := 0) K dX12_moreOf_4 (by decide) ?_
    refine g_iload_n K dX12_moreOf_5 rfl 1 rfl ?_
    obtain ⟨b_1, h⟩ := gi_none h
    obtain ⟨f_2, ef_2, h⟩ := gi_nm h
    refine g_iast (f := a10) (ws' := mw (g_E Γ) m r o (gu (gu A 10 f_2) 11 a11)) K 4 rfl (ginb_in b_1) dX12_moreOf_6 (by rw [ef_2]; rfl) ?_
    refine g_aload_n K dX12_moreOf_7 rfl 0 rfl ?_
    refine mg_10 K hin_X12 (u_989) dX12_moreOf_8 ?_
    refine g_iconst (v := 1) K dX12_moreOf_11 (by decide) ?_
    refine g_iload_n K dX12_moreOf_12 rfl 2 rfl ?_
    obtain ⟨b_3, h⟩ := gi_none h
    obtain ⟨f_4, ef_4, h⟩ := gi_nm h
    refine g_iast (f := f_2) (ws' := mw (g_E Γ) m r o (gu (gu A 10 f_4) 11 a11)) K 4 rfl (ginb_in b_3) dX12_moreOf_13 (by rw [ef_4]; rfl) ?_
    refine g_aload_n K dX12_moreOf_14 rfl 0 rfl ?_
    refine mg_10 K hin_X12 (u_989) dX12_moreOf_15 ?_
    refine g_iconst (v := 2) K dX12_moreOf_18 (by decide) ?_
    refine g_aload_n K dX12_moreOf_19 rfl 0 rfl ?_
    refine mg_1 K hin_X12 (u_980) dX12_moreOf_20 ?_
    refine g_bipush (v := 60) K dX12_moreOf_23 (by decide) ?_
    refine g_iload_n K dX12_moreOf_25 rfl 2 rfl ?_
    refine g_iadd K dX12_moreOf_26 ?_
    obtain ⟨b_5, h⟩ := gi_none h
    refine g_iald (f := (A 1)) K 1 rfl (ginb_in b_5) dX12_moreOf_27 ?_
    obtain ⟨b_6, h⟩ := gi_none h
    obtain ⟨f_7, ef_7, h⟩ := gi_nm h
    refine g_iast (f := f_4) (ws' := mw (g_E Γ) m r o (gu (gu A 10 f_7) 11 a11)) K 4 rfl (ginb_in b_6) dX12_moreOf_28 (by rw [ef_7]; rfl) ?_
    refine g_aload_n K dX12_moreOf_29 rfl 0 rfl ?_
    refine mg_10 K hin_X12 (u_989) dX12_moreOf_30 ?_
    refine g_iconst (v := 3) K dX12_moreOf_33 (by decide) ?_
    refine g_aload_n K dX12_moreOf_34 rfl 0 rfl ?_
    refine mg_1 K hin_X12 (u_980) dX12_moreOf_35 ?_
    refine g_iconst (v := 1) K dX12_moreOf_38 (by decide) ?_
    refine g_iload_n K dX12_moreOf_39 rfl 1 rfl ?_
    refine g_iadd K dX12_moreOf_40 ?_
    obtain ⟨b_8, h⟩ := gi_none h
    refine g_iald (f := (A 1)) K 1 rfl (ginb_in b_8) dX12_moreOf_41 ?_
    refine g_bipush (v := 10) K dX12_moreOf_42 (by decide) ?_
    refine g_idiv K dX12_moreOf_44 (by decide) ?_
    obtain ⟨b_10, h⟩ := gi_none h
    obtain ⟨f_11, ef_11, h⟩ := gi_nm h
    refine g_iast (f := f_7) (ws' := mw (g_E Γ) m r o (gu (gu A 10 f_11) 11 a11)) K 4 rfl (ginb_in b_10) dX12_moreOf_45 (by rw [ef_11]; rfl) ?_
    refine g_aload_n K dX12_moreOf_46 rfl 0 rfl ?_
    refine mg_10 K hin_X12 (u_989) dX12_moreOf_47 ?_
    refine g_iconst (v := 4) K dX12_moreOf_50 (by decide) ?_
    refine g_aload_n K dX12_moreOf_51 rfl 0 rfl ?_
    refine mg_1 K hin_X12 (u_980) dX12_moreOf_52 ?_
    refine g_iconst (v := 0) K dX12_moreOf_55 (by decide) ?_
    obtain ⟨b_12, h⟩ := gi_none h
    refine g_iald (f := (A 1)) K 1 rfl (ginb_in b_12) dX12_moreOf_56 ?_
    refine g_bipush (v := 10) K dX12_moreOf_57 (by decide) ?_
    refine g_irem K dX12_moreOf_59 (by decide) ?_
    obtain ⟨b_14, h⟩ := gi_none h
    obtain ⟨f_15, ef_15, h⟩ := gi_nm h
    refine g_iast (f := f_11) (ws' := mw (g_E Γ) m r o (gu (gu A 10 f_15) 11 a11)) K 4 rfl (ginb_in b_14) dX12_moreOf_60 (by rw [ef_15]; rfl) ?_
    refine g_aload_n K dX12_moreOf_61 rfl 0 rfl ?_
    refine mg_10 K hin_X12 (u_989) dX12_moreOf_62 ?_
    refine g_iconst (v := 5) K dX12_moreOf_65 (by decide) ?_
    refine g_aload_n K dX12_moreOf_66 rfl 0 rfl ?_
    refine g_iload_n K dX12_moreOf_67 rfl 2 rfl ?_
    obtain ⟨z_16, hz_16, h⟩ := gi_bd h
    refine g_callVi (As := [.int x2]) (bytes := cX12_teamOf) (maxL := 4) (ret := (some .int)) K (ctX12_teamOf o (gu (gu A 10 f_15) 11 a11) x2 (res := z_16) hz_16) gc_V_RX12_142_X12_teamOf rfl qv_X12_teamOf 0 rfl rfl rfl hRm rfl rfl rfl (by decide) (Nat.le_of_ble_eq_true rfl) (by decide) dX12_moreOf_68 (fun v w hw => ?_)
    obtain ⟨hv9, rfl⟩ := hw; have hv9 := hv9.symm; subst hv9
    obtain ⟨b_17, h⟩ := gi_none h
    obtain ⟨f_18, ef_18, h⟩ := gi_nm h
    refine g_iast (f := f_15) (ws' := mw (g_E Γ) m r o (gu (gu A 10 f_18) 11 a11)) K 4 rfl (ginb_in b_17) dX12_moreOf_71 (by rw [ef_18]; rfl) ?_
    refine g_iconst (v := 0) K dX12_moreOf_72 (by decide) ?_
    refine g_istore_n (L' := [(3, .int 0), (0, .ref m), (1, .int x1), (2, .int x2)]) K dX12_moreOf_73 rfl (hlt _ (by decide)) rfl ?_
    refine g_aload_n K dX12_moreOf_74 rfl 1 rfl ?_
    refine g_sipush (v := 247) K dX12_moreOf_75 (by decide) ?_
    refine g_iconst (v := 0) K dX12_moreOf_78 (by decide) ?_
    obtain ⟨z_19, hz_19, h⟩ := gi_bd h
    refine g_callVi (As := [.int 247, .int 0]) (bytes := cX12_tellsOf) (maxL := 3) (ret := (some .int)) K (ctX12_tellsOf o (gu (gu A 10 f_18) 11 a11) 247 0 (res := z_19) hz_19) gc_V_RX12_134_X12_tellsOf rfl qv_X12_tellsOf 0 rfl rfl rfl hRm rfl rfl rfl (by decide) (Nat.le_of_ble_eq_true rfl) (by decide) dX12_moreOf_79 (fun v w hw => ?_)
    obtain ⟨hv9, rfl⟩ := hw; have hv9 := hv9.symm; subst hv9
    refine g_istore (L' := [(4, .int z_19), (3, .int 0), (0, .ref m), (1, .int x1), (2, .int x2)]) K dX12_moreOf_82 (hlt _ (by decide)) rfl ?_
    refine g_sipush (v := 252) K dX12_moreOf_84 (by decide) ?_
    refine g_sipush (v := 140) K dX12_moreOf_87 (by decide) ?_
    refine g_aload_n K dX12_moreOf_90 rfl 2 rfl ?_
    refine mg_1 K hin_X12 (u_980) dX12_moreOf_91 ?_
    refine g_bipush (v := 56) K dX12_moreOf_94 (by decide) ?_
    obtain ⟨b_20, h⟩ := gi_none h
    refine g_iald (f := (A 1)) K 1 rfl (ginb_in b_20) dX12_moreOf_96 ?_
    refine g_imul K dX12_moreOf_97 ?_
    refine g_iadd K dX12_moreOf_98 ?_
    obtain ⟨v_21, ev_21, h⟩ := gi_nm h
    refine g_topi ev_21 ?_
    refine g_istore (L' := [(5, .int v_21), (4, .int z_19), (3, .int 0), (0, .ref m), (1, .int x1), (2, .int x2)]) K dX12_moreOf_99 (hlt _ (by decide)) rfl ?_
    refine g_iconst (v := 0) K dX12_moreOf_101 (by decide) ?_
    refine g_istore (L' := [(6, .int 0), (5, .int v_21), (4, .int z_19), (3, .int 0), (0, .ref m), (1, .int x1), (2, .int x2)]) K dX12_moreOf_102 (hlt _ (by decide)) rfl ?_
    refine g_iload K dX12_moreOf_104 1 rfl ?_
    refine g_istore (L' := [(7, .int v_21), (6, .int 0), (5, .int v_21), (4, .int z_19), (3, .int 0), (0, .ref m), (1, .int x1), (2, .int x2)]) K dX12_moreOf_106 (hlt _ (by decide)) rfl ?_
    refine g_sub (L' := [(0, .ref m), (3, .int 0), (4, .int z_19), (5, .int v_21), (6, .int 0), (7, .int v_21)]) [5, 4, 3, 2, 1, 0] rfl ?_
    exact wX12_moreOf_108 K hlt hRm hret 1000 f_18 a11 0 z_19 v_21 0 v_21 h

set_option maxRecDepth 100000 in
theorem ctX12_moreOf {E : gE} {m : Nat} {r : Nat → Nat} (o : Nat → Int32) (A : Nat → Nat → Int32) (x1 : Int32) (x2 : Int32) {res : Int32 × ((Nat → Int32)) × ((Nat → Int32))} (h : pX12_moreOf (A 1) (A 10) (A 11) x1 x2 = some res) : gMi yX12_moreOf (.code yX12_moreOf cX12_moreOf 12 (some .int) :: gU) ({ frames := 5, cells := 0, slots := 0, locals := 173 } : Room) 0 0 E [.ref m, .int x1, .int x2] (mw E m r o A) (fun v w => v = res.1 ∧ w = mw E m r o (gu (gu A 10 res.2.1) 11 res.2.2)) := by
  refine g_met_i (by decide +kernel) (Nat.le_of_ble_eq_true rfl) (fun Γ K hn hE hRm _ hret => ?_)
  subst hE
  have hlt : ∀ i, i < 12 → i < g_n Γ := fun i q => by rw [hn]; exact q
  refine g_ws (ws' := mw (g_E Γ) m r o (gu (gu A 10 (A 10)) 11 (A 11))) rfl ?_
  refine g_sub (L' := [(0, .ref m), (1, .int x1), (2, .int x2)]) [0, 1, 2] rfl ?_
  exact wX12_moreOf K hlt hRm hret (A 10) (A 11) x1 x2 h

set_option maxHeartbeats 4000000 in
set_option maxRecDepth 100000 in
theorem wX12_size {Γ : gT} {ws : va_W} (K : gOK Γ cX12_size gU RX12) (hlt : ∀ i, i < 1 → i < g_n Γ) (hRm : g_R Γ = ({ frames := 4, cells := 0, slots := 0, locals := 150 } : Room)) {res : Int32} (hret : ∀ (pc : Nat) (L : List (Nat × Value)) (v : Int32) (w : va_W), decode cX12_size pc = .ok (.ireturn, 1) → narrow .int (.int v) = .int v → (v = res ∧ w = ws) → gGO Γ 0 0 pc L [.int v] w) (x0 : Int32) (h : pX12_size x0 = some res) : gGO Γ 0 0 0 [(0, .int x0)] [] (ws) := by
    unfold pX12_size at h
    refine g_iload_n K dX12_size_0 rfl 0 rfl ?_
    obtain ⟨ht9, hf9⟩ := gi_br h; clear h
    refine g_if_ge (tgt := 9) K dX12_size_1 (by decide) (fun qh => ?_) (fun qh => ?_)
    · have h := ht9 qh; clear ht9 hf9
      refine g_iload_n K dX12_size_9 rfl 0 rfl ?_
      obtain rfl := Option.some.inj h
      exact hret _ _ _ _ dX12_size_10 rfl ⟨rfl, rfl⟩
    · have h := hf9 qh; clear ht9 hf9
      refine g_iload_n K dX12_size_4 rfl 0 rfl ?_
      refine g_ineg K dX12_size_5 ?_
      refine g_goto (tgt := 10) K dX12_size_6 (by decide) ?_
      obtain rfl := Option.some.inj h
      exact hret _ _ _ _ dX12_size_10 rfl ⟨rfl, rfl⟩

set_option maxRecDepth 100000 in
theorem ctX12_size {E : gE} {ws : va_W} (x0 : Int32) {res : Int32} (h : pX12_size x0 = some res) : gMi yX12_size (.code yX12_size cX12_size 1 (some .int) :: gU) ({ frames := 4, cells := 0, slots := 0, locals := 150 } : Room) 0 0 E [.int x0] ws (fun v w => v = res ∧ w = ws) := by
  refine g_met_i (by decide +kernel) (Nat.le_of_ble_eq_true rfl) (fun Γ K hn hE hRm _ hret => ?_)
  subst hE
  have hlt : ∀ i, i < 1 → i < g_n Γ := fun i q => by rw [hn]; exact q
  refine g_sub (L' := [(0, .int x0)]) [0] rfl ?_
  exact wX12_size K hlt hRm hret x0 h

set_option maxHeartbeats 4000000 in
set_option maxRecDepth 100000 in
theorem wX12_markOf_117 {Γ : gT} {m : Nat} {r : Nat → Nat} {o : Nat → Int32} {A : Nat → Nat → Int32} (K : gOK Γ cX12_markOf gU RX12) (hlt : ∀ i, i < 8 → i < g_n Γ) (hRm : g_R Γ = ({ frames := 6, cells := 0, slots := 0, locals := 204 } : Room)) {res : Int32 × ((Nat → Int32)) × ((Nat → Int32))} (hret : ∀ (pc : Nat) (L : List (Nat × Value)) (v : Int32) (w : va_W), decode cX12_markOf pc = .ok (.ireturn, 1) → narrow .int (.int v) = .int v → (v = res.1 ∧ w = mw (g_E Γ) m r o (gu (gu A 10 res.2.1) 11 res.2.2)) → gGO Γ 0 0 pc L [.int v] w) (a10 : (Nat → Int32)) (a11 : (Nat → Int32)) (x1 : Int32) (x2 : Int32) (x4 : Int32) (y0 : Int32) (y1 : Int32) (h : pX12_markOf_117 (A 1) a10 a11 x1 x2 x4 y0 y1 = some res) : gGO Γ 0 0 117 [(0, .ref m), (1, .int x1), (2, .int x2), (4, .int x4)] [.int y1, .int y0] (mw (g_E Γ) m r o (gu (gu A 10 a10) 11 a11)) := by
    unfold pX12_markOf_117 at h
    refine g_iadd K dX12_markOf_117 ?_
    obtain ⟨v_1, ev_1, h⟩ := gi_nm h
    refine g_topi ev_1 ?_
    refine g_istore (L' := [(6, .int v_1), (0, .ref m), (1, .int x1), (2, .int x2), (4, .int x4)]) K dX12_markOf_118 (hlt _ (by decide)) rfl ?_
    refine g_bipush (v := 9) K dX12_markOf_120 (by decide) ?_
    refine g_aload_n K dX12_markOf_122 rfl 1 rfl ?_
    refine mg_1 K hin_X12 (u_980) dX12_markOf_123 ?_
    refine g_bipush (v := 41) K dX12_markOf_126 (by decide) ?_
    refine g_iload_n K dX12_markOf_128 rfl 2 rfl ?_
    refine g_iadd K dX12_markOf_129 ?_
    obtain ⟨b_2, h⟩ := gi_none h
    refine g_iald (f := (A 1)) K 1 rfl (ginb_in b_2) dX12_markOf_130 ?_
    refine g_aload_n K dX12_markOf_131 rfl 1 rfl ?_
    refine mg_1 K hin_X12 (u_980) dX12_markOf_132 ?_
    refine g_bipush (v := 68) K dX12_markOf_135 (by decide) ?_
    refine g_iload_n K dX12_markOf_137 rfl 3 rfl ?_
    refine g_iadd K dX12_markOf_138 ?_
    obtain ⟨b_3, h⟩ := gi_none h
    refine g_iald (f := (A 1)) K 1 rfl (ginb_in b_3) dX12_markOf_139 ?_
    refine g_isub K dX12_markOf_140 ?_
    obtain ⟨z_4, hz_4, h⟩ := gi_bd h
    refine g_callSi (As := [.int (((A 1) (Int32.toNatClampNeg (41 + x1))) - ((A 1) (Int32.toNatClampNeg (68 + x2))))]) (bytes := cX12_size) (maxL := 1) (ret := (some .int)) K (ctX12_size (ws := mw (g_E Γ) m r o (gu (gu A 10 a10) 11 a11)) (((A 1) (Int32.toNatClampNeg (41 + x1))) - ((A 1) (Int32.toNatClampNeg (68 + x2)))) (res := z_4) hz_4) gc_S_RX12_152_X12_size rfl qs_X12_size hRm rfl rfl rfl (by decide) (Nat.le_of_ble_eq_true rfl) (by decide) dX12_markOf_141 (fun v w hw => ?_)
    obtain ⟨hv9, rfl⟩ := hw; have hv9 := hv9.symm; subst hv9
    refine g_isub K dX12_markOf_144 ?_
    obtain ⟨v_5, ev_5, h⟩ := gi_nm h
    refine g_topi ev_5 ?_
    refine g_istore (L' := [(7, .int v_5), (6, .int v_1), (0, .ref m), (1, .int x1), (2, .int x2), (4, .int x4)]) K dX12_markOf_145 (hlt _ (by decide)) rfl ?_
    refine g_iload K dX12_markOf_147 1 rfl ?_
    refine g_iload K dX12_markOf_149 5 rfl ?_
    refine g_iconst (v := 4) K dX12_markOf_151 (by decide) ?_
    obtain ⟨ht9, hf9⟩ := gi_br h; clear h
    refine g_icmp_ne (tgt := 165) K dX12_markOf_152 (by decide) (fun qh => ?_) (fun qh => ?_)
    · have h := hf9 qh; clear ht9 hf9
      refine g_iconst (v := 0) K dX12_markOf_165 (by decide) ?_
      refine g_iadd K dX12_markOf_166 ?_
      obtain rfl := Option.some.inj h
      exact hret _ _ _ _ dX12_markOf_167 rfl ⟨rfl, rfl⟩
    · have h := ht9 qh; clear ht9 hf9
      refine g_iload K dX12_markOf_155 0 rfl ?_
      obtain ⟨ht9, hf9⟩ := gi_br h; clear h
      refine g_if_le (tgt := 165) K dX12_markOf_157 (by decide) (fun qh => ?_) (fun qh => ?_)
      · have h := ht9 qh; clear ht9 hf9
        refine g_iconst (v := 0) K dX12_markOf_165 (by decide) ?_
        refine g_iadd K dX12_markOf_166 ?_
        obtain rfl := Option.some.inj h
        exact hret _ _ _ _ dX12_markOf_167 rfl ⟨rfl, rfl⟩
      · have h := hf9 qh; clear ht9 hf9
        refine g_iload K dX12_markOf_160 0 rfl ?_
        refine g_goto (tgt := 166) K dX12_markOf_162 (by decide) ?_
        refine g_iadd K dX12_markOf_166 ?_
        obtain rfl := Option.some.inj h
        exact hret _ _ _ _ dX12_markOf_167 rfl ⟨rfl, rfl⟩

set_option maxHeartbeats 4000000 in
set_option maxRecDepth 100000 in
theorem wX12_markOf_74 {Γ : gT} {m : Nat} {r : Nat → Nat} {o : Nat → Int32} {A : Nat → Nat → Int32} (K : gOK Γ cX12_markOf gU RX12) (hlt : ∀ i, i < 8 → i < g_n Γ) (hRm : g_R Γ = ({ frames := 6, cells := 0, slots := 0, locals := 204 } : Room)) {res : Int32 × ((Nat → Int32)) × ((Nat → Int32))} (hret : ∀ (pc : Nat) (L : List (Nat × Value)) (v : Int32) (w : va_W), decode cX12_markOf pc = .ok (.ireturn, 1) → narrow .int (.int v) = .int v → (v = res.1 ∧ w = mw (g_E Γ) m r o (gu (gu A 10 res.2.1) 11 res.2.2)) → gGO Γ 0 0 pc L [.int v] w) (a10 : (Nat → Int32)) (a11 : (Nat → Int32)) (x1 : Int32) (x2 : Int32) (x3 : Int32) (x4 : Int32) (x5 : Int32) (h : pX12_markOf_74 (A 1) a10 a11 x1 x2 x3 x4 x5 = some res) : gGO Γ 0 0 74 [(0, .ref m), (1, .int x1), (2, .int x2), (3, .int x3), (4, .int x4), (5, .int x5)] [] (mw (g_E Γ) m r o (gu (gu A 10 a10) 11 a11)) := by
    unfold pX12_markOf_74 at h
    refine g_iload K dX12_markOf_74 5 rfl ?_
    refine g_aload_n K dX12_markOf_76 rfl 0 rfl ?_
    refine g_iload_n K dX12_markOf_77 rfl 1 rfl ?_
    refine g_iload_n K dX12_markOf_78 rfl 2 rfl ?_
    obtain ⟨z_1, hz_1, h⟩ := gi_bd h
    refine g_callVi (As := [.int x1, .int x2]) (bytes := cX12_moreOf) (maxL := 12) (ret := (some .int)) K (ctX12_moreOf o (gu (gu A 10 a10) 11 a11) x1 x2 (res := z_1) hz_1) gc_V_RX12_149_X12_moreOf rfl qv_X12_moreOf 0 rfl rfl rfl hRm rfl rfl rfl (by decide) (Nat.le_of_ble_eq_true rfl) (by decide) dX12_markOf_79 (fun v w hw => ?_)
    obtain ⟨hv9, rfl⟩ := hw; have hv9 := hv9.symm; subst hv9
    refine g_ws (ws' := mw (g_E Γ) m r o (gu (gu A 10 z_1.2.1) 11 z_1.2.2)) rfl ?_
    refine g_iadd K dX12_markOf_82 ?_
    obtain ⟨v_2, ev_2, h⟩ := gi_nm h
    refine g_topi ev_2 ?_
    refine g_istore (L' := [(6, .int v_2), (0, .ref m), (1, .int x1), (2, .int x2), (3, .int x3), (4, .int x4), (5, .int x5)]) K dX12_markOf_83 (hlt _ (by decide)) rfl ?_
    refine g_iload K dX12_markOf_85 0 rfl ?_
    refine g_iload K dX12_markOf_87 5 rfl ?_
    refine g_iconst (v := 1) K dX12_markOf_89 (by decide) ?_
    obtain ⟨ht9, hf9⟩ := gi_br h; clear h
    refine g_icmp_eq (tgt := 99) K dX12_markOf_90 (by decide) (fun qh => ?_) (fun qh => ?_)
    · have h := ht9 qh; clear ht9 hf9
      refine g_iload_n K dX12_markOf_99 rfl 4 rfl ?_
      refine g_goto (tgt := 117) K dX12_markOf_100 (by decide) ?_
      refine g_sub (L' := [(0, .ref m), (1, .int x1), (2, .int x2), (4, .int x4)]) [1, 2, 3, 5] rfl ?_
      exact wX12_markOf_117 K hlt hRm hret z_1.2.1 z_1.2.2 x1 x2 x4 v_2 x3 h
    · have h := hf9 qh; clear ht9 hf9
      refine g_iload K dX12_markOf_93 5 rfl ?_
      refine g_iconst (v := 4) K dX12_markOf_95 (by decide) ?_
      obtain ⟨ht9, hf9⟩ := gi_br h; clear h
      refine g_icmp_ne (tgt := 103) K dX12_markOf_96 (by decide) (fun qh => ?_) (fun qh => ?_)
      · have h := hf9 qh; clear ht9 hf9
        refine g_iload K dX12_markOf_103 5 rfl ?_
        refine g_bipush (v := 6) K dX12_markOf_105 (by decide) ?_
        obtain ⟨ht9, hf9⟩ := gi_br h; clear h
        refine g_icmp_ne (tgt := 116) K dX12_markOf_107 (by decide) (fun qh => ?_) (fun qh => ?_)
        · have h := hf9 qh; clear ht9 hf9
          refine g_iconst (v := 0) K dX12_markOf_116 (by decide) ?_
          refine g_sub (L' := [(0, .ref m), (1, .int x1), (2, .int x2), (4, .int x4)]) [1, 2, 3, 5] rfl ?_
          exact wX12_markOf_117 K hlt hRm hret z_1.2.1 z_1.2.2 x1 x2 x4 v_2 0 h
        · have h := ht9 qh; clear ht9 hf9
          refine g_iconst (v := 2) K dX12_markOf_110 (by decide) ?_
          refine g_iload_n K dX12_markOf_111 rfl 4 rfl ?_
          refine g_imul K dX12_markOf_112 ?_
          refine g_goto (tgt := 117) K dX12_markOf_113 (by decide) ?_
          refine g_sub (L' := [(0, .ref m), (1, .int x1), (2, .int x2), (4, .int x4)]) [1, 2, 3, 5] rfl ?_
          exact wX12_markOf_117 K hlt hRm hret z_1.2.1 z_1.2.2 x1 x2 x4 v_2 (2 * x3) h
      · have h := ht9 qh; clear ht9 hf9
        refine g_iload_n K dX12_markOf_99 rfl 4 rfl ?_
        refine g_goto (tgt := 117) K dX12_markOf_100 (by decide) ?_
        refine g_sub (L' := [(0, .ref m), (1, .int x1), (2, .int x2), (4, .int x4)]) [1, 2, 3, 5] rfl ?_
        exact wX12_markOf_117 K hlt hRm hret z_1.2.1 z_1.2.2 x1 x2 x4 v_2 x3 h

set_option maxHeartbeats 4000000 in
set_option maxRecDepth 100000 in
theorem wX12_markOf_44 {Γ : gT} {m : Nat} {r : Nat → Nat} {o : Nat → Int32} {A : Nat → Nat → Int32} (K : gOK Γ cX12_markOf gU RX12) (hlt : ∀ i, i < 8 → i < g_n Γ) (hRm : g_R Γ = ({ frames := 6, cells := 0, slots := 0, locals := 204 } : Room)) {res : Int32 × ((Nat → Int32)) × ((Nat → Int32))} (hret : ∀ (pc : Nat) (L : List (Nat × Value)) (v : Int32) (w : va_W), decode cX12_markOf pc = .ok (.ireturn, 1) → narrow .int (.int v) = .int v → (v = res.1 ∧ w = mw (g_E Γ) m r o (gu (gu A 10 res.2.1) 11 res.2.2)) → gGO Γ 0 0 pc L [.int v] w) (a10 : (Nat → Int32)) (a11 : (Nat → Int32)) (x1 : Int32) (x2 : Int32) (x3 : Int32) (x4 : Int32) (h : pX12_markOf_44 (A 1) a10 a11 x1 x2 x3 x4 = some res) : gGO Γ 0 0 44 [(0, .ref m), (1, .int x1), (2, .int x2), (3, .int x3), (4, .int x4)] [] (mw (g_E Γ) m r o (gu (gu A 10 a10) 11 a11)) := by
    unfold pX12_markOf_44 at h
    refine g_aload_n K dX12_markOf_44 rfl 0 rfl ?_
    refine mg_1 K hin_X12 (u_980) dX12_markOf_45 ?_
    refine g_iconst (v := 1) K dX12_markOf_48 (by decide) ?_
    refine g_iload_n K dX12_markOf_49 rfl 1 rfl ?_
    refine g_iadd K dX12_markOf_50 ?_
    obtain ⟨b_1, h⟩ := gi_none h
    refine g_iald (f := (A 1)) K 1 rfl (ginb_in b_1) dX12_markOf_51 ?_
    refine g_bipush (v := 10) K dX12_markOf_52 (by decide) ?_
    refine g_iload_n K dX12_markOf_54 rfl 3 rfl ?_
    refine g_isub K dX12_markOf_55 ?_
    refine g_imul K dX12_markOf_56 ?_
    refine g_aload_n K dX12_markOf_57 rfl 0 rfl ?_
    refine mg_1 K hin_X12 (u_980) dX12_markOf_58 ?_
    refine g_bipush (v := 11) K dX12_markOf_61 (by decide) ?_
    refine g_iload_n K dX12_markOf_63 rfl 1 rfl ?_
    refine g_iadd K dX12_markOf_64 ?_
    obtain ⟨b_2, h⟩ := gi_none h
    refine g_iald (f := (A 1)) K 1 rfl (ginb_in b_2) dX12_markOf_65 ?_
    refine g_iload_n K dX12_markOf_66 rfl 3 rfl ?_
    refine g_imul K dX12_markOf_67 ?_
    refine g_iadd K dX12_markOf_68 ?_
    refine g_bipush (v := 10) K dX12_markOf_69 (by decide) ?_
    refine g_idiv K dX12_markOf_71 (by decide) ?_
    obtain ⟨v_4, ev_4, h⟩ := gi_nm h
    refine g_topi ev_4 ?_
    refine g_istore (L' := [(5, .int v_4), (0, .ref m), (1, .int x1), (2, .int x2), (3, .int x3), (4, .int x4)]) K dX12_markOf_72 (hlt _ (by decide)) rfl ?_
    refine g_sub (L' := [(0, .ref m), (1, .int x1), (2, .int x2), (3, .int x3), (4, .int x4), (5, .int v_4)]) [1, 2, 3, 4, 5, 0] rfl ?_
    exact wX12_markOf_74 K hlt hRm hret a10 a11 x1 x2 x3 x4 v_4 h

set_option maxHeartbeats 4000000 in
set_option maxRecDepth 100000 in
theorem wX12_markOf {Γ : gT} {m : Nat} {r : Nat → Nat} {o : Nat → Int32} {A : Nat → Nat → Int32} (K : gOK Γ cX12_markOf gU RX12) (hlt : ∀ i, i < 8 → i < g_n Γ) (hRm : g_R Γ = ({ frames := 6, cells := 0, slots := 0, locals := 204 } : Room)) {res : Int32 × ((Nat → Int32)) × ((Nat → Int32))} (hret : ∀ (pc : Nat) (L : List (Nat × Value)) (v : Int32) (w : va_W), decode cX12_markOf pc = .ok (.ireturn, 1) → narrow .int (.int v) = .int v → (v = res.1 ∧ w = mw (g_E Γ) m r o (gu (gu A 10 res.2.1) 11 res.2.2)) → gGO Γ 0 0 pc L [.int v] w) (a10 : (Nat → Int32)) (a11 : (Nat → Int32)) (x1 : Int32) (x2 : Int32) (h : pX12_markOf (A 1) a10 a11 x1 x2 = some res) : gGO Γ 0 0 0 [(0, .ref m), (1, .int x1), (2, .int x2)] [] (mw (g_E Γ) m r o (gu (gu A 10 a10) 11 a11)) := by
    unfold pX12_markOf at h
    refine g_aload_n K dX12_markOf_0 rfl 0 rfl ?_
    refine mg_1 K hin_X12 (u_980) dX12_markOf_1 ?_
    refine g_bipush (v := 64) K dX12_markOf_4 (by decide) ?_
    refine g_iload_n K dX12_markOf_6 rfl 2 rfl ?_
    refine g_iadd K dX12_markOf_7 ?_
    obtain ⟨b_1, h⟩ := gi_none h
    refine g_iald (f := (A 1)) K 1 rfl (ginb_in b_1) dX12_markOf_8 ?_
    obtain ⟨v_2, ev_2, h⟩ := gi_nm h
    refine g_topi ev_2 ?_
    refine g_istore_n (L' := [(3, .int v_2), (0, .ref m), (1, .int x1), (2, .int x2)]) K dX12_markOf_9 rfl (hlt _ (by decide)) rfl ?_
    refine g_aload_n K dX12_markOf_10 rfl 1 rfl ?_
    refine mg_1 K hin_X12 (u_980) dX12_markOf_11 ?_
    refine g_bipush (v := 60) K dX12_markOf_14 (by decide) ?_
    refine g_iload_n K dX12_markOf_16 rfl 3 rfl ?_
    refine g_iadd K dX12_markOf_17 ?_
    obtain ⟨b_3, h⟩ := gi_none h
    refine g_iald (f := (A 1)) K 1 rfl (ginb_in b_3) dX12_markOf_18 ?_
    obtain ⟨v_4, ev_4, h⟩ := gi_nm h
    refine g_topi ev_4 ?_
    refine g_istore (L' := [(4, .int v_4), (3, .int v_2), (0, .ref m), (1, .int x1), (2, .int x2)]) K dX12_markOf_19 (hlt _ (by decide)) rfl ?_
    refine g_aload_n K dX12_markOf_21 rfl 2 rfl ?_
    refine mg_1 K hin_X12 (u_980) dX12_markOf_22 ?_
    refine g_iconst (v := 1) K dX12_markOf_25 (by decide) ?_
    refine g_iload_n K dX12_markOf_26 rfl 3 rfl ?_
    refine g_iadd K dX12_markOf_27 ?_
    obtain ⟨b_5, h⟩ := gi_none h
    refine g_iald (f := (A 1)) K 1 rfl (ginb_in b_5) dX12_markOf_28 ?_
    obtain ⟨v_6, ev_6, h⟩ := gi_nm h
    refine g_topi ev_6 ?_
    refine g_istore (L' := [(5, .int v_6), (4, .int v_4), (3, .int v_2), (0, .ref m), (1, .int x1), (2, .int x2)]) K dX12_markOf_29 (hlt _ (by decide)) rfl ?_
    refine g_iload K dX12_markOf_31 1 rfl ?_
    refine g_iconst (v := 3) K dX12_markOf_33 (by decide) ?_
    obtain ⟨ht9, hf9⟩ := gi_br h; clear h
    refine g_icmp_eq (tgt := 44) K dX12_markOf_34 (by decide) (fun qh => ?_) (fun qh => ?_)
    · have h := ht9 qh; clear ht9 hf9
      refine g_sub (L' := [(0, .ref m), (1, .int x1), (2, .int x2), (3, .int v_2), (4, .int v_4)]) [3, 4, 5, 2, 1] rfl ?_
      exact wX12_markOf_44 K hlt hRm hret a10 a11 x1 x2 v_2 v_4 h
    · have h := hf9 qh; clear ht9 hf9
      refine g_iload K dX12_markOf_37 1 rfl ?_
      refine g_bipush (v := 6) K dX12_markOf_39 (by decide) ?_
      obtain ⟨ht9, hf9⟩ := gi_br h; clear h
      refine g_icmp_ne (tgt := 74) K dX12_markOf_41 (by decide) (fun qh => ?_) (fun qh => ?_)
      · have h := hf9 qh; clear ht9 hf9
        refine g_sub (L' := [(0, .ref m), (1, .int x1), (2, .int x2), (3, .int v_2), (4, .int v_4), (5, .int v_6)]) [3, 4, 5, 2, 1, 0] rfl ?_
        exact wX12_markOf_74 K hlt hRm hret a10 a11 x1 x2 v_2 v_4 v_6 h
      · have h := ht9 qh; clear ht9 hf9
        refine g_sub (L' := [(0, .ref m), (1, .int x1), (2, .int x2), (3, .int v_2), (4, .int v_4)]) [3, 4, 5, 2, 1] rfl ?_
        exact wX12_markOf_44 K hlt hRm hret a10 a11 x1 x2 v_2 v_4 h

set_option maxRecDepth 100000 in
theorem ctX12_markOf {E : gE} {m : Nat} {r : Nat → Nat} (o : Nat → Int32) (A : Nat → Nat → Int32) (x1 : Int32) (x2 : Int32) {res : Int32 × ((Nat → Int32)) × ((Nat → Int32))} (h : pX12_markOf (A 1) (A 10) (A 11) x1 x2 = some res) : gMi yX12_markOf (.code yX12_markOf cX12_markOf 8 (some .int) :: gU) ({ frames := 6, cells := 0, slots := 0, locals := 204 } : Room) 0 0 E [.ref m, .int x1, .int x2] (mw E m r o A) (fun v w => v = res.1 ∧ w = mw E m r o (gu (gu A 10 res.2.1) 11 res.2.2)) := by
  refine g_met_i (by decide +kernel) (Nat.le_of_ble_eq_true rfl) (fun Γ K hn hE hRm _ hret => ?_)
  subst hE
  have hlt : ∀ i, i < 8 → i < g_n Γ := fun i q => by rw [hn]; exact q
  refine g_ws (ws' := mw (g_E Γ) m r o (gu (gu A 10 (A 10)) 11 (A 11))) rfl ?_
  refine g_sub (L' := [(0, .ref m), (1, .int x1), (2, .int x2)]) [0, 1, 2] rfl ?_
  exact wX12_markOf K hlt hRm hret (A 10) (A 11) x1 x2 h

set_option maxHeartbeats 4000000 in
set_option maxRecDepth 100000 in
theorem wX12_levelsAll_121 {Γ : gT} {m : Nat} {r : Nat → Nat} {o : Nat → Int32} {A : Nat → Nat → Int32} (K : gOK Γ cX12_levelsAll gU RX12) (hlt : ∀ i, i < 3 → i < g_n Γ) (hRm : g_R Γ = ({ frames := 8, cells := 0, slots := 0, locals := 244 } : Room)) {res : ((Nat → Int32)) × ((Nat → Int32)) × ((Nat → Int32)) × ((Nat → Int32)) × ((Nat → Int32)) × ((Nat → Int32))} (hret : ∀ (pc : Nat) (L : List (Nat × Value)) (w : va_W), decode cX12_levelsAll pc = .ok (.return_, 1) → (w = mw (g_E Γ) m r o (gu (gu (gu (gu (gu (gu A 10 res.1) 11 res.2.1) 12 res.2.2.1) 13 res.2.2.2.1) 15 res.2.2.2.2.1) 16 res.2.2.2.2.2)) → gGO Γ 0 0 pc L [] w) : ∀ (n : Nat) (a10 : (Nat → Int32)) (a11 : (Nat → Int32)) (a12 : (Nat → Int32)) (a13 : (Nat → Int32)) (a15 : (Nat → Int32)) (a16 : (Nat → Int32)) (x2 : Int32), pX12_levelsAll_121 (A 1) n a10 a11 a12 a13 a15 a16 x2 = some res → gGO Γ 0 0 121 [(0, .ref m), (2, .int x2)] [] (mw (g_E Γ) m r o (gu (gu (gu (gu (gu (gu A 10 a10) 11 a11) 12 a12) 13 a13) 15 a15) 16 a16)) := by
  intro n
  induction n with
  | zero => intro _ _ _ _ _ _ _ h; cases h
  | succ n ih =>
    intro a10 a11 a12 a13 a15 a16 x2 h
    simp only [pX12_levelsAll_121] at h
    refine g_iload_n K dX12_levelsAll_121 rfl 1 rfl ?_
    refine g_aload_n K dX12_levelsAll_122 rfl 0 rfl ?_
    refine mg_1 K hin_X12 (u_980) dX12_levelsAll_123 ?_
    refine g_bipush (v := 52) K dX12_levelsAll_126 (by decide) ?_
    obtain ⟨b_1, h⟩ := gi_none h
    refine g_iald (f := (A 1)) K 1 rfl (ginb_in b_1) dX12_levelsAll_128 ?_
    obtain ⟨ht9, hf9⟩ := gi_br h; clear h
    refine g_icmp_ge (tgt := 143) K dX12_levelsAll_129 (by decide) (fun qh => ?_) (fun qh => ?_)
    · have h := ht9 qh; clear ht9 hf9
      obtain rfl := Option.some.inj h
      exact hret _ _ _ dX12_levelsAll_143 rfl
    · have h := hf9 qh; clear ht9 hf9
      refine g_aload_n K dX12_levelsAll_132 rfl 0 rfl ?_
      refine g_iload_n K dX12_levelsAll_133 rfl 1 rfl ?_
      obtain ⟨z_2, hz_2, h⟩ := gi_bd h
      refine g_callVv (As := [.int x2]) (bytes := cX12_gradesTeam) (maxL := 3) (ret := none) K (ctX12_gradesTeam o (gu (gu (gu (gu (gu (gu A 10 a10) 11 a11) 12 a12) 13 a13) 15 a15) 16 a16) x2 (res := z_2) hz_2) gc_V_RX12_185_X12_gradesTeam rfl qv_X12_gradesTeam 0 rfl rfl rfl hRm rfl rfl rfl (by decide) (Nat.le_of_ble_eq_true rfl) (by decide) dX12_levelsAll_134 (fun w hw => ?_)
      subst hw
      refine g_ws (ws' := mw (g_E Γ) m r o (gu (gu (gu (gu (gu (gu A 10 a10) 11 a11) 12 a12) 13 z_2.1) 15 z_2.2) 16 a16)) rfl ?_
      refine g_iinc (v := (x2 + 1)) (L' := [(2, .int (x2 + 1)), (0, .ref m)]) K dX12_levelsAll_137 1 rfl rfl (hlt _ (by decide)) rfl ?_
      refine g_goto (tgt := 121) K dX12_levelsAll_140 (by decide) ?_
      refine g_sub (L' := [(0, .ref m), (2, .int (x2 + 1))]) [1, 0] rfl ?_
      exact ih a10 a11 a12 z_2.1 z_2.2 a16 (x2 + 1) h

set_option maxHeartbeats 4000000 in
set_option maxRecDepth 100000 in
theorem wX12_levelsAll_77 {Γ : gT} {m : Nat} {r : Nat → Nat} {o : Nat → Int32} {A : Nat → Nat → Int32} (K : gOK Γ cX12_levelsAll gU RX12) (hlt : ∀ i, i < 3 → i < g_n Γ) (hRm : g_R Γ = ({ frames := 8, cells := 0, slots := 0, locals := 244 } : Room)) {res : ((Nat → Int32)) × ((Nat → Int32)) × ((Nat → Int32)) × ((Nat → Int32)) × ((Nat → Int32)) × ((Nat → Int32))} (hret : ∀ (pc : Nat) (L : List (Nat × Value)) (w : va_W), decode cX12_levelsAll pc = .ok (.return_, 1) → (w = mw (g_E Γ) m r o (gu (gu (gu (gu (gu (gu A 10 res.1) 11 res.2.1) 12 res.2.2.1) 13 res.2.2.2.1) 15 res.2.2.2.2.1) 16 res.2.2.2.2.2)) → gGO Γ 0 0 pc L [] w) : ∀ (n : Nat) (a10 : (Nat → Int32)) (a11 : (Nat → Int32)) (a12 : (Nat → Int32)) (a13 : (Nat → Int32)) (a15 : (Nat → Int32)) (a16 : (Nat → Int32)) (x1 : Int32) (x2 : Int32), pX12_levelsAll_77 (A 1) n a10 a11 a12 a13 a15 a16 x1 x2 = some res → gGO Γ 0 0 77 [(0, .ref m), (1, .int x1), (2, .int x2)] [] (mw (g_E Γ) m r o (gu (gu (gu (gu (gu (gu A 10 a10) 11 a11) 12 a12) 13 a13) 15 a15) 16 a16)) := by
  intro n
  induction n with
  | zero => intro _ _ _ _ _ _ _ _ h; cases h
  | succ n ih =>
    intro a10 a11 a12 a13 a15 a16 x1 x2 h
    simp only [pX12_levelsAll_77] at h
    refine g_iload_n K dX12_levelsAll_77 rfl 2 rfl ?_
    refine g_aload_n K dX12_levelsAll_78 rfl 0 rfl ?_
    refine mg_1 K hin_X12 (u_980) dX12_levelsAll_79 ?_
    refine g_bipush (v := 51) K dX12_levelsAll_82 (by decide) ?_
    obtain ⟨b_1, h⟩ := gi_none h
    refine g_iald (f := (A 1)) K 1 rfl (ginb_in b_1) dX12_levelsAll_84 ?_
    obtain ⟨ht9, hf9⟩ := gi_br h; clear h
    refine g_icmp_ge (tgt := 119) K dX12_levelsAll_85 (by decide) (fun qh => ?_) (fun qh => ?_)
    · have h := ht9 qh; clear ht9 hf9
      refine g_iconst (v := 0) K dX12_levelsAll_119 (by decide) ?_
      refine g_istore_n (L' := [(2, .int 0), (0, .ref m), (1, .int x1)]) K dX12_levelsAll_120 rfl (hlt _ (by decide)) rfl ?_
      refine g_sub (L' := [(0, .ref m), (2, .int 0)]) [1, 0] rfl ?_
      exact wX12_levelsAll_121 K hlt hRm hret 1000 a10 a11 a12 a13 a15 a16 0 h
    · have h := hf9 qh; clear ht9 hf9
      refine g_aload_n K dX12_levelsAll_88 rfl 0 rfl ?_
      refine mg_12 K hin_X12 (u_991) dX12_levelsAll_89 ?_
      refine g_iload_n K dX12_levelsAll_92 rfl 2 rfl ?_
      refine g_dup2 K dX12_levelsAll_93 rfl rfl ?_
      obtain ⟨b_2, h⟩ := gi_none h
      refine g_iald (f := a12) K 6 rfl (ginb_in b_2) dX12_levelsAll_94 ?_
      refine g_iload_n K dX12_levelsAll_95 rfl 1 rfl ?_
      refine g_aload_n K dX12_levelsAll_96 rfl 0 rfl ?_
      refine mg_16 K hin_X12 (u_995) dX12_levelsAll_97 ?_
      refine g_aload_n K dX12_levelsAll_100 rfl 0 rfl ?_
      refine mg_1 K hin_X12 (u_980) dX12_levelsAll_101 ?_
      refine g_bipush (v := 31) K dX12_levelsAll_104 (by decide) ?_
      refine g_iload_n K dX12_levelsAll_106 rfl 2 rfl ?_
      refine g_iadd K dX12_levelsAll_107 ?_
      obtain ⟨b_3, h⟩ := gi_none h
      refine g_iald (f := (A 1)) K 1 rfl (ginb_in b_3) dX12_levelsAll_108 ?_
      obtain ⟨b_4, h⟩ := gi_none h
      refine g_iald (f := a16) K 10 rfl (ginb_in b_4) dX12_levelsAll_109 ?_
      refine g_isub K dX12_levelsAll_110 ?_
      refine g_iadd K dX12_levelsAll_111 ?_
      obtain ⟨b_5, h⟩ := gi_none h
      obtain ⟨f_6, ef_6, h⟩ := gi_nm h
      refine g_iast (f := a12) (ws' := mw (g_E Γ) m r o (gu (gu (gu (gu (gu (gu A 10 a10) 11 a11) 12 f_6) 13 a13) 15 a15) 16 a16)) K 6 rfl (ginb_in b_5) dX12_levelsAll_112 (by rw [ef_6]; rfl) ?_
      refine g_iinc (v := (x2 + 1)) (L' := [(2, .int (x2 + 1)), (0, .ref m), (1, .int x1)]) K dX12_levelsAll_113 2 rfl rfl (hlt _ (by decide)) rfl ?_
      refine g_goto (tgt := 77) K dX12_levelsAll_116 (by decide) ?_
      refine g_sub (L' := [(0, .ref m), (1, .int x1), (2, .int (x2 + 1))]) [1, 2, 0] rfl ?_
      exact ih a10 a11 f_6 a13 a15 a16 x1 (x2 + 1) h

set_option maxHeartbeats 4000000 in
set_option maxRecDepth 100000 in
theorem wX12_levelsAll_47 {Γ : gT} {m : Nat} {r : Nat → Nat} {o : Nat → Int32} {A : Nat → Nat → Int32} (K : gOK Γ cX12_levelsAll gU RX12) (hlt : ∀ i, i < 3 → i < g_n Γ) (hRm : g_R Γ = ({ frames := 8, cells := 0, slots := 0, locals := 244 } : Room)) {res : ((Nat → Int32)) × ((Nat → Int32)) × ((Nat → Int32)) × ((Nat → Int32)) × ((Nat → Int32)) × ((Nat → Int32))} (hret : ∀ (pc : Nat) (L : List (Nat × Value)) (w : va_W), decode cX12_levelsAll pc = .ok (.return_, 1) → (w = mw (g_E Γ) m r o (gu (gu (gu (gu (gu (gu A 10 res.1) 11 res.2.1) 12 res.2.2.1) 13 res.2.2.2.1) 15 res.2.2.2.2.1) 16 res.2.2.2.2.2)) → gGO Γ 0 0 pc L [] w) : ∀ (n : Nat) (a10 : (Nat → Int32)) (a11 : (Nat → Int32)) (a12 : (Nat → Int32)) (a13 : (Nat → Int32)) (a15 : (Nat → Int32)) (a16 : (Nat → Int32)) (x1 : Int32) (x2 : Int32), pX12_levelsAll_47 (A 1) n a10 a11 a12 a13 a15 a16 x1 x2 = some res → gGO Γ 0 0 47 [(0, .ref m), (1, .int x1), (2, .int x2)] [] (mw (g_E Γ) m r o (gu (gu (gu (gu (gu (gu A 10 a10) 11 a11) 12 a12) 13 a13) 15 a15) 16 a16)) := by
  intro n
  induction n with
  | zero => intro _ _ _ _ _ _ _ _ h; cases h
  | succ n ih =>
    intro a10 a11 a12 a13 a15 a16 x1 x2 h
    simp only [pX12_levelsAll_47] at h
    refine g_iload_n K dX12_levelsAll_47 rfl 2 rfl ?_
    refine g_aload_n K dX12_levelsAll_48 rfl 0 rfl ?_
    refine mg_1 K hin_X12 (u_980) dX12_levelsAll_49 ?_
    refine g_bipush (v := 52) K dX12_levelsAll_52 (by decide) ?_
    obtain ⟨b_1, h⟩ := gi_none h
    refine g_iald (f := (A 1)) K 1 rfl (ginb_in b_1) dX12_levelsAll_54 ?_
    obtain ⟨ht9, hf9⟩ := gi_br h; clear h
    refine g_icmp_ge (tgt := 75) K dX12_levelsAll_55 (by decide) (fun qh => ?_) (fun qh => ?_)
    · have h := ht9 qh; clear ht9 hf9
      refine g_iconst (v := 0) K dX12_levelsAll_75 (by decide) ?_
      refine g_istore_n (L' := [(2, .int 0), (0, .ref m), (1, .int x1)]) K dX12_levelsAll_76 rfl (hlt _ (by decide)) rfl ?_
      refine g_sub (L' := [(0, .ref m), (1, .int x1), (2, .int 0)]) [1, 2, 0] rfl ?_
      exact wX12_levelsAll_77 K hlt hRm hret 1000 a10 a11 a12 a13 a15 a16 x1 0 h
    · have h := hf9 qh; clear ht9 hf9
      refine g_aload_n K dX12_levelsAll_58 rfl 0 rfl ?_
      refine mg_16 K hin_X12 (u_995) dX12_levelsAll_59 ?_
      refine g_iload_n K dX12_levelsAll_62 rfl 2 rfl ?_
      refine g_aload_n K dX12_levelsAll_63 rfl 0 rfl ?_
      refine g_iload_n K dX12_levelsAll_64 rfl 2 rfl ?_
      obtain ⟨z_2, hz_2, h⟩ := gi_bd h
      refine g_callVi (As := [.int x2]) (bytes := cX12_meanOf) (maxL := 6) (ret := (some .int)) K (ctX12_meanOf o (gu (gu (gu (gu (gu (gu A 10 a10) 11 a11) 12 a12) 13 a13) 15 a15) 16 a16) x2 (res := z_2) hz_2) gc_V_RX12_188_X12_meanOf rfl qv_X12_meanOf 0 rfl rfl rfl hRm rfl rfl rfl (by decide) (Nat.le_of_ble_eq_true rfl) (by decide) dX12_levelsAll_65 (fun v w hw => ?_)
      obtain ⟨hv9, rfl⟩ := hw; have hv9 := hv9.symm; subst hv9
      obtain ⟨b_3, h⟩ := gi_none h
      obtain ⟨f_4, ef_4, h⟩ := gi_nm h
      refine g_iast (f := a16) (ws' := mw (g_E Γ) m r o (gu (gu (gu (gu (gu (gu A 10 a10) 11 a11) 12 a12) 13 a13) 15 a15) 16 f_4)) K 10 rfl (ginb_in b_3) dX12_levelsAll_68 (by rw [ef_4]; rfl) ?_
      refine g_iinc (v := (x2 + 1)) (L' := [(2, .int (x2 + 1)), (0, .ref m), (1, .int x1)]) K dX12_levelsAll_69 2 rfl rfl (hlt _ (by decide)) rfl ?_
      refine g_goto (tgt := 47) K dX12_levelsAll_72 (by decide) ?_
      refine g_sub (L' := [(0, .ref m), (1, .int x1), (2, .int (x2 + 1))]) [1, 2, 0] rfl ?_
      exact ih a10 a11 a12 a13 a15 f_4 x1 (x2 + 1) h

set_option maxHeartbeats 4000000 in
set_option maxRecDepth 100000 in
theorem wX12_levelsAll_2 {Γ : gT} {m : Nat} {r : Nat → Nat} {o : Nat → Int32} {A : Nat → Nat → Int32} (K : gOK Γ cX12_levelsAll gU RX12) (hlt : ∀ i, i < 3 → i < g_n Γ) (hRm : g_R Γ = ({ frames := 8, cells := 0, slots := 0, locals := 244 } : Room)) {res : ((Nat → Int32)) × ((Nat → Int32)) × ((Nat → Int32)) × ((Nat → Int32)) × ((Nat → Int32)) × ((Nat → Int32))} (hret : ∀ (pc : Nat) (L : List (Nat × Value)) (w : va_W), decode cX12_levelsAll pc = .ok (.return_, 1) → (w = mw (g_E Γ) m r o (gu (gu (gu (gu (gu (gu A 10 res.1) 11 res.2.1) 12 res.2.2.1) 13 res.2.2.2.1) 15 res.2.2.2.2.1) 16 res.2.2.2.2.2)) → gGO Γ 0 0 pc L [] w) : ∀ (n : Nat) (a10 : (Nat → Int32)) (a11 : (Nat → Int32)) (a12 : (Nat → Int32)) (a13 : (Nat → Int32)) (a15 : (Nat → Int32)) (a16 : (Nat → Int32)) (x1 : Int32), pX12_levelsAll_2 (A 1) n a10 a11 a12 a13 a15 a16 x1 = some res → gGO Γ 0 0 2 [(0, .ref m), (1, .int x1)] [] (mw (g_E Γ) m r o (gu (gu (gu (gu (gu (gu A 10 a10) 11 a11) 12 a12) 13 a13) 15 a15) 16 a16)) := by
  intro n
  induction n with
  | zero => intro _ _ _ _ _ _ _ h; cases h
  | succ n ih =>
    intro a10 a11 a12 a13 a15 a16 x1 h
    simp only [pX12_levelsAll_2] at h
    refine g_iload_n K dX12_levelsAll_2 rfl 1 rfl ?_
    refine g_aload_n K dX12_levelsAll_3 rfl 0 rfl ?_
    refine mg_1 K hin_X12 (u_980) dX12_levelsAll_4 ?_
    refine g_bipush (v := 51) K dX12_levelsAll_7 (by decide) ?_
    obtain ⟨b_1, h⟩ := gi_none h
    refine g_iald (f := (A 1)) K 1 rfl (ginb_in b_1) dX12_levelsAll_9 ?_
    obtain ⟨ht9, hf9⟩ := gi_br h; clear h
    refine g_icmp_ge (tgt := 39) K dX12_levelsAll_10 (by decide) (fun qh => ?_) (fun qh => ?_)
    · have h := ht9 qh; clear ht9 hf9
      refine g_aload_n K dX12_levelsAll_39 rfl 0 rfl ?_
      refine g_iconst (v := (-1)) K dX12_levelsAll_40 (by decide) ?_
      obtain ⟨z_2, hz_2, h⟩ := gi_bd h
      refine g_callVi (As := [.int (-1)]) (bytes := cX12_meanOf) (maxL := 6) (ret := (some .int)) K (ctX12_meanOf o (gu (gu (gu (gu (gu (gu A 10 a10) 11 a11) 12 a12) 13 a13) 15 a15) 16 a16) (-1) (res := z_2) hz_2) gc_V_RX12_188_X12_meanOf rfl qv_X12_meanOf 0 rfl rfl rfl hRm rfl rfl rfl (by decide) (Nat.le_of_ble_eq_true rfl) (by decide) dX12_levelsAll_41 (fun v w hw => ?_)
      obtain ⟨hv9, rfl⟩ := hw; have hv9 := hv9.symm; subst hv9
      refine g_istore_n (L' := [(1, .int z_2), (0, .ref m)]) K dX12_levelsAll_44 rfl (hlt _ (by decide)) rfl ?_
      refine g_iconst (v := 0) K dX12_levelsAll_45 (by decide) ?_
      refine g_istore_n (L' := [(2, .int 0), (1, .int z_2), (0, .ref m)]) K dX12_levelsAll_46 rfl (hlt _ (by decide)) rfl ?_
      refine g_sub (L' := [(0, .ref m), (1, .int z_2), (2, .int 0)]) [2, 1, 0] rfl ?_
      exact wX12_levelsAll_47 K hlt hRm hret 1000 a10 a11 a12 a13 a15 a16 z_2 0 h
    · have h := hf9 qh; clear ht9 hf9
      refine g_aload_n K dX12_levelsAll_13 rfl 0 rfl ?_
      refine mg_12 K hin_X12 (u_991) dX12_levelsAll_14 ?_
      refine g_iload_n K dX12_levelsAll_17 rfl 1 rfl ?_
      refine g_aload_n K dX12_levelsAll_18 rfl 0 rfl ?_
      refine g_iload_n K dX12_levelsAll_19 rfl 1 rfl ?_
      refine g_aload_n K dX12_levelsAll_20 rfl 0 rfl ?_
      refine mg_1 K hin_X12 (u_980) dX12_levelsAll_21 ?_
      refine g_bipush (v := 31) K dX12_levelsAll_24 (by decide) ?_
      refine g_iload_n K dX12_levelsAll_26 rfl 1 rfl ?_
      refine g_iadd K dX12_levelsAll_27 ?_
      obtain ⟨b_3, h⟩ := gi_none h
      refine g_iald (f := (A 1)) K 1 rfl (ginb_in b_3) dX12_levelsAll_28 ?_
      obtain ⟨z_4, hz_4, h⟩ := gi_bd h
      refine g_callVi (As := [.int x1, .int ((A 1) (Int32.toNatClampNeg (31 + x1)))]) (bytes := cX12_markOf) (maxL := 8) (ret := (some .int)) K (ctX12_markOf o (gu (gu (gu (gu (gu (gu A 10 a10) 11 a11) 12 a12) 13 a13) 15 a15) 16 a16) x1 ((A 1) (Int32.toNatClampNeg (31 + x1))) (res := z_4) hz_4) gc_V_RX12_182_X12_markOf rfl qv_X12_markOf 0 rfl rfl rfl hRm rfl rfl rfl (by decide) (Nat.le_of_ble_eq_true rfl) (by decide) dX12_levelsAll_29 (fun v w hw => ?_)
      obtain ⟨hv9, rfl⟩ := hw; have hv9 := hv9.symm; subst hv9
      refine g_ws (ws' := mw (g_E Γ) m r o (gu (gu (gu (gu (gu (gu A 10 z_4.2.1) 11 z_4.2.2) 12 a12) 13 a13) 15 a15) 16 a16)) rfl ?_
      obtain ⟨b_5, h⟩ := gi_none h
      obtain ⟨f_6, ef_6, h⟩ := gi_nm h
      refine g_iast (f := a12) (ws' := mw (g_E Γ) m r o (gu (gu (gu (gu (gu (gu A 10 z_4.2.1) 11 z_4.2.2) 12 f_6) 13 a13) 15 a15) 16 a16)) K 6 rfl (ginb_in b_5) dX12_levelsAll_32 (by rw [ef_6]; rfl) ?_
      refine g_iinc (v := (x1 + 1)) (L' := [(1, .int (x1 + 1)), (0, .ref m)]) K dX12_levelsAll_33 1 rfl rfl (hlt _ (by decide)) rfl ?_
      refine g_goto (tgt := 2) K dX12_levelsAll_36 (by decide) ?_
      refine g_sub (L' := [(0, .ref m), (1, .int (x1 + 1))]) [1, 0] rfl ?_
      exact ih z_4.2.1 z_4.2.2 f_6 a13 a15 a16 (x1 + 1) h

set_option maxHeartbeats 4000000 in
set_option maxRecDepth 100000 in
theorem wX12_levelsAll {Γ : gT} {m : Nat} {r : Nat → Nat} {o : Nat → Int32} {A : Nat → Nat → Int32} (K : gOK Γ cX12_levelsAll gU RX12) (hlt : ∀ i, i < 3 → i < g_n Γ) (hRm : g_R Γ = ({ frames := 8, cells := 0, slots := 0, locals := 244 } : Room)) {res : ((Nat → Int32)) × ((Nat → Int32)) × ((Nat → Int32)) × ((Nat → Int32)) × ((Nat → Int32)) × ((Nat → Int32))} (hret : ∀ (pc : Nat) (L : List (Nat × Value)) (w : va_W), decode cX12_levelsAll pc = .ok (.return_, 1) → (w = mw (g_E Γ) m r o (gu (gu (gu (gu (gu (gu A 10 res.1) 11 res.2.1) 12 res.2.2.1) 13 res.2.2.2.1) 15 res.2.2.2.2.1) 16 res.2.2.2.2.2)) → gGO Γ 0 0 pc L [] w) (a10 : (Nat → Int32)) (a11 : (Nat → Int32)) (a12 : (Nat → Int32)) (a13 : (Nat → Int32)) (a15 : (Nat → Int32)) (a16 : (Nat → Int32)) (h : pX12_levelsAll (A 1) a10 a11 a12 a13 a15 a16 = some res) : gGO Γ 0 0 0 [(0, .ref m)] [] (mw (g_E Γ) m r o (gu (gu (gu (gu (gu (gu A 10 a10) 11 a11) 12 a12) 13 a13) 15 a15) 16 a16)) := by
    unfold pX12_levelsAll at h
    refine g_iconst (v := 0) K dX12_levelsAll_0 (by decide) ?_
    refine g_istore_n (L' := [(1, .int 0), (0, .ref m)]) K dX12_levelsAll_1 rfl (hlt _ (by decide)) rfl ?_
    refine g_sub (L' := [(0, .ref m), (1, .int 0)]) [1, 0] rfl ?_
    exact wX12_levelsAll_2 K hlt hRm hret 1000 a10 a11 a12 a13 a15 a16 0 h

set_option maxRecDepth 100000 in
theorem ctX12_levelsAll {E : gE} {m : Nat} {r : Nat → Nat} (o : Nat → Int32) (A : Nat → Nat → Int32) {res : ((Nat → Int32)) × ((Nat → Int32)) × ((Nat → Int32)) × ((Nat → Int32)) × ((Nat → Int32)) × ((Nat → Int32))} (h : pX12_levelsAll (A 1) (A 10) (A 11) (A 12) (A 13) (A 15) (A 16) = some res) : gMv yX12_levelsAll (.code yX12_levelsAll cX12_levelsAll 3 none :: gU) ({ frames := 8, cells := 0, slots := 0, locals := 244 } : Room) 0 0 E [.ref m] (mw E m r o A) (fun w => w = mw E m r o (gu (gu (gu (gu (gu (gu A 10 res.1) 11 res.2.1) 12 res.2.2.1) 13 res.2.2.2.1) 15 res.2.2.2.2.1) 16 res.2.2.2.2.2)) := by
  refine g_met_v (by decide +kernel) (Nat.le_of_ble_eq_true rfl) (fun Γ K hn hE hRm _ hret => ?_)
  subst hE
  have hlt : ∀ i, i < 3 → i < g_n Γ := fun i q => by rw [hn]; exact q
  refine g_ws (ws' := mw (g_E Γ) m r o (gu (gu (gu (gu (gu (gu A 10 (A 10)) 11 (A 11)) 12 (A 12)) 13 (A 13)) 15 (A 15)) 16 (A 16))) rfl ?_
  refine g_sub (L' := [(0, .ref m)]) [0] rfl ?_
  exact wX12_levelsAll K hlt hRm hret (A 10) (A 11) (A 12) (A 13) (A 15) (A 16) h

set_option maxHeartbeats 4000000 in
set_option maxRecDepth 100000 in
theorem wX12_givesFives_at14_137 {Γ : gT} {m : Nat} {r : Nat → Nat} {o : Nat → Int32} {A : Nat → Nat → Int32} (K : gOK Γ cX12_givesFives gU RX12) (hlt : ∀ i, i < 7 → i < g_n Γ) (hRm : g_R Γ = ({ frames := 5, cells := 0, slots := 0, locals := 170 } : Room)) {res : ((Nat → Int32))} (hret : ∀ (pc : Nat) (L : List (Nat × Value)) (w : va_W), decode cX12_givesFives pc = .ok (.return_, 1) → (w = mw (g_E Γ) m r o (gu A 14 res)) → gGO Γ 0 0 pc L [] w) {k2 : (Nat → Int32) → Int32 → Int32 → Option (((Nat → Int32)))} (hk2 : ∀ (a14 : (Nat → Int32)) (x2 : Int32) (x3 : Int32), k2 a14 x2 x3 = some res → gGO Γ 0 0 2 [(0, .ref m), (1, .ref (r 14)), (2, .int x2), (3, .int x3)] [] (mw (g_E Γ) m r o (gu A 14 a14))) (a14 : (Nat → Int32)) (x2 : Int32) (x3 : Int32) (x4 : Int32) (h : pX12_givesFives_at14_137 k2 (A 1) (A 12) (A 15) a14 x2 x3 x4 = some res) : gGO Γ 0 0 137 [(0, .ref m), (1, .ref (r 14)), (2, .int x2), (3, .int x3), (4, .int x4)] [] (mw (g_E Γ) m r o (gu A 14 a14)) := by
    unfold pX12_givesFives_at14_137 at h
    refine g_aload_n K dX12_givesFives_137 rfl 1 rfl ?_
    refine g_iload_n K dX12_givesFives_138 rfl 3 rfl ?_
    refine g_iload K dX12_givesFives_139 4 rfl ?_
    refine g_iload_n K dX12_givesFives_141 rfl 2 rfl ?_
    obtain ⟨ht9, hf9⟩ := gi_br h; clear h
    refine g_icmp_ge (tgt := 149) K dX12_givesFives_142 (by decide) (fun qh => ?_) (fun qh => ?_)
    · have h := ht9 qh; clear ht9 hf9
      refine g_iconst (v := 4) K dX12_givesFives_149 (by decide) ?_
      obtain ⟨b_1, h⟩ := gi_none h
      obtain ⟨f_2, ef_2, h⟩ := gi_nm h
      refine g_iast (f := a14) (ws' := mw (g_E Γ) m r o (gu A 14 f_2)) K 8 rfl (ginb_in b_1) dX12_givesFives_150 (by rw [ef_2]; rfl) ?_
      refine g_iinc (v := (x3 + 1)) (L' := [(3, .int (x3 + 1)), (0, .ref m), (1, .ref (r 14)), (2, .int x2), (4, .int x4)]) K dX12_givesFives_151 3 rfl rfl (hlt _ (by decide)) rfl ?_
      refine g_goto (tgt := 2) K dX12_givesFives_154 (by decide) ?_
      refine g_sub (L' := [(0, .ref m), (1, .ref (r 14)), (2, .int x2), (3, .int (x3 + 1))]) [1, 2, 3, 0] rfl ?_
      exact hk2 f_2 x2 (x3 + 1) h
    · have h := hf9 qh; clear ht9 hf9
      refine g_iconst (v := 5) K dX12_givesFives_145 (by decide) ?_
      refine g_goto (tgt := 150) K dX12_givesFives_146 (by decide) ?_
      obtain ⟨b_3, h⟩ := gi_none h
      obtain ⟨f_4, ef_4, h⟩ := gi_nm h
      refine g_iast (f := a14) (ws' := mw (g_E Γ) m r o (gu A 14 f_4)) K 8 rfl (ginb_in b_3) dX12_givesFives_150 (by rw [ef_4]; rfl) ?_
      refine g_iinc (v := (x3 + 1)) (L' := [(3, .int (x3 + 1)), (0, .ref m), (1, .ref (r 14)), (2, .int x2), (4, .int x4)]) K dX12_givesFives_151 3 rfl rfl (hlt _ (by decide)) rfl ?_
      refine g_goto (tgt := 2) K dX12_givesFives_154 (by decide) ?_
      refine g_sub (L' := [(0, .ref m), (1, .ref (r 14)), (2, .int x2), (3, .int (x3 + 1))]) [1, 2, 3, 0] rfl ?_
      exact hk2 f_4 x2 (x3 + 1) h

set_option maxHeartbeats 4000000 in
set_option maxRecDepth 100000 in
theorem wX12_givesFives_at14_76 {Γ : gT} {m : Nat} {r : Nat → Nat} {o : Nat → Int32} {A : Nat → Nat → Int32} (K : gOK Γ cX12_givesFives gU RX12) (hlt : ∀ i, i < 7 → i < g_n Γ) (hRm : g_R Γ = ({ frames := 5, cells := 0, slots := 0, locals := 170 } : Room)) {res : ((Nat → Int32))} (hret : ∀ (pc : Nat) (L : List (Nat × Value)) (w : va_W), decode cX12_givesFives pc = .ok (.return_, 1) → (w = mw (g_E Γ) m r o (gu A 14 res)) → gGO Γ 0 0 pc L [] w) {k2 : (Nat → Int32) → Int32 → Int32 → Option (((Nat → Int32)))} (hk2 : ∀ (a14 : (Nat → Int32)) (x2 : Int32) (x3 : Int32), k2 a14 x2 x3 = some res → gGO Γ 0 0 2 [(0, .ref m), (1, .ref (r 14)), (2, .int x2), (3, .int x3)] [] (mw (g_E Γ) m r o (gu A 14 a14))) {k35 : (Nat → Int32) → Int32 → Int32 → Int32 → Int32 → Option (((Nat → Int32)))} (hk35 : ∀ (a14 : (Nat → Int32)) (x2 : Int32) (x3 : Int32) (x4 : Int32) (x5 : Int32), k35 a14 x2 x3 x4 x5 = some res → gGO Γ 0 0 35 [(0, .ref m), (1, .ref (r 14)), (2, .int x2), (3, .int x3), (4, .int x4), (5, .int x5)] [] (mw (g_E Γ) m r o (gu A 14 a14))) (a14 : (Nat → Int32)) (x2 : Int32) (x3 : Int32) (x4 : Int32) (x5 : Int32) (y0 : Int32) (h : pX12_givesFives_at14_76 k2 k35 (A 1) (A 12) (A 15) a14 x2 x3 x4 x5 y0 = some res) : gGO Γ 0 0 76 [(0, .ref m), (1, .ref (r 14)), (2, .int x2), (3, .int x3), (4, .int x4), (5, .int x5)] [.int y0] (mw (g_E Γ) m r o (gu A 14 a14)) := by
    unfold pX12_givesFives_at14_76 at h
    refine g_istore (L' := [(6, .int y0), (0, .ref m), (1, .ref (r 14)), (2, .int x2), (3, .int x3), (4, .int x4), (5, .int x5)]) K dX12_givesFives_76 (hlt _ (by decide)) rfl ?_
    refine g_iload K dX12_givesFives_78 5 rfl ?_
    refine g_iload K dX12_givesFives_80 0 rfl ?_
    obtain ⟨ht9, hf9⟩ := gi_br h; clear h
    refine g_if_eq (tgt := 127) K dX12_givesFives_82 (by decide) (fun qh => ?_) (fun qh => ?_)
    · have h := ht9 qh; clear ht9 hf9
      refine g_iconst (v := 0) K dX12_givesFives_127 (by decide) ?_
      refine g_iadd K dX12_givesFives_128 ?_
      obtain ⟨v_1, ev_1, h⟩ := gi_nm h
      refine g_topi ev_1 ?_
      refine g_istore (L' := [(4, .int v_1), (6, .int y0), (0, .ref m), (1, .ref (r 14)), (2, .int x2), (3, .int x3), (5, .int x5)]) K dX12_givesFives_129 (hlt _ (by decide)) rfl ?_
      refine g_iinc (v := (x5 + 1)) (L' := [(5, .int (x5 + 1)), (4, .int v_1), (6, .int y0), (0, .ref m), (1, .ref (r 14)), (2, .int x2), (3, .int x3)]) K dX12_givesFives_131 6 rfl rfl (hlt _ (by decide)) rfl ?_
      refine g_goto (tgt := 35) K dX12_givesFives_134 (by decide) ?_
      refine g_sub (L' := [(0, .ref m), (1, .ref (r 14)), (2, .int x2), (3, .int x3), (4, .int v_1), (5, .int (x5 + 1))]) [3, 4, 5, 6, 1, 0] rfl ?_
      exact hk35 a14 x2 x3 v_1 (x5 + 1) h
    · have h := hf9 qh; clear ht9 hf9
      refine g_aload_n K dX12_givesFives_85 rfl 1 rfl ?_
      refine mg_12 K hin_X12 (u_991) dX12_givesFives_86 ?_
      refine g_iload K dX12_givesFives_89 6 rfl ?_
      obtain ⟨b_2, h⟩ := gi_none h
      refine g_iald (f := (A 12)) K 6 rfl (ginb_in b_2) dX12_givesFives_91 ?_
      refine g_aload_n K dX12_givesFives_92 rfl 1 rfl ?_
      refine mg_12 K hin_X12 (u_991) dX12_givesFives_93 ?_
      refine g_iload_n K dX12_givesFives_96 rfl 4 rfl ?_
      obtain ⟨b_3, h⟩ := gi_none h
      refine g_iald (f := (A 12)) K 6 rfl (ginb_in b_3) dX12_givesFives_97 ?_
      obtain ⟨ht9, hf9⟩ := gi_br h; clear h
      refine g_icmp_gt (tgt := 123) K dX12_givesFives_98 (by decide) (fun qh => ?_) (fun qh => ?_)
      · have h := ht9 qh; clear ht9 hf9
        refine g_iconst (v := 1) K dX12_givesFives_123 (by decide) ?_
        refine g_goto (tgt := 128) K dX12_givesFives_124 (by decide) ?_
        refine g_iadd K dX12_givesFives_128 ?_
        obtain ⟨v_4, ev_4, h⟩ := gi_nm h
        refine g_topi ev_4 ?_
        refine g_istore (L' := [(4, .int v_4), (6, .int y0), (0, .ref m), (1, .ref (r 14)), (2, .int x2), (3, .int x3), (5, .int x5)]) K dX12_givesFives_129 (hlt _ (by decide)) rfl ?_
        refine g_iinc (v := (x5 + 1)) (L' := [(5, .int (x5 + 1)), (4, .int v_4), (6, .int y0), (0, .ref m), (1, .ref (r 14)), (2, .int x2), (3, .int x3)]) K dX12_givesFives_131 6 rfl rfl (hlt _ (by decide)) rfl ?_
        refine g_goto (tgt := 35) K dX12_givesFives_134 (by decide) ?_
        refine g_sub (L' := [(0, .ref m), (1, .ref (r 14)), (2, .int x2), (3, .int x3), (4, .int v_4), (5, .int (x5 + 1))]) [3, 4, 5, 6, 1, 0] rfl ?_
        exact hk35 a14 x2 x3 v_4 (x5 + 1) h
      · have h := hf9 qh; clear ht9 hf9
        refine g_aload_n K dX12_givesFives_101 rfl 1 rfl ?_
        refine mg_12 K hin_X12 (u_991) dX12_givesFives_102 ?_
        refine g_iload K dX12_givesFives_105 6 rfl ?_
        obtain ⟨b_5, h⟩ := gi_none h
        refine g_iald (f := (A 12)) K 6 rfl (ginb_in b_5) dX12_givesFives_107 ?_
        refine g_aload_n K dX12_givesFives_108 rfl 1 rfl ?_
        refine mg_12 K hin_X12 (u_991) dX12_givesFives_109 ?_
        refine g_iload_n K dX12_givesFives_112 rfl 4 rfl ?_
        obtain ⟨b_6, h⟩ := gi_none h
        refine g_iald (f := (A 12)) K 6 rfl (ginb_in b_6) dX12_givesFives_113 ?_
        obtain ⟨ht9, hf9⟩ := gi_br h; clear h
        refine g_icmp_ne (tgt := 127) K dX12_givesFives_114 (by decide) (fun qh => ?_) (fun qh => ?_)
        · have h := hf9 qh; clear ht9 hf9
          refine g_iconst (v := 0) K dX12_givesFives_127 (by decide) ?_
          refine g_iadd K dX12_givesFives_128 ?_
          obtain ⟨v_7, ev_7, h⟩ := gi_nm h
          refine g_topi ev_7 ?_
          refine g_istore (L' := [(4, .int v_7), (6, .int y0), (0, .ref m), (1, .ref (r 14)), (2, .int x2), (3, .int x3), (5, .int x5)]) K dX12_givesFives_129 (hlt _ (by decide)) rfl ?_
          refine g_iinc (v := (x5 + 1)) (L' := [(5, .int (x5 + 1)), (4, .int v_7), (6, .int y0), (0, .ref m), (1, .ref (r 14)), (2, .int x2), (3, .int x3)]) K dX12_givesFives_131 6 rfl rfl (hlt _ (by decide)) rfl ?_
          refine g_goto (tgt := 35) K dX12_givesFives_134 (by decide) ?_
          refine g_sub (L' := [(0, .ref m), (1, .ref (r 14)), (2, .int x2), (3, .int x3), (4, .int v_7), (5, .int (x5 + 1))]) [3, 4, 5, 6, 1, 0] rfl ?_
          exact hk35 a14 x2 x3 v_7 (x5 + 1) h
        · have h := ht9 qh; clear ht9 hf9
          refine g_iload K dX12_givesFives_117 6 rfl ?_
          refine g_iload_n K dX12_givesFives_119 rfl 4 rfl ?_
          obtain ⟨ht9, hf9⟩ := gi_br h; clear h
          refine g_icmp_ge (tgt := 127) K dX12_givesFives_120 (by decide) (fun qh => ?_) (fun qh => ?_)
          · have h := ht9 qh; clear ht9 hf9
            refine g_iconst (v := 0) K dX12_givesFives_127 (by decide) ?_
            refine g_iadd K dX12_givesFives_128 ?_
            obtain ⟨v_8, ev_8, h⟩ := gi_nm h
            refine g_topi ev_8 ?_
            refine g_istore (L' := [(4, .int v_8), (6, .int y0), (0, .ref m), (1, .ref (r 14)), (2, .int x2), (3, .int x3), (5, .int x5)]) K dX12_givesFives_129 (hlt _ (by decide)) rfl ?_
            refine g_iinc (v := (x5 + 1)) (L' := [(5, .int (x5 + 1)), (4, .int v_8), (6, .int y0), (0, .ref m), (1, .ref (r 14)), (2, .int x2), (3, .int x3)]) K dX12_givesFives_131 6 rfl rfl (hlt _ (by decide)) rfl ?_
            refine g_goto (tgt := 35) K dX12_givesFives_134 (by decide) ?_
            refine g_sub (L' := [(0, .ref m), (1, .ref (r 14)), (2, .int x2), (3, .int x3), (4, .int v_8), (5, .int (x5 + 1))]) [3, 4, 5, 6, 1, 0] rfl ?_
            exact hk35 a14 x2 x3 v_8 (x5 + 1) h
          · have h := hf9 qh; clear ht9 hf9
            refine g_iconst (v := 1) K dX12_givesFives_123 (by decide) ?_
            refine g_goto (tgt := 128) K dX12_givesFives_124 (by decide) ?_
            refine g_iadd K dX12_givesFives_128 ?_
            obtain ⟨v_9, ev_9, h⟩ := gi_nm h
            refine g_topi ev_9 ?_
            refine g_istore (L' := [(4, .int v_9), (6, .int y0), (0, .ref m), (1, .ref (r 14)), (2, .int x2), (3, .int x3), (5, .int x5)]) K dX12_givesFives_129 (hlt _ (by decide)) rfl ?_
            refine g_iinc (v := (x5 + 1)) (L' := [(5, .int (x5 + 1)), (4, .int v_9), (6, .int y0), (0, .ref m), (1, .ref (r 14)), (2, .int x2), (3, .int x3)]) K dX12_givesFives_131 6 rfl rfl (hlt _ (by decide)) rfl ?_
            refine g_goto (tgt := 35) K dX12_givesFives_134 (by decide) ?_
            refine g_sub (L' := [(0, .ref m), (1, .ref (r 14)), (2, .int x2), (3, .int x3), (4, .int v_9), (5, .int (x5 + 1))]) [3, 4, 5, 6, 1, 0] rfl ?_
            exact hk35 a14 x2 x3 v_9 (x5 + 1) h

set_option maxHeartbeats 4000000 in
set_option maxRecDepth 100000 in
theorem wX12_givesFives_at14_35 {Γ : gT} {m : Nat} {r : Nat → Nat} {o : Nat → Int32} {A : Nat → Nat → Int32} (K : gOK Γ cX12_givesFives gU RX12) (hlt : ∀ i, i < 7 → i < g_n Γ) (hRm : g_R Γ = ({ frames := 5, cells := 0, slots := 0, locals := 170 } : Room)) {res : ((Nat → Int32))} (hret : ∀ (pc : Nat) (L : List (Nat × Value)) (w : va_W), decode cX12_givesFives pc = .ok (.return_, 1) → (w = mw (g_E Γ) m r o (gu A 14 res)) → gGO Γ 0 0 pc L [] w) {k2 : (Nat → Int32) → Int32 → Int32 → Option (((Nat → Int32)))} (hk2 : ∀ (a14 : (Nat → Int32)) (x2 : Int32) (x3 : Int32), k2 a14 x2 x3 = some res → gGO Γ 0 0 2 [(0, .ref m), (1, .ref (r 14)), (2, .int x2), (3, .int x3)] [] (mw (g_E Γ) m r o (gu A 14 a14))) : ∀ (n : Nat) (a14 : (Nat → Int32)) (x2 : Int32) (x3 : Int32) (x4 : Int32) (x5 : Int32), pX12_givesFives_at14_35 k2 (A 1) (A 12) (A 15) n a14 x2 x3 x4 x5 = some res → gGO Γ 0 0 35 [(0, .ref m), (1, .ref (r 14)), (2, .int x2), (3, .int x3), (4, .int x4), (5, .int x5)] [] (mw (g_E Γ) m r o (gu A 14 a14)) := by
  intro n
  induction n with
  | zero => intro _ _ _ _ _ h; cases h
  | succ n ih =>
    intro a14 x2 x3 x4 x5 h
    simp only [pX12_givesFives_at14_35] at h
    refine g_iload K dX12_givesFives_35 5 rfl ?_
    refine g_aload_n K dX12_givesFives_37 rfl 0 rfl ?_
    refine mg_1 K hin_X12 (u_980) dX12_givesFives_38 ?_
    refine g_bipush (v := 51) K dX12_givesFives_41 (by decide) ?_
    obtain ⟨b_1, h⟩ := gi_none h
    refine g_iald (f := (A 1)) K 1 rfl (ginb_in b_1) dX12_givesFives_43 ?_
    obtain ⟨ht9, hf9⟩ := gi_br h; clear h
    refine g_icmp_ge (tgt := 137) K dX12_givesFives_44 (by decide) (fun qh => ?_) (fun qh => ?_)
    · have h := ht9 qh; clear ht9 hf9
      refine g_sub (L' := [(0, .ref m), (1, .ref (r 14)), (2, .int x2), (3, .int x3), (4, .int x4)]) [0, 1, 2, 3, 4] rfl ?_
      exact wX12_givesFives_at14_137 K hlt hRm hret hk2 a14 x2 x3 x4 h
    · have h := hf9 qh; clear ht9 hf9
      refine g_aload_n K dX12_givesFives_47 rfl 0 rfl ?_
      refine mg_15 K hin_X12 (u_994) dX12_givesFives_48 ?_
      refine g_iload K dX12_givesFives_51 5 rfl ?_
      obtain ⟨b_2, h⟩ := gi_none h
      refine g_zald (f := (A 15)) K 9 rfl (ginb_in b_2) dX12_givesFives_53 ?_
      obtain ⟨ht9, hf9⟩ := gi_br h; clear h
      refine g_if_eq (tgt := 75) K dX12_givesFives_54 (by decide) (fun qh => ?_) (fun qh => ?_)
      · have h := ht9 qh; clear ht9 hf9
        refine g_iconst (v := 0) K dX12_givesFives_75 (by decide) ?_
        exact wX12_givesFives_at14_76 K hlt hRm hret hk2 ih a14 x2 x3 x4 x5 0 h
      · have h := hf9 qh; clear ht9 hf9
        refine g_aload_n K dX12_givesFives_57 rfl 0 rfl ?_
        refine mg_12 K hin_X12 (u_991) dX12_givesFives_58 ?_
        refine g_iload K dX12_givesFives_61 5 rfl ?_
        obtain ⟨b_3, h⟩ := gi_none h
        refine g_iald (f := (A 12)) K 6 rfl (ginb_in b_3) dX12_givesFives_63 ?_
        obtain ⟨z_4, hz_4, h⟩ := gi_bd h
        refine g_callSi (As := [.int ((A 12) (Int32.toNatClampNeg x5))]) (bytes := cX12_gradeBy) (maxL := 1) (ret := (some .int)) K (ctX12_gradeBy (ws := mw (g_E Γ) m r o (gu A 14 a14)) ((A 12) (Int32.toNatClampNeg x5)) (res := z_4) hz_4) gc_S_RX12_155_X12_gradeBy rfl qs_X12_gradeBy hRm rfl rfl rfl (by decide) (Nat.le_of_ble_eq_true rfl) (by decide) dX12_givesFives_64 (fun v w hw => ?_)
        obtain ⟨hv9, rfl⟩ := hw; have hv9 := hv9.symm; subst hv9
        refine g_iconst (v := 5) K dX12_givesFives_67 (by decide) ?_
        obtain ⟨ht9, hf9⟩ := gi_br h; clear h
        refine g_icmp_ne (tgt := 75) K dX12_givesFives_68 (by decide) (fun qh => ?_) (fun qh => ?_)
        · have h := hf9 qh; clear ht9 hf9
          refine g_iconst (v := 0) K dX12_givesFives_75 (by decide) ?_
          exact wX12_givesFives_at14_76 K hlt hRm hret hk2 ih a14 x2 x3 x4 x5 0 h
        · have h := ht9 qh; clear ht9 hf9
          refine g_iconst (v := 1) K dX12_givesFives_71 (by decide) ?_
          refine g_goto (tgt := 76) K dX12_givesFives_72 (by decide) ?_
          exact wX12_givesFives_at14_76 K hlt hRm hret hk2 ih a14 x2 x3 x4 x5 1 h

set_option maxHeartbeats 4000000 in
set_option maxRecDepth 100000 in
theorem wX12_givesFives_at14_2 {Γ : gT} {m : Nat} {r : Nat → Nat} {o : Nat → Int32} {A : Nat → Nat → Int32} (K : gOK Γ cX12_givesFives gU RX12) (hlt : ∀ i, i < 7 → i < g_n Γ) (hRm : g_R Γ = ({ frames := 5, cells := 0, slots := 0, locals := 170 } : Room)) {res : ((Nat → Int32))} (hret : ∀ (pc : Nat) (L : List (Nat × Value)) (w : va_W), decode cX12_givesFives pc = .ok (.return_, 1) → (w = mw (g_E Γ) m r o (gu A 14 res)) → gGO Γ 0 0 pc L [] w) : ∀ (n : Nat) (a14 : (Nat → Int32)) (x2 : Int32) (x3 : Int32), pX12_givesFives_at14_2 (A 1) (A 12) (A 15) n a14 x2 x3 = some res → gGO Γ 0 0 2 [(0, .ref m), (1, .ref (r 14)), (2, .int x2), (3, .int x3)] [] (mw (g_E Γ) m r o (gu A 14 a14)) := by
  intro n
  induction n with
  | zero => intro _ _ _ h; cases h
  | succ n ih =>
    intro a14 x2 x3 h
    simp only [pX12_givesFives_at14_2] at h
    refine g_iload_n K dX12_givesFives_2 rfl 3 rfl ?_
    refine g_aload_n K dX12_givesFives_3 rfl 0 rfl ?_
    refine mg_1 K hin_X12 (u_980) dX12_givesFives_4 ?_
    refine g_bipush (v := 51) K dX12_givesFives_7 (by decide) ?_
    obtain ⟨b_1, h⟩ := gi_none h
    refine g_iald (f := (A 1)) K 1 rfl (ginb_in b_1) dX12_givesFives_9 ?_
    obtain ⟨ht9, hf9⟩ := gi_br h; clear h
    refine g_icmp_ge (tgt := 157) K dX12_givesFives_10 (by decide) (fun qh => ?_) (fun qh => ?_)
    · have h := ht9 qh; clear ht9 hf9
      obtain rfl := Option.some.inj h
      exact hret _ _ _ dX12_givesFives_157 rfl
    · have h := hf9 qh; clear ht9 hf9
      refine g_aload_n K dX12_givesFives_13 rfl 0 rfl ?_
      refine mg_15 K hin_X12 (u_994) dX12_givesFives_14 ?_
      refine g_iload_n K dX12_givesFives_17 rfl 3 rfl ?_
      obtain ⟨b_2, h⟩ := gi_none h
      refine g_zald (f := (A 15)) K 9 rfl (ginb_in b_2) dX12_givesFives_18 ?_
      obtain ⟨ht9, hf9⟩ := gi_br h; clear h
      refine g_if_eq (tgt := 151) K dX12_givesFives_19 (by decide) (fun qh => ?_) (fun qh => ?_)
      · have h := ht9 qh; clear ht9 hf9
        refine g_iinc (v := (x3 + 1)) (L' := [(3, .int (x3 + 1)), (0, .ref m), (1, .ref (r 14)), (2, .int x2)]) K dX12_givesFives_151 3 rfl rfl (hlt _ (by decide)) rfl ?_
        refine g_goto (tgt := 2) K dX12_givesFives_154 (by decide) ?_
        refine g_sub (L' := [(0, .ref m), (1, .ref (r 14)), (2, .int x2), (3, .int (x3 + 1))]) [1, 2, 3, 0] rfl ?_
        exact ih a14 x2 (x3 + 1) h
      · have h := hf9 qh; clear ht9 hf9
        refine g_aload_n K dX12_givesFives_22 rfl 1 rfl ?_
        refine g_iload_n K dX12_givesFives_23 rfl 3 rfl ?_
        obtain ⟨b_3, h⟩ := gi_none h
        refine g_iald (f := a14) K 8 rfl (ginb_in b_3) dX12_givesFives_24 ?_
        refine g_iconst (v := 5) K dX12_givesFives_25 (by decide) ?_
        obtain ⟨ht9, hf9⟩ := gi_br h; clear h
        refine g_icmp_ne (tgt := 151) K dX12_givesFives_26 (by decide) (fun qh => ?_) (fun qh => ?_)
        · have h := hf9 qh; clear ht9 hf9
          refine g_iinc (v := (x3 + 1)) (L' := [(3, .int (x3 + 1)), (0, .ref m), (1, .ref (r 14)), (2, .int x2)]) K dX12_givesFives_151 3 rfl rfl (hlt _ (by decide)) rfl ?_
          refine g_goto (tgt := 2) K dX12_givesFives_154 (by decide) ?_
          refine g_sub (L' := [(0, .ref m), (1, .ref (r 14)), (2, .int x2), (3, .int (x3 + 1))]) [1, 2, 3, 0] rfl ?_
          exact ih a14 x2 (x3 + 1) h
        · have h := ht9 qh; clear ht9 hf9
          refine g_iconst (v := 0) K dX12_givesFives_29 (by decide) ?_
          refine g_istore (L' := [(4, .int 0), (0, .ref m), (1, .ref (r 14)), (2, .int x2), (3, .int x3)]) K dX12_givesFives_30 (hlt _ (by decide)) rfl ?_
          refine g_iconst (v := 0) K dX12_givesFives_32 (by decide) ?_
          refine g_istore (L' := [(5, .int 0), (4, .int 0), (0, .ref m), (1, .ref (r 14)), (2, .int x2), (3, .int x3)]) K dX12_givesFives_33 (hlt _ (by decide)) rfl ?_
          refine g_sub (L' := [(0, .ref m), (1, .ref (r 14)), (2, .int x2), (3, .int x3), (4, .int 0), (5, .int 0)]) [2, 3, 4, 5, 1, 0] rfl ?_
          exact wX12_givesFives_at14_35 K hlt hRm hret ih 1000 a14 x2 x3 0 0 h

set_option maxHeartbeats 4000000 in
set_option maxRecDepth 100000 in
theorem wX12_givesFives_at14 {Γ : gT} {m : Nat} {r : Nat → Nat} {o : Nat → Int32} {A : Nat → Nat → Int32} (K : gOK Γ cX12_givesFives gU RX12) (hlt : ∀ i, i < 7 → i < g_n Γ) (hRm : g_R Γ = ({ frames := 5, cells := 0, slots := 0, locals := 170 } : Room)) {res : ((Nat → Int32))} (hret : ∀ (pc : Nat) (L : List (Nat × Value)) (w : va_W), decode cX12_givesFives pc = .ok (.return_, 1) → (w = mw (g_E Γ) m r o (gu A 14 res)) → gGO Γ 0 0 pc L [] w) (a14 : (Nat → Int32)) (x2 : Int32) (h : pX12_givesFives_at14 (A 1) (A 12) (A 15) a14 x2 = some res) : gGO Γ 0 0 0 [(0, .ref m), (1, .ref (r 14)), (2, .int x2)] [] (mw (g_E Γ) m r o (gu A 14 a14)) := by
    unfold pX12_givesFives_at14 at h
    refine g_iconst (v := 0) K dX12_givesFives_0 (by decide) ?_
    refine g_istore_n (L' := [(3, .int 0), (0, .ref m), (1, .ref (r 14)), (2, .int x2)]) K dX12_givesFives_1 rfl (hlt _ (by decide)) rfl ?_
    refine g_sub (L' := [(0, .ref m), (1, .ref (r 14)), (2, .int x2), (3, .int 0)]) [1, 2, 3, 0] rfl ?_
    exact wX12_givesFives_at14_2 K hlt hRm hret 1000 a14 x2 0 h

set_option maxRecDepth 100000 in
theorem ctX12_givesFives_at14 {E : gE} {m : Nat} {r : Nat → Nat} (o : Nat → Int32) (A : Nat → Nat → Int32) (x2 : Int32) {res : ((Nat → Int32))} (h : pX12_givesFives_at14 (A 1) (A 12) (A 15) (A 14) x2 = some res) : gMv yX12_givesFives (.code yX12_givesFives cX12_givesFives 7 none :: gU) ({ frames := 5, cells := 0, slots := 0, locals := 170 } : Room) 0 0 E [.ref m, .ref (r 14), .int x2] (mw E m r o A) (fun w => w = mw E m r o (gu A 14 res)) := by
  refine g_met_v (by decide +kernel) (Nat.le_of_ble_eq_true rfl) (fun Γ K hn hE hRm _ hret => ?_)
  subst hE
  have hlt : ∀ i, i < 7 → i < g_n Γ := fun i q => by rw [hn]; exact q
  refine g_ws (ws' := mw (g_E Γ) m r o (gu A 14 (A 14))) rfl ?_
  refine g_sub (L' := [(0, .ref m), (1, .ref (r 14)), (2, .int x2)]) [0, 1, 2] rfl ?_
  exact wX12_givesFives_at14 K hlt hRm hret (A 14) x2 h

set_option maxHeartbeats 4000000 in
set_option maxRecDepth 100000 in
theorem wX12_givesOnes_at14_104 {Γ : gT} {m : Nat} {r : Nat → Nat} {o : Nat → Int32} {A : Nat → Nat → Int32} (K : gOK Γ cX12_givesOnes gU RX12) (hlt : ∀ i, i < 6 → i < g_n Γ) (hRm : g_R Γ = ({ frames := 4, cells := 0, slots := 0, locals := 150 } : Room)) {res : ((Nat → Int32))} (hret : ∀ (pc : Nat) (L : List (Nat × Value)) (w : va_W), decode cX12_givesOnes pc = .ok (.return_, 1) → (w = mw (g_E Γ) m r o (gu A 14 res)) → gGO Γ 0 0 pc L [] w) {k2 : (Nat → Int32) → Int32 → Int32 → Option (((Nat → Int32)))} (hk2 : ∀ (a14 : (Nat → Int32)) (x2 : Int32) (x3 : Int32), k2 a14 x2 x3 = some res → gGO Γ 0 0 2 [(0, .ref m), (1, .ref (r 14)), (2, .int x2), (3, .int x3)] [] (mw (g_E Γ) m r o (gu A 14 a14))) (a14 : (Nat → Int32)) (x2 : Int32) (x3 : Int32) (x4 : Int32) (h : pX12_givesOnes_at14_104 k2 (A 1) (A 12) (A 15) a14 x2 x3 x4 = some res) : gGO Γ 0 0 104 [(0, .ref m), (1, .ref (r 14)), (2, .int x2), (3, .int x3), (4, .int x4)] [] (mw (g_E Γ) m r o (gu A 14 a14)) := by
    unfold pX12_givesOnes_at14_104 at h
    refine g_aload_n K dX12_givesOnes_104 rfl 1 rfl ?_
    refine g_iload_n K dX12_givesOnes_105 rfl 3 rfl ?_
    refine g_iload K dX12_givesOnes_106 4 rfl ?_
    refine g_iload_n K dX12_givesOnes_108 rfl 2 rfl ?_
    obtain ⟨ht9, hf9⟩ := gi_br h; clear h
    refine g_icmp_ge (tgt := 116) K dX12_givesOnes_109 (by decide) (fun qh => ?_) (fun qh => ?_)
    · have h := ht9 qh; clear ht9 hf9
      refine g_aload_n K dX12_givesOnes_116 rfl 1 rfl ?_
      refine g_iload_n K dX12_givesOnes_117 rfl 3 rfl ?_
      obtain ⟨b_1, h⟩ := gi_none h
      refine g_iald (f := a14) K 8 rfl (ginb_in b_1) dX12_givesOnes_118 ?_
      obtain ⟨b_2, h⟩ := gi_none h
      obtain ⟨f_3, ef_3, h⟩ := gi_nm h
      refine g_iast (f := a14) (ws' := mw (g_E Γ) m r o (gu A 14 f_3)) K 8 rfl (ginb_in b_2) dX12_givesOnes_119 (by rw [ef_3]; rfl) ?_
      refine g_iinc (v := (x3 + 1)) (L' := [(3, .int (x3 + 1)), (0, .ref m), (1, .ref (r 14)), (2, .int x2), (4, .int x4)]) K dX12_givesOnes_120 3 rfl rfl (hlt _ (by decide)) rfl ?_
      refine g_goto (tgt := 2) K dX12_givesOnes_123 (by decide) ?_
      refine g_sub (L' := [(0, .ref m), (1, .ref (r 14)), (2, .int x2), (3, .int (x3 + 1))]) [1, 2, 3, 0] rfl ?_
      exact hk2 f_3 x2 (x3 + 1) h
    · have h := hf9 qh; clear ht9 hf9
      refine g_iconst (v := 1) K dX12_givesOnes_112 (by decide) ?_
      refine g_goto (tgt := 119) K dX12_givesOnes_113 (by decide) ?_
      obtain ⟨b_4, h⟩ := gi_none h
      obtain ⟨f_5, ef_5, h⟩ := gi_nm h
      refine g_iast (f := a14) (ws' := mw (g_E Γ) m r o (gu A 14 f_5)) K 8 rfl (ginb_in b_4) dX12_givesOnes_119 (by rw [ef_5]; rfl) ?_
      refine g_iinc (v := (x3 + 1)) (L' := [(3, .int (x3 + 1)), (0, .ref m), (1, .ref (r 14)), (2, .int x2), (4, .int x4)]) K dX12_givesOnes_120 3 rfl rfl (hlt _ (by decide)) rfl ?_
      refine g_goto (tgt := 2) K dX12_givesOnes_123 (by decide) ?_
      refine g_sub (L' := [(0, .ref m), (1, .ref (r 14)), (2, .int x2), (3, .int (x3 + 1))]) [1, 2, 3, 0] rfl ?_
      exact hk2 f_5 x2 (x3 + 1) h

set_option maxHeartbeats 4000000 in
set_option maxRecDepth 100000 in
theorem wX12_givesOnes_at14_28 {Γ : gT} {m : Nat} {r : Nat → Nat} {o : Nat → Int32} {A : Nat → Nat → Int32} (K : gOK Γ cX12_givesOnes gU RX12) (hlt : ∀ i, i < 6 → i < g_n Γ) (hRm : g_R Γ = ({ frames := 4, cells := 0, slots := 0, locals := 150 } : Room)) {res : ((Nat → Int32))} (hret : ∀ (pc : Nat) (L : List (Nat × Value)) (w : va_W), decode cX12_givesOnes pc = .ok (.return_, 1) → (w = mw (g_E Γ) m r o (gu A 14 res)) → gGO Γ 0 0 pc L [] w) {k2 : (Nat → Int32) → Int32 → Int32 → Option (((Nat → Int32)))} (hk2 : ∀ (a14 : (Nat → Int32)) (x2 : Int32) (x3 : Int32), k2 a14 x2 x3 = some res → gGO Γ 0 0 2 [(0, .ref m), (1, .ref (r 14)), (2, .int x2), (3, .int x3)] [] (mw (g_E Γ) m r o (gu A 14 a14))) : ∀ (n : Nat) (a14 : (Nat → Int32)) (x2 : Int32) (x3 : Int32) (x4 : Int32) (x5 : Int32), pX12_givesOnes_at14_28 k2 (A 1) (A 12) (A 15) n a14 x2 x3 x4 x5 = some res → gGO Γ 0 0 28 [(0, .ref m), (1, .ref (r 14)), (2, .int x2), (3, .int x3), (4, .int x4), (5, .int x5)] [] (mw (g_E Γ) m r o (gu A 14 a14)) := by
  intro n
  induction n with
  | zero => intro _ _ _ _ _ h; cases h
  | succ n ih =>
    intro a14 x2 x3 x4 x5 h
    simp only [pX12_givesOnes_at14_28] at h
    refine g_iload K dX12_givesOnes_28 5 rfl ?_
    refine g_aload_n K dX12_givesOnes_30 rfl 0 rfl ?_
    refine mg_1 K hin_X12 (u_980) dX12_givesOnes_31 ?_
    refine g_bipush (v := 51) K dX12_givesOnes_34 (by decide) ?_
    obtain ⟨b_1, h⟩ := gi_none h
    refine g_iald (f := (A 1)) K 1 rfl (ginb_in b_1) dX12_givesOnes_36 ?_
    obtain ⟨ht9, hf9⟩ := gi_br h; clear h
    refine g_icmp_ge (tgt := 104) K dX12_givesOnes_37 (by decide) (fun qh => ?_) (fun qh => ?_)
    · have h := ht9 qh; clear ht9 hf9
      refine g_sub (L' := [(0, .ref m), (1, .ref (r 14)), (2, .int x2), (3, .int x3), (4, .int x4)]) [0, 1, 2, 3, 4] rfl ?_
      exact wX12_givesOnes_at14_104 K hlt hRm hret hk2 a14 x2 x3 x4 h
    · have h := hf9 qh; clear ht9 hf9
      refine g_iload K dX12_givesOnes_40 4 rfl ?_
      refine g_aload_n K dX12_givesOnes_42 rfl 0 rfl ?_
      refine mg_15 K hin_X12 (u_994) dX12_givesOnes_43 ?_
      refine g_iload K dX12_givesOnes_46 5 rfl ?_
      obtain ⟨b_2, h⟩ := gi_none h
      refine g_zald (f := (A 15)) K 9 rfl (ginb_in b_2) dX12_givesOnes_48 ?_
      obtain ⟨ht9, hf9⟩ := gi_br h; clear h
      refine g_if_eq (tgt := 94) K dX12_givesOnes_49 (by decide) (fun qh => ?_) (fun qh => ?_)
      · have h := ht9 qh; clear ht9 hf9
        refine g_iconst (v := 0) K dX12_givesOnes_94 (by decide) ?_
        refine g_iadd K dX12_givesOnes_95 ?_
        obtain ⟨v_3, ev_3, h⟩ := gi_nm h
        refine g_topi ev_3 ?_
        refine g_istore (L' := [(4, .int v_3), (0, .ref m), (1, .ref (r 14)), (2, .int x2), (3, .int x3), (5, .int x5)]) K dX12_givesOnes_96 (hlt _ (by decide)) rfl ?_
        refine g_iinc (v := (x5 + 1)) (L' := [(5, .int (x5 + 1)), (4, .int v_3), (0, .ref m), (1, .ref (r 14)), (2, .int x2), (3, .int x3)]) K dX12_givesOnes_98 5 rfl rfl (hlt _ (by decide)) rfl ?_
        refine g_goto (tgt := 28) K dX12_givesOnes_101 (by decide) ?_
        refine g_sub (L' := [(0, .ref m), (1, .ref (r 14)), (2, .int x2), (3, .int x3), (4, .int v_3), (5, .int (x5 + 1))]) [2, 3, 4, 5, 1, 0] rfl ?_
        exact ih a14 x2 x3 v_3 (x5 + 1) h
      · have h := hf9 qh; clear ht9 hf9
        refine g_aload_n K dX12_givesOnes_52 rfl 0 rfl ?_
        refine mg_12 K hin_X12 (u_991) dX12_givesOnes_53 ?_
        refine g_iload K dX12_givesOnes_56 5 rfl ?_
        obtain ⟨b_4, h⟩ := gi_none h
        refine g_iald (f := (A 12)) K 6 rfl (ginb_in b_4) dX12_givesOnes_58 ?_
        refine g_aload_n K dX12_givesOnes_59 rfl 0 rfl ?_
        refine mg_12 K hin_X12 (u_991) dX12_givesOnes_60 ?_
        refine g_iload_n K dX12_givesOnes_63 rfl 3 rfl ?_
        obtain ⟨b_5, h⟩ := gi_none h
        refine g_iald (f := (A 12)) K 6 rfl (ginb_in b_5) dX12_givesOnes_64 ?_
        obtain ⟨ht9, hf9⟩ := gi_br h; clear h
        refine g_icmp_lt (tgt := 90) K dX12_givesOnes_65 (by decide) (fun qh => ?_) (fun qh => ?_)
        · have h := ht9 qh; clear ht9 hf9
          refine g_iconst (v := 1) K dX12_givesOnes_90 (by decide) ?_
          refine g_goto (tgt := 95) K dX12_givesOnes_91 (by decide) ?_
          refine g_iadd K dX12_givesOnes_95 ?_
          obtain ⟨v_6, ev_6, h⟩ := gi_nm h
          refine g_topi ev_6 ?_
          refine g_istore (L' := [(4, .int v_6), (0, .ref m), (1, .ref (r 14)), (2, .int x2), (3, .int x3), (5, .int x5)]) K dX12_givesOnes_96 (hlt _ (by decide)) rfl ?_
          refine g_iinc (v := (x5 + 1)) (L' := [(5, .int (x5 + 1)), (4, .int v_6), (0, .ref m), (1, .ref (r 14)), (2, .int x2), (3, .int x3)]) K dX12_givesOnes_98 5 rfl rfl (hlt _ (by decide)) rfl ?_
          refine g_goto (tgt := 28) K dX12_givesOnes_101 (by decide) ?_
          refine g_sub (L' := [(0, .ref m), (1, .ref (r 14)), (2, .int x2), (3, .int x3), (4, .int v_6), (5, .int (x5 + 1))]) [2, 3, 4, 5, 1, 0] rfl ?_
          exact ih a14 x2 x3 v_6 (x5 + 1) h
        · have h := hf9 qh; clear ht9 hf9
          refine g_aload_n K dX12_givesOnes_68 rfl 0 rfl ?_
          refine mg_12 K hin_X12 (u_991) dX12_givesOnes_69 ?_
          refine g_iload K dX12_givesOnes_72 5 rfl ?_
          obtain ⟨b_7, h⟩ := gi_none h
          refine g_iald (f := (A 12)) K 6 rfl (ginb_in b_7) dX12_givesOnes_74 ?_
          refine g_aload_n K dX12_givesOnes_75 rfl 0 rfl ?_
          refine mg_12 K hin_X12 (u_991) dX12_givesOnes_76 ?_
          refine g_iload_n K dX12_givesOnes_79 rfl 3 rfl ?_
          obtain ⟨b_8, h⟩ := gi_none h
          refine g_iald (f := (A 12)) K 6 rfl (ginb_in b_8) dX12_givesOnes_80 ?_
          obtain ⟨ht9, hf9⟩ := gi_br h; clear h
          refine g_icmp_ne (tgt := 94) K dX12_givesOnes_81 (by decide) (fun qh => ?_) (fun qh => ?_)
          · have h := hf9 qh; clear ht9 hf9
            refine g_iconst (v := 0) K dX12_givesOnes_94 (by decide) ?_
            refine g_iadd K dX12_givesOnes_95 ?_
            obtain ⟨v_9, ev_9, h⟩ := gi_nm h
            refine g_topi ev_9 ?_
            refine g_istore (L' := [(4, .int v_9), (0, .ref m), (1, .ref (r 14)), (2, .int x2), (3, .int x3), (5, .int x5)]) K dX12_givesOnes_96 (hlt _ (by decide)) rfl ?_
            refine g_iinc (v := (x5 + 1)) (L' := [(5, .int (x5 + 1)), (4, .int v_9), (0, .ref m), (1, .ref (r 14)), (2, .int x2), (3, .int x3)]) K dX12_givesOnes_98 5 rfl rfl (hlt _ (by decide)) rfl ?_
            refine g_goto (tgt := 28) K dX12_givesOnes_101 (by decide) ?_
            refine g_sub (L' := [(0, .ref m), (1, .ref (r 14)), (2, .int x2), (3, .int x3), (4, .int v_9), (5, .int (x5 + 1))]) [2, 3, 4, 5, 1, 0] rfl ?_
            exact ih a14 x2 x3 v_9 (x5 + 1) h
          · have h := ht9 qh; clear ht9 hf9
            refine g_iload K dX12_givesOnes_84 5 rfl ?_
            refine g_iload_n K dX12_givesOnes_86 rfl 3 rfl ?_
            obtain ⟨ht9, hf9⟩ := gi_br h; clear h
            refine g_icmp_le (tgt := 94) K dX12_givesOnes_87 (by decide) (fun qh => ?_) (fun qh => ?_)
            · have h := ht9 qh; clear ht9 hf9
              refine g_iconst (v := 0) K dX12_givesOnes_94 (by decide) ?_
              refine g_iadd K dX12_givesOnes_95 ?_
              obtain ⟨v_10, ev_10, h⟩ := gi_nm h
              refine g_topi ev_10 ?_
              refine g_istore (L' := [(4, .int v_10), (0, .ref m), (1, .ref (r 14)), (2, .int x2), (3, .int x3), (5, .int x5)]) K dX12_givesOnes_96 (hlt _ (by decide)) rfl ?_
              refine g_iinc (v := (x5 + 1)) (L' := [(5, .int (x5 + 1)), (4, .int v_10), (0, .ref m), (1, .ref (r 14)), (2, .int x2), (3, .int x3)]) K dX12_givesOnes_98 5 rfl rfl (hlt _ (by decide)) rfl ?_
              refine g_goto (tgt := 28) K dX12_givesOnes_101 (by decide) ?_
              refine g_sub (L' := [(0, .ref m), (1, .ref (r 14)), (2, .int x2), (3, .int x3), (4, .int v_10), (5, .int (x5 + 1))]) [2, 3, 4, 5, 1, 0] rfl ?_
              exact ih a14 x2 x3 v_10 (x5 + 1) h
            · have h := hf9 qh; clear ht9 hf9
              refine g_iconst (v := 1) K dX12_givesOnes_90 (by decide) ?_
              refine g_goto (tgt := 95) K dX12_givesOnes_91 (by decide) ?_
              refine g_iadd K dX12_givesOnes_95 ?_
              obtain ⟨v_11, ev_11, h⟩ := gi_nm h
              refine g_topi ev_11 ?_
              refine g_istore (L' := [(4, .int v_11), (0, .ref m), (1, .ref (r 14)), (2, .int x2), (3, .int x3), (5, .int x5)]) K dX12_givesOnes_96 (hlt _ (by decide)) rfl ?_
              refine g_iinc (v := (x5 + 1)) (L' := [(5, .int (x5 + 1)), (4, .int v_11), (0, .ref m), (1, .ref (r 14)), (2, .int x2), (3, .int x3)]) K dX12_givesOnes_98 5 rfl rfl (hlt _ (by decide)) rfl ?_
              refine g_goto (tgt := 28) K dX12_givesOnes_101 (by decide) ?_
              refine g_sub (L' := [(0, .ref m), (1, .ref (r 14)), (2, .int x2), (3, .int x3), (4, .int v_11), (5, .int (x5 + 1))]) [2, 3, 4, 5, 1, 0] rfl ?_
              exact ih a14 x2 x3 v_11 (x5 + 1) h

set_option maxHeartbeats 4000000 in
set_option maxRecDepth 100000 in
theorem wX12_givesOnes_at14_2 {Γ : gT} {m : Nat} {r : Nat → Nat} {o : Nat → Int32} {A : Nat → Nat → Int32} (K : gOK Γ cX12_givesOnes gU RX12) (hlt : ∀ i, i < 6 → i < g_n Γ) (hRm : g_R Γ = ({ frames := 4, cells := 0, slots := 0, locals := 150 } : Room)) {res : ((Nat → Int32))} (hret : ∀ (pc : Nat) (L : List (Nat × Value)) (w : va_W), decode cX12_givesOnes pc = .ok (.return_, 1) → (w = mw (g_E Γ) m r o (gu A 14 res)) → gGO Γ 0 0 pc L [] w) : ∀ (n : Nat) (a14 : (Nat → Int32)) (x2 : Int32) (x3 : Int32), pX12_givesOnes_at14_2 (A 1) (A 12) (A 15) n a14 x2 x3 = some res → gGO Γ 0 0 2 [(0, .ref m), (1, .ref (r 14)), (2, .int x2), (3, .int x3)] [] (mw (g_E Γ) m r o (gu A 14 a14)) := by
  intro n
  induction n with
  | zero => intro _ _ _ h; cases h
  | succ n ih =>
    intro a14 x2 x3 h
    simp only [pX12_givesOnes_at14_2] at h
    refine g_iload_n K dX12_givesOnes_2 rfl 3 rfl ?_
    refine g_aload_n K dX12_givesOnes_3 rfl 0 rfl ?_
    refine mg_1 K hin_X12 (u_980) dX12_givesOnes_4 ?_
    refine g_bipush (v := 51) K dX12_givesOnes_7 (by decide) ?_
    obtain ⟨b_1, h⟩ := gi_none h
    refine g_iald (f := (A 1)) K 1 rfl (ginb_in b_1) dX12_givesOnes_9 ?_
    obtain ⟨ht9, hf9⟩ := gi_br h; clear h
    refine g_icmp_ge (tgt := 126) K dX12_givesOnes_10 (by decide) (fun qh => ?_) (fun qh => ?_)
    · have h := ht9 qh; clear ht9 hf9
      obtain rfl := Option.some.inj h
      exact hret _ _ _ dX12_givesOnes_126 rfl
    · have h := hf9 qh; clear ht9 hf9
      refine g_aload_n K dX12_givesOnes_13 rfl 0 rfl ?_
      refine mg_15 K hin_X12 (u_994) dX12_givesOnes_14 ?_
      refine g_iload_n K dX12_givesOnes_17 rfl 3 rfl ?_
      obtain ⟨b_2, h⟩ := gi_none h
      refine g_zald (f := (A 15)) K 9 rfl (ginb_in b_2) dX12_givesOnes_18 ?_
      obtain ⟨ht9, hf9⟩ := gi_br h; clear h
      refine g_if_eq (tgt := 120) K dX12_givesOnes_19 (by decide) (fun qh => ?_) (fun qh => ?_)
      · have h := ht9 qh; clear ht9 hf9
        refine g_iinc (v := (x3 + 1)) (L' := [(3, .int (x3 + 1)), (0, .ref m), (1, .ref (r 14)), (2, .int x2)]) K dX12_givesOnes_120 3 rfl rfl (hlt _ (by decide)) rfl ?_
        refine g_goto (tgt := 2) K dX12_givesOnes_123 (by decide) ?_
        refine g_sub (L' := [(0, .ref m), (1, .ref (r 14)), (2, .int x2), (3, .int (x3 + 1))]) [1, 2, 3, 0] rfl ?_
        exact ih a14 x2 (x3 + 1) h
      · have h := hf9 qh; clear ht9 hf9
        refine g_iconst (v := 0) K dX12_givesOnes_22 (by decide) ?_
        refine g_istore (L' := [(4, .int 0), (0, .ref m), (1, .ref (r 14)), (2, .int x2), (3, .int x3)]) K dX12_givesOnes_23 (hlt _ (by decide)) rfl ?_
        refine g_iconst (v := 0) K dX12_givesOnes_25 (by decide) ?_
        refine g_istore (L' := [(5, .int 0), (4, .int 0), (0, .ref m), (1, .ref (r 14)), (2, .int x2), (3, .int x3)]) K dX12_givesOnes_26 (hlt _ (by decide)) rfl ?_
        refine g_sub (L' := [(0, .ref m), (1, .ref (r 14)), (2, .int x2), (3, .int x3), (4, .int 0), (5, .int 0)]) [2, 3, 4, 5, 1, 0] rfl ?_
        exact wX12_givesOnes_at14_28 K hlt hRm hret ih 1000 a14 x2 x3 0 0 h

set_option maxHeartbeats 4000000 in
set_option maxRecDepth 100000 in
theorem wX12_givesOnes_at14 {Γ : gT} {m : Nat} {r : Nat → Nat} {o : Nat → Int32} {A : Nat → Nat → Int32} (K : gOK Γ cX12_givesOnes gU RX12) (hlt : ∀ i, i < 6 → i < g_n Γ) (hRm : g_R Γ = ({ frames := 4, cells := 0, slots := 0, locals := 150 } : Room)) {res : ((Nat → Int32))} (hret : ∀ (pc : Nat) (L : List (Nat × Value)) (w : va_W), decode cX12_givesOnes pc = .ok (.return_, 1) → (w = mw (g_E Γ) m r o (gu A 14 res)) → gGO Γ 0 0 pc L [] w) (a14 : (Nat → Int32)) (x2 : Int32) (h : pX12_givesOnes_at14 (A 1) (A 12) (A 15) a14 x2 = some res) : gGO Γ 0 0 0 [(0, .ref m), (1, .ref (r 14)), (2, .int x2)] [] (mw (g_E Γ) m r o (gu A 14 a14)) := by
    unfold pX12_givesOnes_at14 at h
    refine g_iconst (v := 0) K dX12_givesOnes_0 (by decide) ?_
    refine g_istore_n (L' := [(3, .int 0), (0, .ref m), (1, .ref (r 14)), (2, .int x2)]) K dX12_givesOnes_1 rfl (hlt _ (by decide)) rfl ?_
    refine g_sub (L' := [(0, .ref m), (1, .ref (r 14)), (2, .int x2), (3, .int 0)]) [1, 2, 3, 0] rfl ?_
    exact wX12_givesOnes_at14_2 K hlt hRm hret 1000 a14 x2 0 h

set_option maxRecDepth 100000 in
theorem ctX12_givesOnes_at14 {E : gE} {m : Nat} {r : Nat → Nat} (o : Nat → Int32) (A : Nat → Nat → Int32) (x2 : Int32) {res : ((Nat → Int32))} (h : pX12_givesOnes_at14 (A 1) (A 12) (A 15) (A 14) x2 = some res) : gMv yX12_givesOnes (.code yX12_givesOnes cX12_givesOnes 6 none :: gU) ({ frames := 4, cells := 0, slots := 0, locals := 150 } : Room) 0 0 E [.ref m, .ref (r 14), .int x2] (mw E m r o A) (fun w => w = mw E m r o (gu A 14 res)) := by
  refine g_met_v (by decide +kernel) (Nat.le_of_ble_eq_true rfl) (fun Γ K hn hE hRm _ hret => ?_)
  subst hE
  have hlt : ∀ i, i < 6 → i < g_n Γ := fun i q => by rw [hn]; exact q
  refine g_ws (ws' := mw (g_E Γ) m r o (gu A 14 (A 14))) rfl ?_
  refine g_sub (L' := [(0, .ref m), (1, .ref (r 14)), (2, .int x2)]) [0, 1, 2] rfl ?_
  exact wX12_givesOnes_at14 K hlt hRm hret (A 14) x2 h

set_option maxHeartbeats 4000000 in
set_option maxRecDepth 100000 in
theorem wX12_duesAll_55 {Γ : gT} {m : Nat} {r : Nat → Nat} {o : Nat → Int32} {A : Nat → Nat → Int32} (K : gOK Γ cX12_duesAll gU RX12) (hlt : ∀ i, i < 2 → i < g_n Γ) (hRm : g_R Γ = ({ frames := 6, cells := 0, slots := 0, locals := 196 } : Room)) {res : ((Nat → Int32)) × ((Nat → Int32)) × ((Nat → Int32))} (hret : ∀ (pc : Nat) (L : List (Nat × Value)) (w : va_W), decode cX12_duesAll pc = .ok (.return_, 1) → (w = mw (g_E Γ) m r o (gu (gu (gu A 12 res.1) 14 res.2.1) 15 res.2.2)) → gGO Γ 0 0 pc L [] w) (a12 : (Nat → Int32)) (a14 : (Nat → Int32)) (a15 : (Nat → Int32)) (h : pX12_duesAll_55 (A 1) a12 a14 a15 = some res) : gGO Γ 0 0 55 [(0, .ref m)] [] (mw (g_E Γ) m r o (gu (gu (gu A 12 a12) 14 a14) 15 a15)) := by
    unfold pX12_duesAll_55 at h
    refine g_aload_n K dX12_duesAll_55 rfl 0 rfl ?_
    refine g_aload_n K dX12_duesAll_56 rfl 0 rfl ?_
    refine mg_14 K hin_X12 (u_993) dX12_duesAll_57 ?_
    refine g_aload_n K dX12_duesAll_60 rfl 0 rfl ?_
    refine g_aload_n K dX12_duesAll_61 rfl 0 rfl ?_
    refine g_iconst (v := 0) K dX12_duesAll_62 (by decide) ?_
    obtain ⟨z_1, hz_1, h⟩ := gi_bd h
    refine g_callVi (As := [.int 0]) (bytes := cX12_told) (maxL := 2) (ret := (some .int)) K (ctX12_told o (gu (gu (gu A 12 a12) 14 a14) 15 a15) 0 (res := z_1) hz_1) gc_V_RX12_169_X12_told rfl qv_X12_told 0 rfl rfl rfl hRm rfl rfl rfl (by decide) (Nat.le_of_ble_eq_true rfl) (by decide) dX12_duesAll_63 (fun v w hw => ?_)
    obtain ⟨hv9, rfl⟩ := hw; have hv9 := hv9.symm; subst hv9
    obtain ⟨z_2, hz_2, h⟩ := gi_bd h
    refine g_callVi (As := [.int z_1]) (bytes := cX12_shareOf) (maxL := 2) (ret := (some .int)) K (ctX12_shareOf o (gu (gu (gu A 12 a12) 14 a14) 15 a15) z_1 (res := z_2) hz_2) gc_V_RX12_172_X12_shareOf rfl qv_X12_shareOf 0 rfl rfl rfl hRm rfl rfl rfl (by decide) (Nat.le_of_ble_eq_true rfl) (by decide) dX12_duesAll_66 (fun v w hw => ?_)
    obtain ⟨hv9, rfl⟩ := hw; have hv9 := hv9.symm; subst hv9
    obtain ⟨z_3, hz_3, h⟩ := gi_bd h
    refine g_callVv (As := [.ref (r 14), .int z_2]) (bytes := cX12_givesFives) (maxL := 7) (ret := none) K (ctX12_givesFives_at14 o (gu (gu (gu A 12 a12) 14 a14) 15 a15) z_2 (res := z_3) hz_3) gc_V_RX12_175_X12_givesFives rfl qv_X12_givesFives 0 rfl rfl rfl hRm rfl rfl rfl (by decide) (Nat.le_of_ble_eq_true rfl) (by decide) dX12_duesAll_69 (fun w hw => ?_)
    subst hw
    refine g_ws (ws' := mw (g_E Γ) m r o (gu (gu (gu A 12 a12) 14 z_3) 15 a15)) rfl ?_
    refine g_aload_n K dX12_duesAll_72 rfl 0 rfl ?_
    refine g_aload_n K dX12_duesAll_73 rfl 0 rfl ?_
    refine mg_14 K hin_X12 (u_993) dX12_duesAll_74 ?_
    refine g_aload_n K dX12_duesAll_77 rfl 0 rfl ?_
    refine g_aload_n K dX12_duesAll_78 rfl 0 rfl ?_
    refine g_iconst (v := 1) K dX12_duesAll_79 (by decide) ?_
    obtain ⟨z_4, hz_4, h⟩ := gi_bd h
    refine g_callVi (As := [.int 1]) (bytes := cX12_told) (maxL := 2) (ret := (some .int)) K (ctX12_told o (gu (gu (gu A 12 a12) 14 z_3) 15 a15) 1 (res := z_4) hz_4) gc_V_RX12_169_X12_told rfl qv_X12_told 0 rfl rfl rfl hRm rfl rfl rfl (by decide) (Nat.le_of_ble_eq_true rfl) (by decide) dX12_duesAll_80 (fun v w hw => ?_)
    obtain ⟨hv9, rfl⟩ := hw; have hv9 := hv9.symm; subst hv9
    obtain ⟨z_5, hz_5, h⟩ := gi_bd h
    refine g_callVi (As := [.int z_4]) (bytes := cX12_shareOf) (maxL := 2) (ret := (some .int)) K (ctX12_shareOf o (gu (gu (gu A 12 a12) 14 z_3) 15 a15) z_4 (res := z_5) hz_5) gc_V_RX12_172_X12_shareOf rfl qv_X12_shareOf 0 rfl rfl rfl hRm rfl rfl rfl (by decide) (Nat.le_of_ble_eq_true rfl) (by decide) dX12_duesAll_83 (fun v w hw => ?_)
    obtain ⟨hv9, rfl⟩ := hw; have hv9 := hv9.symm; subst hv9
    obtain ⟨z_6, hz_6, h⟩ := gi_bd h
    refine g_callVv (As := [.ref (r 14), .int z_5]) (bytes := cX12_givesOnes) (maxL := 6) (ret := none) K (ctX12_givesOnes_at14 o (gu (gu (gu A 12 a12) 14 z_3) 15 a15) z_5 (res := z_6) hz_6) gc_V_RX12_165_X12_givesOnes rfl qv_X12_givesOnes 0 rfl rfl rfl hRm rfl rfl rfl (by decide) (Nat.le_of_ble_eq_true rfl) (by decide) dX12_duesAll_86 (fun w hw => ?_)
    subst hw
    refine g_ws (ws' := mw (g_E Γ) m r o (gu (gu (gu A 12 a12) 14 z_6) 15 a15)) rfl ?_
    obtain rfl := Option.some.inj h
    exact hret _ _ _ dX12_duesAll_89 rfl

set_option maxHeartbeats 4000000 in
set_option maxRecDepth 100000 in
theorem wX12_duesAll_2 {Γ : gT} {m : Nat} {r : Nat → Nat} {o : Nat → Int32} {A : Nat → Nat → Int32} (K : gOK Γ cX12_duesAll gU RX12) (hlt : ∀ i, i < 2 → i < g_n Γ) (hRm : g_R Γ = ({ frames := 6, cells := 0, slots := 0, locals := 196 } : Room)) {res : ((Nat → Int32)) × ((Nat → Int32)) × ((Nat → Int32))} (hret : ∀ (pc : Nat) (L : List (Nat × Value)) (w : va_W), decode cX12_duesAll pc = .ok (.return_, 1) → (w = mw (g_E Γ) m r o (gu (gu (gu A 12 res.1) 14 res.2.1) 15 res.2.2)) → gGO Γ 0 0 pc L [] w) : ∀ (n : Nat) (a12 : (Nat → Int32)) (a14 : (Nat → Int32)) (a15 : (Nat → Int32)) (x1 : Int32), pX12_duesAll_2 (A 1) n a12 a14 a15 x1 = some res → gGO Γ 0 0 2 [(0, .ref m), (1, .int x1)] [] (mw (g_E Γ) m r o (gu (gu (gu A 12 a12) 14 a14) 15 a15)) := by
  intro n
  induction n with
  | zero => intro _ _ _ _ h; cases h
  | succ n ih =>
    intro a12 a14 a15 x1 h
    simp only [pX12_duesAll_2] at h
    refine g_iload_n K dX12_duesAll_2 rfl 1 rfl ?_
    refine g_aload_n K dX12_duesAll_3 rfl 0 rfl ?_
    refine mg_1 K hin_X12 (u_980) dX12_duesAll_4 ?_
    refine g_bipush (v := 51) K dX12_duesAll_7 (by decide) ?_
    obtain ⟨b_1, h⟩ := gi_none h
    refine g_iald (f := (A 1)) K 1 rfl (ginb_in b_1) dX12_duesAll_9 ?_
    obtain ⟨ht9, hf9⟩ := gi_br h; clear h
    refine g_icmp_ge (tgt := 55) K dX12_duesAll_10 (by decide) (fun qh => ?_) (fun qh => ?_)
    · have h := ht9 qh; clear ht9 hf9
      refine g_sub (L' := [(0, .ref m)]) [0] rfl ?_
      exact wX12_duesAll_55 K hlt hRm hret a12 a14 a15 h
    · have h := hf9 qh; clear ht9 hf9
      refine g_aload_n K dX12_duesAll_13 rfl 0 rfl ?_
      refine mg_15 K hin_X12 (u_994) dX12_duesAll_14 ?_
      refine g_iload_n K dX12_duesAll_17 rfl 1 rfl ?_
      refine g_iconst (v := 1) K dX12_duesAll_18 (by decide) ?_
      obtain ⟨b_2, h⟩ := gi_none h
      obtain ⟨f_3, ef_3, h⟩ := gi_nm h
      refine g_zast (f := a15) (ws' := mw (g_E Γ) m r o (gu (gu (gu A 12 a12) 14 a14) 15 f_3)) K 9 rfl (ginb_in b_2) dX12_duesAll_19 (by rw [ef_3]; rfl) ?_
      refine g_aload_n K dX12_duesAll_20 rfl 0 rfl ?_
      refine mg_12 K hin_X12 (u_991) dX12_duesAll_21 ?_
      refine g_iload_n K dX12_duesAll_24 rfl 1 rfl ?_
      refine g_aload_n K dX12_duesAll_25 rfl 0 rfl ?_
      refine mg_1 K hin_X12 (u_980) dX12_duesAll_26 ?_
      refine g_iconst (v := 1) K dX12_duesAll_29 (by decide) ?_
      refine g_iload_n K dX12_duesAll_30 rfl 1 rfl ?_
      refine g_iadd K dX12_duesAll_31 ?_
      obtain ⟨b_4, h⟩ := gi_none h
      refine g_iald (f := (A 1)) K 1 rfl (ginb_in b_4) dX12_duesAll_32 ?_
      obtain ⟨b_5, h⟩ := gi_none h
      obtain ⟨f_6, ef_6, h⟩ := gi_nm h
      refine g_iast (f := a12) (ws' := mw (g_E Γ) m r o (gu (gu (gu A 12 f_6) 14 a14) 15 f_3)) K 6 rfl (ginb_in b_5) dX12_duesAll_33 (by rw [ef_6]; rfl) ?_
      refine g_aload_n K dX12_duesAll_34 rfl 0 rfl ?_
      refine mg_14 K hin_X12 (u_993) dX12_duesAll_35 ?_
      refine g_iload_n K dX12_duesAll_38 rfl 1 rfl ?_
      refine g_aload_n K dX12_duesAll_39 rfl 0 rfl ?_
      refine mg_12 K hin_X12 (u_991) dX12_duesAll_40 ?_
      refine g_iload_n K dX12_duesAll_43 rfl 1 rfl ?_
      obtain ⟨b_7, h⟩ := gi_none h
      refine g_iald (f := f_6) K 6 rfl (ginb_in b_7) dX12_duesAll_44 ?_
      obtain ⟨z_8, hz_8, h⟩ := gi_bd h
      refine g_callSi (As := [.int (f_6 (Int32.toNatClampNeg x1))]) (bytes := cX12_gradeBy) (maxL := 1) (ret := (some .int)) K (ctX12_gradeBy (ws := mw (g_E Γ) m r o (gu (gu (gu A 12 f_6) 14 a14) 15 f_3)) (f_6 (Int32.toNatClampNeg x1)) (res := z_8) hz_8) gc_S_RX12_155_X12_gradeBy rfl qs_X12_gradeBy hRm rfl rfl rfl (by decide) (Nat.le_of_ble_eq_true rfl) (by decide) dX12_duesAll_45 (fun v w hw => ?_)
      obtain ⟨hv9, rfl⟩ := hw; have hv9 := hv9.symm; subst hv9
      obtain ⟨b_9, h⟩ := gi_none h
      obtain ⟨f_10, ef_10, h⟩ := gi_nm h
      refine g_iast (f := a14) (ws' := mw (g_E Γ) m r o (gu (gu (gu A 12 f_6) 14 f_10) 15 f_3)) K 8 rfl (ginb_in b_9) dX12_duesAll_48 (by rw [ef_10]; rfl) ?_
      refine g_iinc (v := (x1 + 1)) (L' := [(1, .int (x1 + 1)), (0, .ref m)]) K dX12_duesAll_49 1 rfl rfl (hlt _ (by decide)) rfl ?_
      refine g_goto (tgt := 2) K dX12_duesAll_52 (by decide) ?_
      refine g_sub (L' := [(0, .ref m), (1, .int (x1 + 1))]) [1, 0] rfl ?_
      exact ih f_6 f_10 f_3 (x1 + 1) h

set_option maxHeartbeats 4000000 in
set_option maxRecDepth 100000 in
theorem wX12_duesAll {Γ : gT} {m : Nat} {r : Nat → Nat} {o : Nat → Int32} {A : Nat → Nat → Int32} (K : gOK Γ cX12_duesAll gU RX12) (hlt : ∀ i, i < 2 → i < g_n Γ) (hRm : g_R Γ = ({ frames := 6, cells := 0, slots := 0, locals := 196 } : Room)) {res : ((Nat → Int32)) × ((Nat → Int32)) × ((Nat → Int32))} (hret : ∀ (pc : Nat) (L : List (Nat × Value)) (w : va_W), decode cX12_duesAll pc = .ok (.return_, 1) → (w = mw (g_E Γ) m r o (gu (gu (gu A 12 res.1) 14 res.2.1) 15 res.2.2)) → gGO Γ 0 0 pc L [] w) (a12 : (Nat → Int32)) (a14 : (Nat → Int32)) (a15 : (Nat → Int32)) (h : pX12_duesAll (A 1) a12 a14 a15 = some res) : gGO Γ 0 0 0 [(0, .ref m)] [] (mw (g_E Γ) m r o (gu (gu (gu A 12 a12) 14 a14) 15 a15)) := by
    unfold pX12_duesAll at h
    refine g_iconst (v := 0) K dX12_duesAll_0 (by decide) ?_
    refine g_istore_n (L' := [(1, .int 0), (0, .ref m)]) K dX12_duesAll_1 rfl (hlt _ (by decide)) rfl ?_
    refine g_sub (L' := [(0, .ref m), (1, .int 0)]) [1, 0] rfl ?_
    exact wX12_duesAll_2 K hlt hRm hret 1000 a12 a14 a15 0 h

set_option maxRecDepth 100000 in
theorem ctX12_duesAll {E : gE} {m : Nat} {r : Nat → Nat} (o : Nat → Int32) (A : Nat → Nat → Int32) {res : ((Nat → Int32)) × ((Nat → Int32)) × ((Nat → Int32))} (h : pX12_duesAll (A 1) (A 12) (A 14) (A 15) = some res) : gMv yX12_duesAll (.code yX12_duesAll cX12_duesAll 2 none :: gU) ({ frames := 6, cells := 0, slots := 0, locals := 196 } : Room) 0 0 E [.ref m] (mw E m r o A) (fun w => w = mw E m r o (gu (gu (gu A 12 res.1) 14 res.2.1) 15 res.2.2)) := by
  refine g_met_v (by decide +kernel) (Nat.le_of_ble_eq_true rfl) (fun Γ K hn hE hRm _ hret => ?_)
  subst hE
  have hlt : ∀ i, i < 2 → i < g_n Γ := fun i q => by rw [hn]; exact q
  refine g_ws (ws' := mw (g_E Γ) m r o (gu (gu (gu A 12 (A 12)) 14 (A 14)) 15 (A 15))) rfl ?_
  refine g_sub (L' := [(0, .ref m)]) [0] rfl ?_
  exact wX12_duesAll K hlt hRm hret (A 12) (A 14) (A 15) h

set_option maxHeartbeats 4000000 in
set_option maxRecDepth 100000 in
theorem wX12_gradesAll_41 {Γ : gT} {m : Nat} {r : Nat → Nat} {o : Nat → Int32} {A : Nat → Nat → Int32} (K : gOK Γ cX12_gradesAll gU RX12) (hlt : ∀ i, i < 2 → i < g_n Γ) (hRm : g_R Γ = ({ frames := 8, cells := 0, slots := 0, locals := 244 } : Room)) {res : ((Nat → Int32)) × ((Nat → Int32)) × ((Nat → Int32)) × ((Nat → Int32)) × ((Nat → Int32))} (hret : ∀ (pc : Nat) (L : List (Nat × Value)) (w : va_W), decode cX12_gradesAll pc = .ok (.return_, 1) → (w = mw (g_E Γ) m r o (gu (gu (gu (gu (gu A 10 res.1) 11 res.2.1) 12 res.2.2.1) 13 res.2.2.2.1) 15 res.2.2.2.2)) → gGO Γ 0 0 pc L [] w) : ∀ (n : Nat) (a10 : (Nat → Int32)) (a11 : (Nat → Int32)) (a12 : (Nat → Int32)) (a13 : (Nat → Int32)) (a15 : (Nat → Int32)) (x1 : Int32), pX12_gradesAll_41 (A 1) n a10 a11 a12 a13 a15 x1 = some res → gGO Γ 0 0 41 [(0, .ref m), (1, .int x1)] [] (mw (g_E Γ) m r o (gu (gu (gu (gu (gu A 10 a10) 11 a11) 12 a12) 13 a13) 15 a15)) := by
  intro n
  induction n with
  | zero => intro _ _ _ _ _ _ h; cases h
  | succ n ih =>
    intro a10 a11 a12 a13 a15 x1 h
    simp only [pX12_gradesAll_41] at h
    refine g_iload_n K dX12_gradesAll_41 rfl 1 rfl ?_
    refine g_aload_n K dX12_gradesAll_42 rfl 0 rfl ?_
    refine mg_1 K hin_X12 (u_980) dX12_gradesAll_43 ?_
    refine g_bipush (v := 52) K dX12_gradesAll_46 (by decide) ?_
    obtain ⟨b_1, h⟩ := gi_none h
    refine g_iald (f := (A 1)) K 1 rfl (ginb_in b_1) dX12_gradesAll_48 ?_
    obtain ⟨ht9, hf9⟩ := gi_br h; clear h
    refine g_icmp_ge (tgt := 63) K dX12_gradesAll_49 (by decide) (fun qh => ?_) (fun qh => ?_)
    · have h := ht9 qh; clear ht9 hf9
      obtain rfl := Option.some.inj h
      exact hret _ _ _ dX12_gradesAll_63 rfl
    · have h := hf9 qh; clear ht9 hf9
      refine g_aload_n K dX12_gradesAll_52 rfl 0 rfl ?_
      refine g_iload_n K dX12_gradesAll_53 rfl 1 rfl ?_
      obtain ⟨z_2, hz_2, h⟩ := gi_bd h
      refine g_callVv (As := [.int x1]) (bytes := cX12_gradesTeam) (maxL := 3) (ret := none) K (ctX12_gradesTeam o (gu (gu (gu (gu (gu A 10 a10) 11 a11) 12 a12) 13 a13) 15 a15) x1 (res := z_2) hz_2) gc_V_RX12_185_X12_gradesTeam rfl qv_X12_gradesTeam 0 rfl rfl rfl hRm rfl rfl rfl (by decide) (Nat.le_of_ble_eq_true rfl) (by decide) dX12_gradesAll_54 (fun w hw => ?_)
      subst hw
      refine g_ws (ws' := mw (g_E Γ) m r o (gu (gu (gu (gu (gu A 10 a10) 11 a11) 12 a12) 13 z_2.1) 15 z_2.2)) rfl ?_
      refine g_iinc (v := (x1 + 1)) (L' := [(1, .int (x1 + 1)), (0, .ref m)]) K dX12_gradesAll_57 1 rfl rfl (hlt _ (by decide)) rfl ?_
      refine g_goto (tgt := 41) K dX12_gradesAll_60 (by decide) ?_
      refine g_sub (L' := [(0, .ref m), (1, .int (x1 + 1))]) [1, 0] rfl ?_
      exact ih a10 a11 a12 z_2.1 z_2.2 (x1 + 1) h

set_option maxHeartbeats 4000000 in
set_option maxRecDepth 100000 in
theorem wX12_gradesAll_2 {Γ : gT} {m : Nat} {r : Nat → Nat} {o : Nat → Int32} {A : Nat → Nat → Int32} (K : gOK Γ cX12_gradesAll gU RX12) (hlt : ∀ i, i < 2 → i < g_n Γ) (hRm : g_R Γ = ({ frames := 8, cells := 0, slots := 0, locals := 244 } : Room)) {res : ((Nat → Int32)) × ((Nat → Int32)) × ((Nat → Int32)) × ((Nat → Int32)) × ((Nat → Int32))} (hret : ∀ (pc : Nat) (L : List (Nat × Value)) (w : va_W), decode cX12_gradesAll pc = .ok (.return_, 1) → (w = mw (g_E Γ) m r o (gu (gu (gu (gu (gu A 10 res.1) 11 res.2.1) 12 res.2.2.1) 13 res.2.2.2.1) 15 res.2.2.2.2)) → gGO Γ 0 0 pc L [] w) : ∀ (n : Nat) (a10 : (Nat → Int32)) (a11 : (Nat → Int32)) (a12 : (Nat → Int32)) (a13 : (Nat → Int32)) (a15 : (Nat → Int32)) (x1 : Int32), pX12_gradesAll_2 (A 1) n a10 a11 a12 a13 a15 x1 = some res → gGO Γ 0 0 2 [(0, .ref m), (1, .int x1)] [] (mw (g_E Γ) m r o (gu (gu (gu (gu (gu A 10 a10) 11 a11) 12 a12) 13 a13) 15 a15)) := by
  intro n
  induction n with
  | zero => intro _ _ _ _ _ _ h; cases h
  | succ n ih =>
    intro a10 a11 a12 a13 a15 x1 h
    simp only [pX12_gradesAll_2] at h
    refine g_iload_n K dX12_gradesAll_2 rfl 1 rfl ?_
    refine g_aload_n K dX12_gradesAll_3 rfl 0 rfl ?_
    refine mg_1 K hin_X12 (u_980) dX12_gradesAll_4 ?_
    refine g_bipush (v := 51) K dX12_gradesAll_7 (by decide) ?_
    obtain ⟨b_1, h⟩ := gi_none h
    refine g_iald (f := (A 1)) K 1 rfl (ginb_in b_1) dX12_gradesAll_9 ?_
    obtain ⟨ht9, hf9⟩ := gi_br h; clear h
    refine g_icmp_ge (tgt := 39) K dX12_gradesAll_10 (by decide) (fun qh => ?_) (fun qh => ?_)
    · have h := ht9 qh; clear ht9 hf9
      refine g_iconst (v := 0) K dX12_gradesAll_39 (by decide) ?_
      refine g_istore_n (L' := [(1, .int 0), (0, .ref m)]) K dX12_gradesAll_40 rfl (hlt _ (by decide)) rfl ?_
      refine g_sub (L' := [(0, .ref m), (1, .int 0)]) [1, 0] rfl ?_
      exact wX12_gradesAll_41 K hlt hRm hret 1000 a10 a11 a12 a13 a15 0 h
    · have h := hf9 qh; clear ht9 hf9
      refine g_aload_n K dX12_gradesAll_13 rfl 0 rfl ?_
      refine mg_12 K hin_X12 (u_991) dX12_gradesAll_14 ?_
      refine g_iload_n K dX12_gradesAll_17 rfl 1 rfl ?_
      refine g_aload_n K dX12_gradesAll_18 rfl 0 rfl ?_
      refine g_iload_n K dX12_gradesAll_19 rfl 1 rfl ?_
      refine g_aload_n K dX12_gradesAll_20 rfl 0 rfl ?_
      refine mg_1 K hin_X12 (u_980) dX12_gradesAll_21 ?_
      refine g_bipush (v := 31) K dX12_gradesAll_24 (by decide) ?_
      refine g_iload_n K dX12_gradesAll_26 rfl 1 rfl ?_
      refine g_iadd K dX12_gradesAll_27 ?_
      obtain ⟨b_2, h⟩ := gi_none h
      refine g_iald (f := (A 1)) K 1 rfl (ginb_in b_2) dX12_gradesAll_28 ?_
      obtain ⟨z_3, hz_3, h⟩ := gi_bd h
      refine g_callVi (As := [.int x1, .int ((A 1) (Int32.toNatClampNeg (31 + x1)))]) (bytes := cX12_markOf) (maxL := 8) (ret := (some .int)) K (ctX12_markOf o (gu (gu (gu (gu (gu A 10 a10) 11 a11) 12 a12) 13 a13) 15 a15) x1 ((A 1) (Int32.toNatClampNeg (31 + x1))) (res := z_3) hz_3) gc_V_RX12_182_X12_markOf rfl qv_X12_markOf 0 rfl rfl rfl hRm rfl rfl rfl (by decide) (Nat.le_of_ble_eq_true rfl) (by decide) dX12_gradesAll_29 (fun v w hw => ?_)
      obtain ⟨hv9, rfl⟩ := hw; have hv9 := hv9.symm; subst hv9
      refine g_ws (ws' := mw (g_E Γ) m r o (gu (gu (gu (gu (gu A 10 z_3.2.1) 11 z_3.2.2) 12 a12) 13 a13) 15 a15)) rfl ?_
      obtain ⟨b_4, h⟩ := gi_none h
      obtain ⟨f_5, ef_5, h⟩ := gi_nm h
      refine g_iast (f := a12) (ws' := mw (g_E Γ) m r o (gu (gu (gu (gu (gu A 10 z_3.2.1) 11 z_3.2.2) 12 f_5) 13 a13) 15 a15)) K 6 rfl (ginb_in b_4) dX12_gradesAll_32 (by rw [ef_5]; rfl) ?_
      refine g_iinc (v := (x1 + 1)) (L' := [(1, .int (x1 + 1)), (0, .ref m)]) K dX12_gradesAll_33 1 rfl rfl (hlt _ (by decide)) rfl ?_
      refine g_goto (tgt := 2) K dX12_gradesAll_36 (by decide) ?_
      refine g_sub (L' := [(0, .ref m), (1, .int (x1 + 1))]) [1, 0] rfl ?_
      exact ih z_3.2.1 z_3.2.2 f_5 a13 a15 (x1 + 1) h

set_option maxHeartbeats 4000000 in
set_option maxRecDepth 100000 in
theorem wX12_gradesAll {Γ : gT} {m : Nat} {r : Nat → Nat} {o : Nat → Int32} {A : Nat → Nat → Int32} (K : gOK Γ cX12_gradesAll gU RX12) (hlt : ∀ i, i < 2 → i < g_n Γ) (hRm : g_R Γ = ({ frames := 8, cells := 0, slots := 0, locals := 244 } : Room)) {res : ((Nat → Int32)) × ((Nat → Int32)) × ((Nat → Int32)) × ((Nat → Int32)) × ((Nat → Int32))} (hret : ∀ (pc : Nat) (L : List (Nat × Value)) (w : va_W), decode cX12_gradesAll pc = .ok (.return_, 1) → (w = mw (g_E Γ) m r o (gu (gu (gu (gu (gu A 10 res.1) 11 res.2.1) 12 res.2.2.1) 13 res.2.2.2.1) 15 res.2.2.2.2)) → gGO Γ 0 0 pc L [] w) (a10 : (Nat → Int32)) (a11 : (Nat → Int32)) (a12 : (Nat → Int32)) (a13 : (Nat → Int32)) (a15 : (Nat → Int32)) (h : pX12_gradesAll (A 1) a10 a11 a12 a13 a15 = some res) : gGO Γ 0 0 0 [(0, .ref m)] [] (mw (g_E Γ) m r o (gu (gu (gu (gu (gu A 10 a10) 11 a11) 12 a12) 13 a13) 15 a15)) := by
    unfold pX12_gradesAll at h
    refine g_iconst (v := 0) K dX12_gradesAll_0 (by decide) ?_
    refine g_istore_n (L' := [(1, .int 0), (0, .ref m)]) K dX12_gradesAll_1 rfl (hlt _ (by decide)) rfl ?_
    refine g_sub (L' := [(0, .ref m), (1, .int 0)]) [1, 0] rfl ?_
    exact wX12_gradesAll_2 K hlt hRm hret 1000 a10 a11 a12 a13 a15 0 h

set_option maxRecDepth 100000 in
theorem ctX12_gradesAll {E : gE} {m : Nat} {r : Nat → Nat} (o : Nat → Int32) (A : Nat → Nat → Int32) {res : ((Nat → Int32)) × ((Nat → Int32)) × ((Nat → Int32)) × ((Nat → Int32)) × ((Nat → Int32))} (h : pX12_gradesAll (A 1) (A 10) (A 11) (A 12) (A 13) (A 15) = some res) : gMv yX12_gradesAll (.code yX12_gradesAll cX12_gradesAll 2 none :: gU) ({ frames := 8, cells := 0, slots := 0, locals := 244 } : Room) 0 0 E [.ref m] (mw E m r o A) (fun w => w = mw E m r o (gu (gu (gu (gu (gu A 10 res.1) 11 res.2.1) 12 res.2.2.1) 13 res.2.2.2.1) 15 res.2.2.2.2)) := by
  refine g_met_v (by decide +kernel) (Nat.le_of_ble_eq_true rfl) (fun Γ K hn hE hRm _ hret => ?_)
  subst hE
  have hlt : ∀ i, i < 2 → i < g_n Γ := fun i q => by rw [hn]; exact q
  refine g_ws (ws' := mw (g_E Γ) m r o (gu (gu (gu (gu (gu A 10 (A 10)) 11 (A 11)) 12 (A 12)) 13 (A 13)) 15 (A 15))) rfl ?_
  refine g_sub (L' := [(0, .ref m)]) [0] rfl ?_
  exact wX12_gradesAll K hlt hRm hret (A 10) (A 11) (A 12) (A 13) (A 15) h

set_option maxHeartbeats 4000000 in
set_option maxRecDepth 100000 in
theorem wX12_of {Γ : gT} {m : Nat} {r : Nat → Nat} {o : Nat → Int32} {A : Nat → Nat → Int32} (K : gOK Γ cX12_of gU RX12) (hlt : ∀ i, i < 3 → i < g_n Γ) (hRm : g_R Γ = ({ frames := 9, cells := 0, slots := 0, locals := 266 } : Room)) {res : Int32 × ((Nat → Int32)) × ((Nat → Int32)) × ((Nat → Int32)) × ((Nat → Int32)) × ((Nat → Int32)) × ((Nat → Int32)) × ((Nat → Int32))} (hret : ∀ (pc : Nat) (L : List (Nat × Value)) (v : Int32) (w : va_W), decode cX12_of pc = .ok (.ireturn, 1) → narrow .int (.int v) = .int v → (v = res.1 ∧ w = mw (g_E Γ) m r o (gu (gu (gu (gu (gu (gu (gu A 10 res.2.1) 11 res.2.2.1) 12 res.2.2.2.1) 13 res.2.2.2.2.1) 14 res.2.2.2.2.2.1) 15 res.2.2.2.2.2.2.1) 16 res.2.2.2.2.2.2.2)) → gGO Γ 0 0 pc L [.int v] w) (a10 : (Nat → Int32)) (a11 : (Nat → Int32)) (a12 : (Nat → Int32)) (a13 : (Nat → Int32)) (a14 : (Nat → Int32)) (a15 : (Nat → Int32)) (a16 : (Nat → Int32)) (x1 : Int32) (x2 : Int32) (h : pX12_of (A 1) a10 a11 a12 a13 a14 a15 a16 x1 x2 = some res) : gGO Γ 0 0 0 [(0, .ref m), (1, .int x1), (2, .int x2)] [] (mw (g_E Γ) m r o (gu (gu (gu (gu (gu (gu (gu A 10 a10) 11 a11) 12 a12) 13 a13) 14 a14) 15 a15) 16 a16)) := by
    unfold pX12_of at h
    refine g_aload_n K dX12_of_0 rfl 0 rfl ?_
    refine g_iload_n K dX12_of_1 rfl 1 rfl ?_
    obtain ⟨z_1, hz_1, h⟩ := gi_bd h
    refine g_callVi (As := [.int x1]) (bytes := cX12_isWorker) (maxL := 2) (ret := (some .boolean)) K (ctX12_isWorker o (gu (gu (gu (gu (gu (gu (gu A 10 a10) 11 a11) 12 a12) 13 a13) 14 a14) 15 a15) 16 a16) x1 (res := z_1) hz_1) gc_V_RX12_146_X12_isWorker rfl qv_X12_isWorker 0 rfl rfl rfl hRm rfl rfl rfl (by decide) (Nat.le_of_ble_eq_true rfl) (by decide) dX12_of_2 (fun v w hw => ?_)
    obtain ⟨hv9, rfl⟩ := hw; have hv9 := hv9.symm; subst hv9
    obtain ⟨ht9, hf9⟩ := gi_br h; clear h
    refine g_if_ne (tgt := 12) K dX12_of_5 (by decide) (fun qh => ?_) (fun qh => ?_)
    · have h := hf9 qh; clear ht9 hf9
      refine g_iload_n K dX12_of_12 rfl 2 rfl ?_
      obtain ⟨ht9, hf9⟩ := gi_br h; clear h
      by_cases q0 : x2 = 0
      · have h := ht9 q0; clear ht9 hf9
        refine g_tabIn (tgt := 64) K dX12_of_13 (by rw [q0]; decide) (by rw [q0]; decide) (by rw [q0]; rfl) (by decide) ?_
        refine g_aload_n K dX12_of_64 rfl 0 rfl ?_
        refine mg_1 K hin_X12 (u_980) dX12_of_65 ?_
        refine g_iconst (v := 1) K dX12_of_68 (by decide) ?_
        refine g_iload_n K dX12_of_69 rfl 1 rfl ?_
        refine g_iadd K dX12_of_70 ?_
        obtain ⟨b_2, h⟩ := gi_none h
        refine g_iald (f := (A 1)) K 1 rfl (ginb_in b_2) dX12_of_71 ?_
        obtain rfl := Option.some.inj h
        exact hret _ _ _ _ dX12_of_72 rfl ⟨rfl, rfl⟩
      have h := hf9 q0; clear ht9 hf9
      obtain ⟨ht9, hf9⟩ := gi_br h; clear h
      by_cases q1 : x2 = 1
      · have h := ht9 q1; clear ht9 hf9
        refine g_tabIn (tgt := 73) K dX12_of_13 (by rw [q1]; decide) (by rw [q1]; decide) (by rw [q1]; rfl) (by decide) ?_
        refine g_aload_n K dX12_of_73 rfl 0 rfl ?_
        refine mg_1 K hin_X12 (u_980) dX12_of_74 ?_
        refine g_bipush (v := 11) K dX12_of_77 (by decide) ?_
        refine g_iload_n K dX12_of_79 rfl 1 rfl ?_
        refine g_iadd K dX12_of_80 ?_
        obtain ⟨b_3, h⟩ := gi_none h
        refine g_iald (f := (A 1)) K 1 rfl (ginb_in b_3) dX12_of_81 ?_
        obtain rfl := Option.some.inj h
        exact hret _ _ _ _ dX12_of_82 rfl ⟨rfl, rfl⟩
      have h := hf9 q1; clear ht9 hf9
      obtain ⟨ht9, hf9⟩ := gi_br h; clear h
      by_cases q2 : x2 = 2
      · have h := ht9 q2; clear ht9 hf9
        refine g_tabIn (tgt := 83) K dX12_of_13 (by rw [q2]; decide) (by rw [q2]; decide) (by rw [q2]; rfl) (by decide) ?_
        refine g_aload_n K dX12_of_83 rfl 0 rfl ?_
        refine mg_1 K hin_X12 (u_980) dX12_of_84 ?_
        refine g_bipush (v := 31) K dX12_of_87 (by decide) ?_
        refine g_iload_n K dX12_of_89 rfl 1 rfl ?_
        refine g_iadd K dX12_of_90 ?_
        obtain ⟨b_4, h⟩ := gi_none h
        refine g_iald (f := (A 1)) K 1 rfl (ginb_in b_4) dX12_of_91 ?_
        obtain rfl := Option.some.inj h
        exact hret _ _ _ _ dX12_of_92 rfl ⟨rfl, rfl⟩
      have h := hf9 q2; clear ht9 hf9
      obtain ⟨ht9, hf9⟩ := gi_br h; clear h
      by_cases q3 : x2 = 3
      · have h := ht9 q3; clear ht9 hf9
        refine g_tabIn (tgt := 93) K dX12_of_13 (by rw [q3]; decide) (by rw [q3]; decide) (by rw [q3]; rfl) (by decide) ?_
        refine g_aload_n K dX12_of_93 rfl 0 rfl ?_
        refine mg_1 K hin_X12 (u_980) dX12_of_94 ?_
        refine g_bipush (v := 41) K dX12_of_97 (by decide) ?_
        refine g_iload_n K dX12_of_99 rfl 1 rfl ?_
        refine g_iadd K dX12_of_100 ?_
        obtain ⟨b_5, h⟩ := gi_none h
        refine g_iald (f := (A 1)) K 1 rfl (ginb_in b_5) dX12_of_101 ?_
        obtain rfl := Option.some.inj h
        exact hret _ _ _ _ dX12_of_102 rfl ⟨rfl, rfl⟩
      have h := hf9 q3; clear ht9 hf9
      obtain ⟨ht9, hf9⟩ := gi_br h; clear h
      by_cases q4 : x2 = 4
      · have h := ht9 q4; clear ht9 hf9
        refine g_tabIn (tgt := 103) K dX12_of_13 (by rw [q4]; decide) (by rw [q4]; decide) (by rw [q4]; rfl) (by decide) ?_
        refine g_aload_n K dX12_of_103 rfl 0 rfl ?_
        refine mg_1 K hin_X12 (u_980) dX12_of_104 ?_
        refine g_bipush (v := 21) K dX12_of_107 (by decide) ?_
        refine g_iload_n K dX12_of_109 rfl 1 rfl ?_
        refine g_iadd K dX12_of_110 ?_
        obtain ⟨b_6, h⟩ := gi_none h
        refine g_iald (f := (A 1)) K 1 rfl (ginb_in b_6) dX12_of_111 ?_
        obtain rfl := Option.some.inj h
        exact hret _ _ _ _ dX12_of_112 rfl ⟨rfl, rfl⟩
      have h := hf9 q4; clear ht9 hf9
      obtain ⟨ht9, hf9⟩ := gi_br h; clear h
      by_cases q5 : x2 = 5
      · have h := ht9 q5; clear ht9 hf9
        refine g_tabIn (tgt := 113) K dX12_of_13 (by rw [q5]; decide) (by rw [q5]; decide) (by rw [q5]; rfl) (by decide) ?_
        refine g_aload_n K dX12_of_113 rfl 0 rfl ?_
        refine g_iload_n K dX12_of_114 rfl 1 rfl ?_
        refine g_aload_n K dX12_of_115 rfl 0 rfl ?_
        refine mg_1 K hin_X12 (u_980) dX12_of_116 ?_
        refine g_bipush (v := 31) K dX12_of_119 (by decide) ?_
        refine g_iload_n K dX12_of_121 rfl 1 rfl ?_
        refine g_iadd K dX12_of_122 ?_
        obtain ⟨b_7, h⟩ := gi_none h
        refine g_iald (f := (A 1)) K 1 rfl (ginb_in b_7) dX12_of_123 ?_
        obtain ⟨z_8, hz_8, h⟩ := gi_bd h
        refine g_callVi (As := [.int x1, .int ((A 1) (Int32.toNatClampNeg (31 + x1)))]) (bytes := cX12_markOf) (maxL := 8) (ret := (some .int)) K (ctX12_markOf o (gu (gu (gu (gu (gu (gu (gu A 10 a10) 11 a11) 12 a12) 13 a13) 14 a14) 15 a15) 16 a16) x1 ((A 1) (Int32.toNatClampNeg (31 + x1))) (res := z_8) hz_8) gc_V_RX12_182_X12_markOf rfl qv_X12_markOf 0 rfl rfl rfl hRm rfl rfl rfl (by decide) (Nat.le_of_ble_eq_true rfl) (by decide) dX12_of_124 (fun v w hw => ?_)
        obtain ⟨hv9, rfl⟩ := hw; have hv9 := hv9.symm; subst hv9
        refine g_ws (ws' := mw (g_E Γ) m r o (gu (gu (gu (gu (gu (gu (gu A 10 z_8.2.1) 11 z_8.2.2) 12 a12) 13 a13) 14 a14) 15 a15) 16 a16)) rfl ?_
        obtain rfl := Option.some.inj h
        exact hret _ _ _ _ dX12_of_127 rfl ⟨rfl, rfl⟩
      have h := hf9 q5; clear ht9 hf9
      obtain ⟨ht9, hf9⟩ := gi_br h; clear h
      by_cases q6 : x2 = 6
      · have h := ht9 q6; clear ht9 hf9
        refine g_tabIn (tgt := 128) K dX12_of_13 (by rw [q6]; decide) (by rw [q6]; decide) (by rw [q6]; rfl) (by decide) ?_
        refine g_aload_n K dX12_of_128 rfl 0 rfl ?_
        obtain ⟨z_9, hz_9, h⟩ := gi_bd h
        refine g_callVv (As := []) (bytes := cX12_gradesAll) (maxL := 2) (ret := none) K (ctX12_gradesAll o (gu (gu (gu (gu (gu (gu (gu A 10 a10) 11 a11) 12 a12) 13 a13) 14 a14) 15 a15) 16 a16) (res := z_9) hz_9) gc_V_RX12_191_X12_gradesAll rfl qv_X12_gradesAll 0 rfl rfl rfl hRm rfl rfl rfl (by decide) (Nat.le_of_ble_eq_true rfl) (by decide) dX12_of_129 (fun w hw => ?_)
        subst hw
        refine g_ws (ws' := mw (g_E Γ) m r o (gu (gu (gu (gu (gu (gu (gu A 10 z_9.1) 11 z_9.2.1) 12 z_9.2.2.1) 13 z_9.2.2.2.1) 14 a14) 15 z_9.2.2.2.2) 16 a16)) rfl ?_
        refine g_aload_n K dX12_of_132 rfl 0 rfl ?_
        refine mg_13 K hin_X12 (u_992) dX12_of_133 ?_
        refine g_iload_n K dX12_of_136 rfl 1 rfl ?_
        obtain ⟨b_10, h⟩ := gi_none h
        refine g_iald (f := z_9.2.2.2.1) K 7 rfl (ginb_in b_10) dX12_of_137 ?_
        obtain rfl := Option.some.inj h
        exact hret _ _ _ _ dX12_of_138 rfl ⟨rfl, rfl⟩
      have h := hf9 q6; clear ht9 hf9
      obtain ⟨ht9, hf9⟩ := gi_br h; clear h
      by_cases q7 : x2 = 7
      · have h := ht9 q7; clear ht9 hf9
        refine g_tabIn (tgt := 139) K dX12_of_13 (by rw [q7]; decide) (by rw [q7]; decide) (by rw [q7]; rfl) (by decide) ?_
        refine g_aload_n K dX12_of_139 rfl 0 rfl ?_
        obtain ⟨z_11, hz_11, h⟩ := gi_bd h
        refine g_callVv (As := []) (bytes := cX12_duesAll) (maxL := 2) (ret := none) K (ctX12_duesAll o (gu (gu (gu (gu (gu (gu (gu A 10 a10) 11 a11) 12 a12) 13 a13) 14 a14) 15 a15) 16 a16) (res := z_11) hz_11) gc_V_RX12_194_X12_duesAll rfl qv_X12_duesAll 0 rfl rfl rfl hRm rfl rfl rfl (by decide) (Nat.le_of_ble_eq_true rfl) (by decide) dX12_of_140 (fun w hw => ?_)
        subst hw
        refine g_ws (ws' := mw (g_E Γ) m r o (gu (gu (gu (gu (gu (gu (gu A 10 a10) 11 a11) 12 z_11.1) 13 a13) 14 z_11.2.1) 15 z_11.2.2) 16 a16)) rfl ?_
        refine g_aload_n K dX12_of_143 rfl 0 rfl ?_
        refine mg_14 K hin_X12 (u_993) dX12_of_144 ?_
        refine g_iload_n K dX12_of_147 rfl 1 rfl ?_
        obtain ⟨b_12, h⟩ := gi_none h
        refine g_iald (f := z_11.2.1) K 8 rfl (ginb_in b_12) dX12_of_148 ?_
        obtain rfl := Option.some.inj h
        exact hret _ _ _ _ dX12_of_149 rfl ⟨rfl, rfl⟩
      have h := hf9 q7; clear ht9 hf9
      obtain ⟨ht9, hf9⟩ := gi_br h; clear h
      by_cases q8 : x2 = 8
      · have h := ht9 q8; clear ht9 hf9
        refine g_tabIn (tgt := 150) K dX12_of_13 (by rw [q8]; decide) (by rw [q8]; decide) (by rw [q8]; rfl) (by decide) ?_
        refine g_aload_n K dX12_of_150 rfl 0 rfl ?_
        obtain ⟨z_13, hz_13, h⟩ := gi_bd h
        refine g_callVv (As := []) (bytes := cX12_levelsAll) (maxL := 3) (ret := none) K (ctX12_levelsAll o (gu (gu (gu (gu (gu (gu (gu A 10 a10) 11 a11) 12 a12) 13 a13) 14 a14) 15 a15) 16 a16) (res := z_13) hz_13) gc_V_RX12_197_X12_levelsAll rfl qv_X12_levelsAll 0 rfl rfl rfl hRm rfl rfl rfl (by decide) (Nat.le_of_ble_eq_true rfl) (by decide) dX12_of_151 (fun w hw => ?_)
        subst hw
        refine g_ws (ws' := mw (g_E Γ) m r o (gu (gu (gu (gu (gu (gu (gu A 10 z_13.1) 11 z_13.2.1) 12 z_13.2.2.1) 13 z_13.2.2.2.1) 14 a14) 15 z_13.2.2.2.2.1) 16 z_13.2.2.2.2.2)) rfl ?_
        refine g_aload_n K dX12_of_154 rfl 0 rfl ?_
        refine mg_13 K hin_X12 (u_992) dX12_of_155 ?_
        refine g_iload_n K dX12_of_158 rfl 1 rfl ?_
        obtain ⟨b_14, h⟩ := gi_none h
        refine g_iald (f := z_13.2.2.2.1) K 7 rfl (ginb_in b_14) dX12_of_159 ?_
        obtain rfl := Option.some.inj h
        exact hret _ _ _ _ dX12_of_160 rfl ⟨rfl, rfl⟩
      have h := hf9 q8; clear ht9 hf9
      refine g_tabOut (tgt := 161) K dX12_of_13 (by have t0 := gi_ne (z := 0) q0 (by decide); have t1 := gi_ne (z := 1) q1 (by decide); have t2 := gi_ne (z := 2) q2 (by decide); have t3 := gi_ne (z := 3) q3 (by decide); have t4 := gi_ne (z := 4) q4 (by decide); have t5 := gi_ne (z := 5) q5 (by decide); have t6 := gi_ne (z := 6) q6 (by decide); have t7 := gi_ne (z := 7) q7 (by decide); have t8 := gi_ne (z := 8) q8 (by decide); omega) (by decide) ?_
      refine g_sipush (v := (-1001)) K dX12_of_161 (by decide) ?_
      obtain rfl := Option.some.inj h
      exact hret _ _ _ _ dX12_of_164 rfl ⟨rfl, rfl⟩
    · have h := ht9 qh; clear ht9 hf9
      refine g_sipush (v := (-1001)) K dX12_of_8 (by decide) ?_
      obtain rfl := Option.some.inj h
      exact hret _ _ _ _ dX12_of_11 rfl ⟨rfl, rfl⟩

set_option maxRecDepth 100000 in
theorem ctX12_of {E : gE} {m : Nat} {r : Nat → Nat} (o : Nat → Int32) (A : Nat → Nat → Int32) (x1 : Int32) (x2 : Int32) {res : Int32 × ((Nat → Int32)) × ((Nat → Int32)) × ((Nat → Int32)) × ((Nat → Int32)) × ((Nat → Int32)) × ((Nat → Int32)) × ((Nat → Int32))} (h : pX12_of (A 1) (A 10) (A 11) (A 12) (A 13) (A 14) (A 15) (A 16) x1 x2 = some res) : gMi yX12_of (.code yX12_of cX12_of 3 (some .int) :: gU) ({ frames := 9, cells := 0, slots := 0, locals := 266 } : Room) 0 0 E [.ref m, .int x1, .int x2] (mw E m r o A) (fun v w => v = res.1 ∧ w = mw E m r o (gu (gu (gu (gu (gu (gu (gu A 10 res.2.1) 11 res.2.2.1) 12 res.2.2.2.1) 13 res.2.2.2.2.1) 14 res.2.2.2.2.2.1) 15 res.2.2.2.2.2.2.1) 16 res.2.2.2.2.2.2.2)) := by
  refine g_met_i (by decide +kernel) (Nat.le_of_ble_eq_true rfl) (fun Γ K hn hE hRm _ hret => ?_)
  subst hE
  have hlt : ∀ i, i < 3 → i < g_n Γ := fun i q => by rw [hn]; exact q
  refine g_ws (ws' := mw (g_E Γ) m r o (gu (gu (gu (gu (gu (gu (gu A 10 (A 10)) 11 (A 11)) 12 (A 12)) 13 (A 13)) 14 (A 14)) 15 (A 15)) 16 (A 16))) rfl ?_
  refine g_sub (L' := [(0, .ref m), (1, .int x1), (2, .int x2)]) [0, 1, 2] rfl ?_
  exact wX12_of K hlt hRm hret (A 10) (A 11) (A 12) (A 13) (A 14) (A 15) (A 16) x1 x2 h

set_option maxHeartbeats 4000000 in
set_option maxRecDepth 100000 in
theorem wX12_by_86 {Γ : gT} {m : Nat} {r : Nat → Nat} {o : Nat → Int32} {A : Nat → Nat → Int32} (K : gOK Γ cX12_by gU RX12) (hlt : ∀ i, i < 5 → i < g_n Γ) (hRm : g_R Γ = ({ frames := 6, cells := 0, slots := 0, locals := 193 } : Room)) {res : Int32} (hret : ∀ (pc : Nat) (L : List (Nat × Value)) (v : Int32) (w : va_W), decode cX12_by pc = .ok (.ireturn, 1) → narrow .int (.int v) = .int v → (v = res ∧ w = mw (g_E Γ) m r o A) → gGO Γ 0 0 pc L [.int v] w) (x1 : Int32) (x2 : Int32) (x3 : Int32) (h : pX12_by_86 (A 1) x1 x2 x3 = some res) : gGO Γ 0 0 86 [(0, .ref m), (1, .int x1), (2, .int x2), (3, .int x3)] [] (mw (g_E Γ) m r o A) := by
    unfold pX12_by_86 at h
    refine g_iload_n K dX12_by_86 rfl 2 rfl ?_
    refine g_iconst (v := 3) K dX12_by_87 (by decide) ?_
    obtain ⟨ht9, hf9⟩ := gi_br h; clear h
    refine g_icmp_ne (tgt := 99) K dX12_by_88 (by decide) (fun qh => ?_) (fun qh => ?_)
    · have h := hf9 qh; clear ht9 hf9
      refine g_iload_n K dX12_by_99 rfl 3 rfl ?_
      obtain rfl := Option.some.inj h
      exact hret _ _ _ _ dX12_by_100 rfl ⟨rfl, rfl⟩
    · have h := ht9 qh; clear ht9 hf9
      refine g_aload_n K dX12_by_91 rfl 0 rfl ?_
      refine g_iload_n K dX12_by_92 rfl 1 rfl ?_
      obtain ⟨z_1, hz_1, h⟩ := gi_bd h
      refine g_callVi (As := [.int x1]) (bytes := cX12_teamOf) (maxL := 4) (ret := (some .int)) K (ctX12_teamOf o A x1 (res := z_1) hz_1) gc_V_RX12_142_X12_teamOf rfl qv_X12_teamOf 0 rfl rfl rfl hRm rfl rfl rfl (by decide) (Nat.le_of_ble_eq_true rfl) (by decide) dX12_by_93 (fun v w hw => ?_)
      obtain ⟨hv9, rfl⟩ := hw; have hv9 := hv9.symm; subst hv9
      refine g_goto (tgt := 100) K dX12_by_96 (by decide) ?_
      obtain rfl := Option.some.inj h
      exact hret _ _ _ _ dX12_by_100 rfl ⟨rfl, rfl⟩

