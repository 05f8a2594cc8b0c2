theorem nx_and {k : Nat} (h : k = 4 ∨ k = 8 ∨ k = 16 ∨ k = 32) : nI k &&& nI (k - 1) = nI 0 := by
  rcases h with rfl | rfl | rfl | rfl <;> decide
set_option maxHeartbeats 4000000 in
set_option maxRecDepth 100000 in
/-- what is told of a child -/
theorem sl_child {p : Program} {l : Launch} {e : Env} {s : State} {m : MethodId} {args : Array Value} {below : List Frame} {meth : Method} {c : Code} {Q : State → Prop} {A : Nat → Prop} {g : wG} {H : Heap} {locs : List Loc} {ls : Array Slot} {cells slots : Nat} (hx : p.tables.exec = Jvm.exec) (hb : c.code = cL_law) (hml : c.maxLocals = 25) (hown : s.vm.findClass yL_law.cls = some m.cls) (hc : cells ≤ 600000) (hs : slots ≤ 7300000) {μ ν : wMu} {Λ Ω σ : sSt} {τ : Nat → Nat} {i : Nat} (hF : fD g Λ none σ μ) (hS : sD g Ω τ σ ν) (hd : dj μ ν) (hg : pG τ σ i) (hi9 : i ≤ 500) {t j : Nat} {x : Int32} (hj : j < σ 4 0) (hX : wX g A s H locs (mU μ ν)) (hl : lv_has ls 25 [(11, .int (nI j)), (10, .int (nI (cHel σ j))), (9, .int (nI (uSm σ (σ 4 0) (σ 3 0)))), (7, .int (nI (σ 4 0))), (5, .long (vDig σ)), (4, .int x), (3, .int (nI t)), (2, .ref (Ω 0 0)), (1, .ref (Λ 0 0)), (0, .ref ((gT g).1))]) (kk : ∀ (α : wMu) (H : Heap) (locs : List Loc) (ls : Array Slot), fD g Λ none σ α → dj α ν → wX g A s H locs (mU α ν) → lv_has ls 25 [(11, .int (nI j)), (10, .int (nI (cHel σ (j + 1)))), (9, .int (nI (uSm σ (σ 4 0) (σ 3 0)))), (7, .int (nI (σ 4 0))), (5, .long (vDig σ)), (4, .int x), (3, .int (nI t)), (2, .ref (Ω 0 0)), (1, .ref (Λ 0 0)), (0, .ref (gT g).1)] → W p l e room_1 s m args below meth c H locs cells slots Q (F0 m 450 ls [])) : W p l e room_1 s m args below meth c H locs cells slots Q (F0 m 212 ls []) := by
  have hO := hg.O
  have hT := hg.T
  obtain ⟨⟨-, gh, gc⟩, -⟩ := id hg
  obtain ⟨o1, o2, o3, o4, o5, o6, o7⟩ := id hO
  have ojb := o4 j hj
  have owb := o3 _ ojb.1
  have hgl := grt_le σ j
  have hhe := cHel_le σ j
  have hhe2 := cHel_le σ (j + 1)
  have hpx := hg.2 j hj
  have hpw : σ 13 j = 4 ∨ σ 13 j = 8 ∨ σ 13 j = 16 ∨ σ 13 j = 32 := by rw [hpx.1]; exact nxt_pw _
  have hvd : vDay σ j = (σ 9 j + 30 - σ 0 0 / 24 % 30) % 30 := rfl
  have hvg : 0 < σ 11 j → vGrt σ j = 0 := fun z => if_pos z
  have hpb := hpx.2.2.1
  have hpm := hpx.2.2.2
  have ht1 : 0 < vGrt σ j → tws σ j 1 1 (σ 6 (σ 8 j)) = 1 := fun z => by rw [tws_1, if_pos z]
  have ht0 : ¬ 0 < vGrt σ j → tws σ j 1 1 (σ 6 (σ 8 j)) = 0 := fun z => by rw [tws_1, if_neg z]
  refine lv_aload_n hx hb dL_law_212 rfl (lv_at hl 8 rfl) ?_
  refine lv_iload hx hb dL_law_213 (lv_at hl 0 rfl) ?_
  refine w_callL (w_runV (n := 1) (As := [.int (nI j)]) (rest := []) hx hb hml hown (hX.l hd) (c_X2_punishedFor_g l g μ H.size hF hO hj) kw354 kw1 kw351 kw352 kw353 wn_X2_punishedFor rfl hF.1 rfl ⟨Nat.le_of_ble_eq_true rfl, Nat.le_of_ble_eq_true rfl⟩ hl.1 rfl (Nat.le_of_ble_eq_true rfl) dL_law_215 ⟨(show cells + 0 ≤ 600130 by omega), (show slots + 0 ≤ 7301080 by omega)⟩) hX hd (fun r_3 μ_1 H locs q_2 hd hX hz => ?_)
  obtain ⟨rfl, e_4⟩ := q_2
  rw [e_4] at hX hd
  refine W.eq (g2 := F0 m 218 ls [.int (nI (σ 11 j))]) rfl ?_
  refine lv_istore (lv' := [(12, .int (nI (σ 11 j))), (11, .int (nI j)), (10, .int (nI (cHel σ j))), (9, .int (nI (uSm σ (σ 4 0) (σ 3 0)))), (7, .int (nI (σ 4 0))), (5, .long (vDig σ)), (4, .int x), (3, .int (nI t)), (2, .ref (Ω 0 0)), (1, .ref (Λ 0 0)), (0, .ref ((gT g).1))]) hx hb dL_law_218 hl (by decide) rfl (fun ls hl => ?_)
  refine lv_aload_n hx hb dL_law_220 rfl (lv_at hl 9 rfl) ?_
  refine lv_iload hx hb dL_law_221 (lv_at hl 1 rfl) ?_
  refine w_callL (w_runV (n := 1) (As := [.int (nI j)]) (rest := []) hx hb hml hown (hX.l hd) (c_X2_greatestWish_g l g μ H.size hF hO hj) kw374 kw1 kw371 kw372 kw373 wn_X2_greatestWish rfl hF.1 rfl ⟨Nat.le_of_ble_eq_true rfl, Nat.le_of_ble_eq_true rfl⟩ hl.1 rfl (Nat.le_of_ble_eq_true rfl) dL_law_223 ⟨(show cells + 0 ≤ 600130 by omega), (show slots + 0 ≤ 7301080 by omega)⟩) hX hd (fun r_7 μ_5 H locs q_6 hd hX hz => ?_)
  obtain ⟨rfl, e_8⟩ := q_6
  rw [e_8] at hX hd
  refine W.eq (g2 := F0 m 226 ls [.int (nI (vGrt σ j))]) rfl ?_
  refine lv_istore (lv' := [(13, .int (nI (vGrt σ j))), (12, .int (nI (σ 11 j))), (11, .int (nI j)), (10, .int (nI (cHel σ j))), (9, .int (nI (uSm σ (σ 4 0) (σ 3 0)))), (7, .int (nI (σ 4 0))), (5, .long (vDig σ)), (4, .int x), (3, .int (nI t)), (2, .ref (Ω 0 0)), (1, .ref (Λ 0 0)), (0, .ref ((gT g).1))]) hx hb dL_law_226 hl (by decide) rfl (fun ls hl => ?_)
  refine lv_aload_n hx hb dL_law_228 rfl (lv_at hl 10 rfl) ?_
  refine lv_iload hx hb dL_law_229 (lv_at hl 2 rfl) ?_
  refine w_callL (w_runV (n := 1) (As := [.int (nI j)]) (rest := []) hx hb hml hown (hX.l hd) (c_X2_nextPunishment_g l g μ H.size hF hO hj) kw362 kw1 kw359 kw360 kw361 wn_X2_nextPunishment rfl hF.1 rfl ⟨Nat.le_of_ble_eq_true rfl, Nat.le_of_ble_eq_true rfl⟩ hl.1 rfl (Nat.le_of_ble_eq_true rfl) dL_law_231 ⟨(show cells + 0 ≤ 600130 by omega), (show slots + 0 ≤ 7301080 by omega)⟩) hX hd (fun r_11 μ_9 H locs q_10 hd hX hz => ?_)
  obtain ⟨rfl, e_12⟩ := q_10
  rw [e_12] at hX hd
  refine W.eq (g2 := F0 m 234 ls [.int (nI (σ 13 j))]) rfl ?_
  refine lv_istore (lv' := [(14, .int (nI (σ 13 j))), (13, .int (nI (vGrt σ j))), (12, .int (nI (σ 11 j))), (11, .int (nI j)), (10, .int (nI (cHel σ j))), (9, .int (nI (uSm σ (σ 4 0) (σ 3 0)))), (7, .int (nI (σ 4 0))), (5, .long (vDig σ)), (4, .int x), (3, .int (nI t)), (2, .ref (Ω 0 0)), (1, .ref (Λ 0 0)), (0, .ref ((gT g).1))]) hx hb dL_law_234 hl (by decide) rfl (fun ls hl => ?_)
  have hj251 : ∀ (α : wMu) (H : Heap) (locs : List Loc) (ls : Array Slot), fD g Λ none σ α → dj α ν → wX g A s H locs (mU α ν) → lv_has ls 25 [(14, .int (nI (σ 13 j))), (13, .int (nI (vGrt σ j))), (12, .int (nI (σ 11 j))), (11, .int (nI j)), (10, .int (nI (cHel σ (j + 1)))), (9, .int (nI (uSm σ (σ 4 0) (σ 3 0)))), (7, .int (nI (σ 4 0))), (5, .long (vDig σ)), (4, .int x), (3, .int (nI t)), (2, .ref (Ω 0 0)), (1, .ref (Λ 0 0)), (0, .ref ((gT g).1))] → W p l e room_1 s m args below meth c H locs cells slots Q (F0 m 251 ls []) := by
    intro α H locs ls hF hd hX hl
    refine lv_aload_n hx hb dL_law_251 rfl (lv_at hl 11 rfl) ?_
    refine lv_iload hx hb dL_law_252 (lv_at hl 3 rfl) ?_
    refine w_callL (w_runV (n := 1) (As := [.int (nI j)]) (rest := []) hx hb hml hown (hX.l hd) (c_X2_burstOf_g l g α H.size hF hO hj) kw350 kw1 kw347 kw348 kw349 wn_X2_burstOf rfl hF.1 rfl ⟨Nat.le_of_ble_eq_true rfl, Nat.le_of_ble_eq_true rfl⟩ hl.1 rfl (Nat.le_of_ble_eq_true rfl) dL_law_254 ⟨(show cells + 0 ≤ 600130 by omega), (show slots + 0 ≤ 7301080 by omega)⟩) hX hd (fun r_15 μ_13 H locs q_14 hd hX hz => ?_)
    obtain ⟨rfl, e_16⟩ := q_14
    rw [e_16] at hX hd
    refine W.eq (g2 := F0 m 257 ls [.int (nI (σ 10 j))]) rfl ?_
    refine lv_if_lt (tgt := 448) hx hb dL_law_257 (by decide) (fun h => absurd h (nI_pos (by omega))) (fun _ => ?_)
    refine lv_aload_n hx hb dL_law_260 rfl (lv_at hl 11 rfl) ?_
    refine lv_iload hx hb dL_law_261 (lv_at hl 3 rfl) ?_
    refine w_callL (w_runV (n := 1) (As := [.int (nI j)]) (rest := []) hx hb hml hown (hX.l hd) (c_X2_burstOf_g l g α H.size hF hO hj) kw350 kw1 kw347 kw348 kw349 wn_X2_burstOf rfl hF.1 rfl ⟨Nat.le_of_ble_eq_true rfl, Nat.le_of_ble_eq_true rfl⟩ hl.1 rfl (Nat.le_of_ble_eq_true rfl) dL_law_263 ⟨(show cells + 0 ≤ 600130 by omega), (show slots + 0 ≤ 7301080 by omega)⟩) hX hd (fun r_19 μ_17 H locs q_18 hd hX hz => ?_)
    obtain ⟨rfl, e_20⟩ := q_18
    rw [e_20] at hX hd
    refine W.eq (g2 := F0 m 266 ls [.int (nI (σ 10 j))]) rfl ?_
    refine lv_bipush (v := nI 12) hx hb dL_law_266 (by decide) ?_
    refine n_gt (tgt := 448) hx hb (by omega) (by omega) dL_law_268 (by decide) (fun c_21 => ?_) (fun c_21 => ?_)
    · skip
      exfalso; omega
    · skip
      have hj289 : ∀ (α : wMu) (H : Heap) (locs : List Loc) (ls : Array Slot), fD g Λ none σ α → dj α ν → wX g A s H locs (mU α ν) → lv_has ls 25 [(14, .int (nI (σ 13 j))), (13, .int (nI (vGrt σ j))), (12, .int (nI (σ 11 j))), (11, .int (nI j)), (10, .int (nI (cHel σ (j + 1)))), (9, .int (nI (uSm σ (σ 4 0) (σ 3 0)))), (7, .int (nI (σ 4 0))), (5, .long (vDig σ)), (4, .int x), (3, .int (nI t)), (2, .ref (Ω 0 0)), (1, .ref (Λ 0 0)), (0, .ref ((gT g).1))] → W p l e room_1 s m args below meth c H locs cells slots Q (F0 m 289 ls []) := by
        intro α H locs ls hF hd hX hl
        refine lv_iload hx hb dL_law_289 (lv_at hl 2 rfl) ?_
        refine lv_if_lt (tgt := 448) hx hb dL_law_291 (by decide) (fun h => absurd h (nI_pos (by omega))) (fun _ => ?_)
        refine lv_iload hx hb dL_law_294 (lv_at hl 2 rfl) ?_
        refine lv_bipush (v := nI 48) hx hb dL_law_296 (by decide) ?_
        refine n_gt (tgt := 448) hx hb (by omega) (by omega) dL_law_298 (by decide) (fun c_22 => ?_) (fun c_22 => ?_)
        · skip
          exfalso; omega
        · skip
          refine lv_aload_n hx hb dL_law_301 rfl (lv_at hl 11 rfl) ?_
          refine lv_iload hx hb dL_law_302 (lv_at hl 3 rfl) ?_
          refine w_callL (w_runV (n := 1) (As := [.int (nI j)]) (rest := []) hx hb hml hown (hX.l hd) (c_X2_marksOf_g l g α H.size hF hO hj) kw358 kw1 kw355 kw356 kw357 wn_X2_marksOf rfl hF.1 rfl ⟨Nat.le_of_ble_eq_true rfl, Nat.le_of_ble_eq_true rfl⟩ hl.1 rfl (Nat.le_of_ble_eq_true rfl) dL_law_304 ⟨(show cells + 0 ≤ 600130 by omega), (show slots + 0 ≤ 7301080 by omega)⟩) hX hd (fun r_25 μ_23 H locs q_24 hd hX hz => ?_)
          obtain ⟨rfl, e_26⟩ := q_24
          rw [e_26] at hX hd
          refine W.eq (g2 := F0 m 307 ls [.int (nI (σ 12 j))]) rfl ?_
          refine lv_if_lt (tgt := 448) hx hb dL_law_307 (by decide) (fun h => absurd h (nI_pos (by omega))) (fun _ => ?_)
          refine lv_aload_n hx hb dL_law_310 rfl (lv_at hl 11 rfl) ?_
          refine lv_iload hx hb dL_law_311 (lv_at hl 3 rfl) ?_
          refine w_callL (w_runV (n := 1) (As := [.int (nI j)]) (rest := []) hx hb hml hown (hX.l hd) (c_X2_marksOf_g l g α H.size hF hO hj) kw358 kw1 kw355 kw356 kw357 wn_X2_marksOf rfl hF.1 rfl ⟨Nat.le_of_ble_eq_true rfl, Nat.le_of_ble_eq_true rfl⟩ hl.1 rfl (Nat.le_of_ble_eq_true rfl) dL_law_313 ⟨(show cells + 0 ≤ 600130 by omega), (show slots + 0 ≤ 7301080 by omega)⟩) hX hd (fun r_29 μ_27 H locs q_28 hd hX hz => ?_)
          obtain ⟨rfl, e_30⟩ := q_28
          rw [e_30] at hX hd
          refine W.eq (g2 := F0 m 316 ls [.int (nI (σ 12 j))]) rfl ?_
          refine lv_iconst (v := nI 2) hx hb dL_law_316 (by decide) ?_
          refine n_gt (tgt := 448) hx hb (by omega) (by omega) dL_law_317 (by decide) (fun c_31 => ?_) (fun c_31 => ?_)
          · skip
            exfalso; omega
          · skip
            have hj339 : ∀ (α : wMu) (H : Heap) (locs : List Loc) (ls : Array Slot), fD g Λ none σ α → dj α ν → wX g A s H locs (mU α ν) → lv_has ls 25 [(14, .int (nI (σ 13 j))), (13, .int (nI (vGrt σ j))), (12, .int (nI (σ 11 j))), (11, .int (nI j)), (10, .int (nI (cHel σ (j + 1)))), (9, .int (nI (uSm σ (σ 4 0) (σ 3 0)))), (7, .int (nI (σ 4 0))), (5, .long (vDig σ)), (4, .int x), (3, .int (nI t)), (2, .ref (Ω 0 0)), (1, .ref (Λ 0 0)), (0, .ref ((gT g).1))] → W p l e room_1 s m args below meth c H locs cells slots Q (F0 m 339 ls []) := by
              intro α H locs ls hF hd hX hl
              refine lv_iload hx hb dL_law_339 (lv_at hl 1 rfl) ?_
              refine lv_bipush (v := nI 20) hx hb dL_law_341 (by decide) ?_
              refine n_gt (tgt := 448) hx hb (by omega) (by omega) dL_law_343 (by decide) (fun c_32 => ?_) (fun c_32 => ?_)
              · skip
                exfalso; omega
              · skip
                refine lv_iload hx hb dL_law_346 (lv_at hl 0 rfl) ?_
                refine lv_iconst (v := nI 4) hx hb dL_law_348 (by decide) ?_
                refine n_lt (tgt := 448) hx hb (by omega) (by omega) dL_law_349 (by decide) (fun c_33 => ?_) (fun c_33 => ?_)
                · skip
                  exfalso; omega
                · skip
                  refine lv_iload hx hb dL_law_352 (lv_at hl 0 rfl) ?_
                  refine lv_bipush (v := nI 32) hx hb dL_law_354 (by decide) ?_
                  refine n_gt (tgt := 448) hx hb (by omega) (by omega) dL_law_356 (by decide) (fun c_34 => ?_) (fun c_34 => ?_)
                  · skip
                    exfalso; omega
                  · skip
                    refine lv_iload hx hb dL_law_359 (lv_at hl 0 rfl) ?_
                    refine lv_iload hx hb dL_law_361 (lv_at hl 0 rfl) ?_
                    refine lv_iconst (v := nI 1) hx hb dL_law_363 (by decide) ?_
                    refine n_isub hx hb dL_law_364 (pk_sub (by omega)) ?_
                    refine lv_iand hx hb dL_law_365 ?_
                    rw [nx_and hpw]
                    refine W.eq (g2 := F0 m 366 ls [.int (nI 0)]) rfl ?_
                    refine n_if_ne (tgt := 448) hx hb (by omega) dL_law_366 (by decide) (fun h => absurd h (by omega)) (fun _ => ?_)
                    have hj385 : ∀ (α : wMu) (H : Heap) (locs : List Loc) (ls : Array Slot), fD g Λ none σ α → dj α ν → wX g A s H locs (mU α ν) → lv_has ls 25 [(14, .int (nI (σ 13 j))), (13, .int (nI (vGrt σ j))), (12, .int (nI (σ 11 j))), (11, .int (nI j)), (10, .int (nI (cHel σ (j + 1)))), (9, .int (nI (uSm σ (σ 4 0) (σ 3 0)))), (7, .int (nI (σ 4 0))), (5, .long (vDig σ)), (4, .int x), (3, .int (nI t)), (2, .ref (Ω 0 0)), (1, .ref (Λ 0 0)), (0, .ref ((gT g).1))] → W p l e room_1 s m args below meth c H locs cells slots Q (F0 m 385 ls []) := by
                      intro α H locs ls hF hd hX hl
                      have hj405 : ∀ (α : wMu) (H : Heap) (locs : List Loc) (ls : Array Slot), fD g Λ none σ α → dj α ν → wX g A s H locs (mU α ν) → lv_has ls 25 [(14, .int (nI (σ 13 j))), (13, .int (nI (vGrt σ j))), (12, .int (nI (σ 11 j))), (11, .int (nI j)), (10, .int (nI (cHel σ (j + 1)))), (9, .int (nI (uSm σ (σ 4 0) (σ 3 0)))), (7, .int (nI (σ 4 0))), (5, .long (vDig σ)), (4, .int x), (3, .int (nI t)), (2, .ref (Ω 0 0)), (1, .ref (Λ 0 0)), (0, .ref ((gT g).1))] → W p l e room_1 s m args below meth c H locs cells slots Q (F0 m 405 ls []) := by
                        intro α H locs ls hF hd hX hl
                        have hj427 : ∀ (α : wMu) (H : Heap) (locs : List Loc) (ls : Array Slot), fD g Λ none σ α → dj α ν → wX g A s H locs (mU α ν) → lv_has ls 25 [(14, .int (nI (σ 13 j))), (13, .int (nI (vGrt σ j))), (12, .int (nI (σ 11 j))), (11, .int (nI j)), (10, .int (nI (cHel σ (j + 1)))), (9, .int (nI (uSm σ (σ 4 0) (σ 3 0)))), (7, .int (nI (σ 4 0))), (5, .long (vDig σ)), (4, .int x), (3, .int (nI t)), (2, .ref (Ω 0 0)), (1, .ref (Λ 0 0)), (0, .ref ((gT g).1))] → W p l e room_1 s m args below meth c H locs cells slots Q (F0 m 427 ls []) := by
                          intro α H locs ls hF hd hX hl
                          refine lv_aload_n hx hb dL_law_427 rfl (lv_at hl 11 rfl) ?_
                          refine lv_iload hx hb dL_law_428 (lv_at hl 3 rfl) ?_
                          refine lv_iconst (v := nI 1) hx hb dL_law_430 (by decide) ?_
                          refine lv_iconst (v := nI 1) hx hb dL_law_431 (by decide) ?_
                          refine w_callL (w_runV (n := 3) (As := [.int (nI j), .int (nI 1), .int (nI 1)]) (rest := []) hx hb hml hown (hX.l hd) (c_X2_grantedIn_g l g α H.size hF hO hj (by omega) (by omega) (by omega) (by omega)) kw401 kw1 kw398 kw399 kw400 wn_X2_grantedIn rfl hF.1 rfl ⟨Nat.le_of_ble_eq_true rfl, Nat.le_of_ble_eq_true rfl⟩ hl.1 rfl (Nat.le_of_ble_eq_true rfl) dL_law_432 ⟨(show cells + 0 ≤ 600130 by omega), (show slots + 0 ≤ 7301080 by omega)⟩) hX hd (fun r_37 μ_35 H locs q_36 hd hX hz => ?_)
                          obtain ⟨rfl, hF⟩ := q_36
                          refine W.eq (g2 := F0 m 435 ls [.int (nI (tws σ j 1 1 (σ 6 (σ 8 j))))]) rfl ?_
                          refine lv_iload hx hb dL_law_435 (lv_at hl 1 rfl) ?_
                          refine n_if_le (tgt := 444) hx hb (by omega) dL_law_437 (by decide) (fun c_38 => ?_) (fun c_38 => ?_)
                          · skip
                            refine lv_iconst (v := nI 0) hx hb dL_law_444 (by decide) ?_
                            refine n_eq (tgt := 450) hx hb (by omega) (by omega) dL_law_445 (by decide) (fun c_39 => ?_) (fun c_39 => ?_)
                            · skip
                              exact kk _ _ _ _ hF hd hX (lv_sub hl [3, 4, 5, 6, 7, 8, 9, 10, 11, 12] rfl)
                            · skip
                              exfalso; omega
                          · skip
                            refine lv_iconst (v := nI 1) hx hb dL_law_440 (by decide) ?_
                            refine lv_goto (tgt := 445) hx hb dL_law_441 (by decide) ?_
                            refine n_eq (tgt := 450) hx hb (by omega) (by omega) dL_law_445 (by decide) (fun c_40 => ?_) (fun c_40 => ?_)
                            · skip
                              exact kk _ _ _ _ hF hd hX (lv_sub hl [3, 4, 5, 6, 7, 8, 9, 10, 11, 12] rfl)
                            · skip
                              exfalso; omega
                        refine lv_aload_n hx hb dL_law_405 rfl (lv_at hl 11 rfl) ?_
                        refine lv_iload hx hb dL_law_406 (lv_at hl 3 rfl) ?_
                        refine lv_iconst (v := nI 1) hx hb dL_law_408 (by decide) ?_
                        refine w_callL (w_runV (n := 2) (As := [.int (nI j), .int (nI 1)]) (rest := []) hx hb hml hown (hX.l hd) (c_X2_hoursUntil_g l g α H.size hF hO hj (by omega) (by omega)) kw380 kw1 kw377 kw378 kw379 wn_X2_hoursUntil rfl hF.1 rfl ⟨Nat.le_of_ble_eq_true rfl, Nat.le_of_ble_eq_true rfl⟩ hl.1 rfl (Nat.le_of_ble_eq_true rfl) dL_law_409 ⟨(show cells + 0 ≤ 600130 by omega), (show slots + 0 ≤ 7301080 by omega)⟩) hX hd (fun r_43 μ_41 H locs q_42 hd hX hz => ?_)
                        obtain ⟨rfl, hF⟩ := q_42
                        refine W.eq (g2 := F0 m 412 ls [.int (utl σ j (1) 101 0)]) rfl ?_
                        refine lv_if_lt (tgt := 427) hx hb dL_law_412 (by decide) (fun c_44 => ?_) (fun c_44 => ?_)
                        · skip
                          exact hj427 _ _ _ _ hF hd hX (lv_sub hl [0, 1, 2, 3, 4, 5, 6, 7, 8, 9, 10, 11, 12] rfl)
                        · skip
                          obtain ⟨k, hk, hke, hkw⟩ := utl_wait (Int32.not_lt.mp c_44)
                          refine lv_aload_n hx hb dL_law_415 rfl (lv_at hl 11 rfl) ?_
                          refine lv_iload hx hb dL_law_416 (lv_at hl 3 rfl) ?_
                          refine lv_iconst (v := nI 1) hx hb dL_law_418 (by decide) ?_
                          refine w_callL (w_runV (n := 2) (As := [.int (nI j), .int (nI 1)]) (rest := []) hx hb hml hown (hX.l hd) (c_X2_hoursUntil_g l g μ_41 H.size hF hO hj (by omega) (by omega)) kw380 kw1 kw377 kw378 kw379 wn_X2_hoursUntil rfl hF.1 rfl ⟨Nat.le_of_ble_eq_true rfl, Nat.le_of_ble_eq_true rfl⟩ hl.1 rfl (Nat.le_of_ble_eq_true rfl) dL_law_419 ⟨(show cells + 0 ≤ 600130 by omega), (show slots + 0 ≤ 7301080 by omega)⟩) hX hd (fun r_47 μ_45 H locs q_46 hd hX hz => ?_)
                          obtain ⟨rfl, hF⟩ := q_46
                          refine W.eq (g2 := F0 m 422 ls [.int (utl σ j (1) 101 0)]) rfl ?_
                          rw [hke]
                          refine lv_iload hx hb dL_law_422 (lv_at hl 2 rfl) ?_
                          refine n_lt (tgt := 448) hx hb (by omega) (by omega) dL_law_424 (by decide) (fun c_48 => ?_) (fun c_48 => ?_)
                          · skip
                            exfalso; omega
                          · skip
                            exact hj427 _ _ _ _ hF hd hX (lv_sub hl [0, 1, 2, 3, 4, 5, 6, 7, 8, 9, 10, 11, 12] rfl)
                      refine lv_iload hx hb dL_law_385 (lv_at hl 1 rfl) ?_
                      refine lv_bipush (v := nI 20) hx hb dL_law_387 (by decide) ?_
                      refine n_ge (tgt := 405) hx hb (by omega) (by omega) dL_law_389 (by decide) (fun c_49 => ?_) (fun c_49 => ?_)
                      · skip
                        exact hj405 _ _ _ _ hF hd hX (lv_sub hl [0, 1, 2, 3, 4, 5, 6, 7, 8, 9, 10, 11, 12] rfl)
                      · skip
                        refine lv_aload_n hx hb dL_law_392 rfl (lv_at hl 11 rfl) ?_
                        refine lv_iload hx hb dL_law_393 (lv_at hl 3 rfl) ?_
                        refine lv_iload hx hb dL_law_395 (lv_at hl 1 rfl) ?_
                        refine lv_iconst (v := nI 1) hx hb dL_law_397 (by decide) ?_
                        refine n_iadd hx hb dL_law_398 (nI_add _ _) ?_
                        refine w_callL (w_runV (n := 2) (As := [.int (nI j), .int (nI ((vGrt σ j) + 1))]) (rest := []) hx hb hml hown (hX.l hd) (c_X2_hoursUntil_g l g α H.size hF hO hj (by omega) (by omega)) kw380 kw1 kw377 kw378 kw379 wn_X2_hoursUntil rfl hF.1 rfl ⟨Nat.le_of_ble_eq_true rfl, Nat.le_of_ble_eq_true rfl⟩ hl.1 rfl (Nat.le_of_ble_eq_true rfl) dL_law_399 ⟨(show cells + 0 ≤ 600130 by omega), (show slots + 0 ≤ 7301080 by omega)⟩) hX hd (fun r_52 μ_50 H locs q_51 hd hX hz => ?_)
                        obtain ⟨rfl, hF⟩ := q_51
                        refine W.eq (g2 := F0 m 402 ls [.int (utl σ j (vGrt σ j + 1) 101 0)]) rfl ?_
                        refine lv_if_eq (tgt := 448) hx hb dL_law_402 (by decide) (fun h => absurd h (fun z => by have h9 := (grt_iff (σ := σ) (j := j) (sz := vGrt σ j + 1) (by omega) (by omega)).mp ((utl_0 hO hj).mp (z.trans nI_0.symm)); omega)) (fun _ => ?_)
                        exact hj405 _ _ _ _ hF hd hX (lv_sub hl [0, 1, 2, 3, 4, 5, 6, 7, 8, 9, 10, 11, 12] rfl)
                    refine lv_iload hx hb dL_law_369 (lv_at hl 1 rfl) ?_
                    refine n_if_le (tgt := 385) hx hb (by omega) dL_law_371 (by decide) (fun c_53 => ?_) (fun c_53 => ?_)
                    · skip
                      exact hj385 _ _ _ _ hF hd hX (lv_sub hl [0, 1, 2, 3, 4, 5, 6, 7, 8, 9, 10, 11, 12] rfl)
                    · skip
                      refine lv_aload_n hx hb dL_law_374 rfl (lv_at hl 11 rfl) ?_
                      refine lv_iload hx hb dL_law_375 (lv_at hl 3 rfl) ?_
                      refine lv_iload hx hb dL_law_377 (lv_at hl 1 rfl) ?_
                      refine w_callL (w_runV (n := 2) (As := [.int (nI j), .int (nI (vGrt σ j))]) (rest := []) hx hb hml hown (hX.l hd) (c_X2_hoursUntil_g l g α H.size hF hO hj (by omega) (by omega)) kw380 kw1 kw377 kw378 kw379 wn_X2_hoursUntil rfl hF.1 rfl ⟨Nat.le_of_ble_eq_true rfl, Nat.le_of_ble_eq_true rfl⟩ hl.1 rfl (Nat.le_of_ble_eq_true rfl) dL_law_379 ⟨(show cells + 0 ≤ 600130 by omega), (show slots + 0 ≤ 7301080 by omega)⟩) hX hd (fun r_56 μ_54 H locs q_55 hd hX hz => ?_)
                      obtain ⟨rfl, hF⟩ := q_55
                      refine W.eq (g2 := F0 m 382 ls [.int (utl σ j (vGrt σ j) 101 0)]) rfl ?_
                      refine lv_if_ne (tgt := 448) hx hb dL_law_382 (by decide) (fun h => absurd h (fun z => z (((utl_0 hO hj).mpr ((grt_iff (by omega) (by omega)).mpr (Nat.le_refl _))).trans nI_0))) (fun _ => ?_)
                      exact hj385 _ _ _ _ hF hd hX (lv_sub hl [0, 1, 2, 3, 4, 5, 6, 7, 8, 9, 10, 11, 12] rfl)
            refine lv_iload hx hb dL_law_320 (lv_at hl 2 rfl) ?_
            refine n_if_le (tgt := 339) hx hb (by omega) dL_law_322 (by decide) (fun c_57 => ?_) (fun c_57 => ?_)
            · skip
              exact hj339 _ _ _ _ hF hd hX (lv_sub hl [0, 1, 2, 3, 4, 5, 6, 7, 8, 9, 10, 11, 12] rfl)
            · skip
              refine lv_iload hx hb dL_law_325 (lv_at hl 1 rfl) ?_
              refine n_if_ne (tgt := 448) hx hb (by omega) dL_law_327 (by decide) (fun c_58 => ?_) (fun c_58 => ?_)
              · skip
                exfalso; omega
              · skip
                refine lv_aload_n hx hb dL_law_330 rfl (lv_at hl 11 rfl) ?_
                refine lv_iload hx hb dL_law_331 (lv_at hl 3 rfl) ?_
                refine w_callL (w_runV (n := 1) (As := [.int (nI j)]) (rest := []) hx hb hml hown (hX.l hd) (c_X2_marksOf_g l g α H.size hF hO hj) kw358 kw1 kw355 kw356 kw357 wn_X2_marksOf rfl hF.1 rfl ⟨Nat.le_of_ble_eq_true rfl, Nat.le_of_ble_eq_true rfl⟩ hl.1 rfl (Nat.le_of_ble_eq_true rfl) dL_law_333 ⟨(show cells + 0 ≤ 600130 by omega), (show slots + 0 ≤ 7301080 by omega)⟩) hX hd (fun r_61 μ_59 H locs q_60 hd hX hz => ?_)
                obtain ⟨rfl, e_62⟩ := q_60
                rw [e_62] at hX hd
                refine W.eq (g2 := F0 m 336 ls [.int (nI (σ 12 j))]) rfl ?_
                refine n_if_ne (tgt := 448) hx hb (by omega) dL_law_336 (by decide) (fun c_63 => ?_) (fun c_63 => ?_)
                · skip
                  exfalso; omega
                · skip
                  exact hj339 _ _ _ _ hF hd hX (lv_sub hl [0, 1, 2, 3, 4, 5, 6, 7, 8, 9, 10, 11, 12] rfl)
      refine lv_aload_n hx hb dL_law_271 rfl (lv_at hl 11 rfl) ?_
      refine lv_iload hx hb dL_law_272 (lv_at hl 3 rfl) ?_
      refine w_callL (w_runV (n := 1) (As := [.int (nI j)]) (rest := []) hx hb hml hown (hX.l hd) (c_X2_burstOf_g l g α H.size hF hO hj) kw350 kw1 kw347 kw348 kw349 wn_X2_burstOf rfl hF.1 rfl ⟨Nat.le_of_ble_eq_true rfl, Nat.le_of_ble_eq_true rfl⟩ hl.1 rfl (Nat.le_of_ble_eq_true rfl) dL_law_274 ⟨(show cells + 0 ≤ 600130 by omega), (show slots + 0 ≤ 7301080 by omega)⟩) hX hd (fun r_66 μ_64 H locs q_65 hd hX hz => ?_)
      obtain ⟨rfl, e_67⟩ := q_65
      rw [e_67] at hX hd
      refine W.eq (g2 := F0 m 277 ls [.int (nI (σ 10 j))]) rfl ?_
      refine n_if_le (tgt := 289) hx hb (by omega) dL_law_277 (by decide) (fun c_68 => ?_) (fun c_68 => ?_)
      · skip
        exact hj289 _ _ _ _ hF hd hX (lv_sub hl [0, 1, 2, 3, 4, 5, 6, 7, 8, 9, 10, 11, 12] rfl)
      · skip
        refine lv_aload_n hx hb dL_law_280 rfl (lv_at hl 11 rfl) ?_
        refine lv_iload hx hb dL_law_281 (lv_at hl 3 rfl) ?_
        refine w_callL (w_runV (n := 1) (As := [.int (nI j)]) (rest := []) hx hb hml hown (hX.l hd) (c_X2_daysToBirthday_g l g α H.size hF hO hj) kw366 kw1 kw363 kw364 kw365 wn_X2_daysToBirthday rfl hF.1 rfl ⟨Nat.le_of_ble_eq_true rfl, Nat.le_of_ble_eq_true rfl⟩ hl.1 rfl (Nat.le_of_ble_eq_true rfl) dL_law_283 ⟨(show cells + 0 ≤ 600130 by omega), (show slots + 0 ≤ 7301080 by omega)⟩) hX hd (fun r_71 μ_69 H locs q_70 hd hX hz => ?_)
        obtain ⟨rfl, e_72⟩ := q_70
        rw [e_72] at hX hd
        refine W.eq (g2 := F0 m 286 ls [.int (nI (vDay σ j))]) rfl ?_
        refine n_if_gt (tgt := 448) hx hb (by omega) dL_law_286 (by decide) (fun c_73 => ?_) (fun c_73 => ?_)
        · skip
          exfalso; omega
        · skip
          exact hj289 _ _ _ _ hF hd hX (lv_sub hl [0, 1, 2, 3, 4, 5, 6, 7, 8, 9, 10, 11, 12] rfl)
  refine lv_iload hx hb dL_law_236 (lv_at hl 4 rfl) ?_
  refine lv_iload hx hb dL_law_238 (lv_at hl 2 rfl) ?_
  refine n_if_le (tgt := 247) hx hb (by omega) dL_law_240 (by decide) (fun c_74 => ?_) (fun c_74 => ?_)
  · skip
    refine lv_iconst (v := nI 0) hx hb dL_law_247 (by decide) ?_
    refine n_iadd hx hb dL_law_248 (nI_add _ _) ?_
    refine lv_istore (lv' := [(10, .int (nI ((cHel σ j) + 0))), (14, .int (nI (σ 13 j))), (13, .int (nI (vGrt σ j))), (12, .int (nI (σ 11 j))), (11, .int (nI j)), (9, .int (nI (uSm σ (σ 4 0) (σ 3 0)))), (7, .int (nI (σ 4 0))), (5, .long (vDig σ)), (4, .int x), (3, .int (nI t)), (2, .ref (Ω 0 0)), (1, .ref (Λ 0 0)), (0, .ref ((gT g).1))]) hx hb dL_law_249 hl (by decide) rfl (fun ls hl => ?_)
    rw [show (cHel σ j) + 0 = cHel σ (j + 1) by simp only [cHel]; rw [if_neg (by omega)]] at hl
    exact hj251 _ _ _ _ hF hd hX (lv_sub hl [1, 2, 3, 4, 0, 5, 6, 7, 8, 9, 10, 11, 12] rfl)
  · skip
    refine lv_iconst (v := nI 1) hx hb dL_law_243 (by decide) ?_
    refine lv_goto (tgt := 248) hx hb dL_law_244 (by decide) ?_
    refine n_iadd hx hb dL_law_248 (nI_add _ _) ?_
    refine lv_istore (lv' := [(10, .int (nI ((cHel σ j) + 1))), (14, .int (nI (σ 13 j))), (13, .int (nI (vGrt σ j))), (12, .int (nI (σ 11 j))), (11, .int (nI j)), (9, .int (nI (uSm σ (σ 4 0) (σ 3 0)))), (7, .int (nI (σ 4 0))), (5, .long (vDig σ)), (4, .int x), (3, .int (nI t)), (2, .ref (Ω 0 0)), (1, .ref (Λ 0 0)), (0, .ref ((gT g).1))]) hx hb dL_law_249 hl (by decide) rfl (fun ls hl => ?_)
    rw [show (cHel σ j) + 1 = cHel σ (j + 1) by simp only [cHel]; rw [if_pos (by omega)]] at hl
    exact hj251 _ _ _ _ hF hd hX (lv_sub hl [1, 2, 3, 4, 0, 5, 6, 7, 8, 9, 10, 11, 12] rfl)

