theorem grt_iff {σ : sSt} {j sz : Nat} (h1 : 1 ≤ sz) (h2 : sz ≤ 20) : okW σ j sz ↔ sz ≤ vGrt σ j := by
  unfold vGrt
  by_cases h : 0 < σ 11 j
  · rw [if_pos h]; omega
  · rw [if_neg h]; omega
theorem grt_le (σ : sSt) (j : Nat) : vGrt σ j ≤ 20 := by
  unfold vGrt
  split <;> omega
theorem day_iff {D bd d : Nat} (h : bd ≤ 29) (hd : d ≤ (bd + 30 - D % 30) % 30) : (D + d) % 30 = bd ↔ d = (bd + 30 - D % 30) % 30 := by omega
theorem cUsr_le (σ : sSt) (w : Nat) : ∀ n, cUsr σ w n ≤ n
  | 0 => Nat.le_refl 0
  | n + 1 => by
    have := cUsr_le σ w n
    simp only [cUsr]
    split <;> omega
theorem cHel_le (σ : sSt) : ∀ n, cHel σ n ≤ n
  | 0 => Nat.le_refl 0
  | n + 1 => by
    have := cHel_le σ n
    simp only [cHel]
    split <;> omega
set_option maxHeartbeats 4000000 in
set_option maxRecDepth 100000 in
/-- all is as by hand -/
theorem c_X3_isSame (l : Launch) (g : wG) (μ : wMu) (zz : Nat) {o1 o2 i : Nat} (hW : bW g o1 o2 i μ) (hi : i ≤ 400) : wMet l yX3_isSame cX3_isSame 9 (some .boolean) 5 0 0 109 g [.ref o2, .ref o1] μ zz (fun r μ' => r = some (.int (nI 1))) := by
  refine wMet.of (by decide) (Nat.le_of_ble_eq_true rfl) ?_
  intro p e s m below meth c ls hx hb hr hml hown hlocks hin hl hsz hX
  have hl : lv_has ls 9 [(0, .ref o2), (1, .ref o1)] := hl
  obtain ⟨Λ, Ω, σ, τ, α, β, hκ, hd, hF, hS, rfl, rfl, hg⟩ := hW
  have hX := hX.cast hκ
  have hO := hg.O
  have hT := hg.T
  obtain ⟨⟨-, gh, gc⟩, -⟩ := id hg
  obtain ⟨s1, ⟨fw, s2, s2'⟩, ⟨fc, s3, s3'⟩, s4, s5, s6, s7⟩ := id hS
  obtain ⟨o1, o2, o3, o4, o5, o6, o7⟩ := id hO
  refine lv_iconst (v := nI 0) hx hb dX3_isSame_0 (by decide) ?_
  refine lv_istore_n (lv' := [(2, .int (nI 0)), (0, .ref (Ω 0 0)), (1, .ref (Λ 0 0))]) hx hb dX3_isSame_1 rfl hl (by decide) rfl (fun ls hl => ?_)
  refine lv_iconst (v := nI 0) hx hb dX3_isSame_2 (by decide) ?_
  refine lv_istore_n (lv' := [(3, .int (nI 0)), (2, .int (nI 0)), (0, .ref (Ω 0 0)), (1, .ref (Λ 0 0))]) hx hb dX3_isSame_3 rfl hl (by decide) rfl (fun ls hl => ?_)
  have hloop : ∀ (n : Nat) (k : Nat) (H : Heap) (locs : List Loc) (ls : Array Slot), σ 3 0 < k + n → k ≤ σ 3 0 → wX g (wA μ zz) s H locs (mU α β) → lv_has ls 9 [(3, .int (nI k)), (2, .int (nI 0)), (0, .ref (Ω 0 0)), (1, .ref (Λ 0 0))] → W p l e ({ frames := 5, cells := 0, slots := 0, locals := 109 } : Room) s m ([.ref (Ω 0 0), .ref (Λ 0 0)] : List Value).toArray below meth c H locs 0 0 (MQ below (wQc g μ zz (fun r μ' => r = some (.int (nI 1)))) ([.ref (Ω 0 0), .ref (Λ 0 0)] : List Value).toArray s 0 0 (wA μ zz)) (F0 m 4 ls []) := by
    intro n
    induction n with
    | zero => intro k H locs ls hn hk hX hl; exact absurd hn (by omega)
    | succ n ih =>
      intro k H locs ls hn hk hX hl
      refine lv_iload_n hx hb dX3_isSame_4 rfl (lv_at hl 0 rfl) ?_
      refine lv_aload_n hx hb dX3_isSame_5 rfl (lv_at hl 2 rfl) ?_
      refine gX3_0 hx hb hX hown (mU_r s1) kw627 dX3_isSame_6 ?_
      refine n_alenR hx hb hX (mU_r s2) dX3_isSame_9 ?_
      refine n_ge (tgt := 102) hx hb (by omega) (by omega) dX3_isSame_10 (by decide) (fun c_1 => ?_) (fun c_1 => ?_)
      · skip
        refine lv_iconst (v := nI 0) hx hb dX3_isSame_102 (by decide) ?_
        refine lv_istore_n (lv' := [(3, .int (nI 0)), (2, .int (nI 0)), (0, .ref (Ω 0 0)), (1, .ref (Λ 0 0))]) hx hb dX3_isSame_103 rfl hl (by decide) rfl (fun ls hl => ?_)
        have hch : ∀ u, cHel σ u ≤ u := cHel_le σ
        have hloop3 : ∀ (n3 : Nat) (j : Nat) (H : Heap) (locs : List Loc) (ls : Array Slot), σ 4 0 < j + n3 → j ≤ σ 4 0 → wX g (wA μ zz) s H locs (mU α β) → lv_has ls 9 [(3, .int (nI j)), (2, .int (nI (cHel σ j))), (0, .ref (Ω 0 0)), (1, .ref (Λ 0 0))] → W p l e ({ frames := 5, cells := 0, slots := 0, locals := 109 } : Room) s m ([.ref (Ω 0 0), .ref (Λ 0 0)] : List Value).toArray below meth c H locs 0 0 (MQ below (wQc g μ zz (fun r μ' => r = some (.int (nI 1)))) ([.ref (Ω 0 0), .ref (Λ 0 0)] : List Value).toArray s 0 0 (wA μ zz)) (F0 m 104 ls []) := by
          intro n3
          induction n3 with
          | zero => intro j H locs ls hn3 hj hX hl; exact absurd hn3 (by omega)
          | succ n3 ih3 =>
            intro j H locs ls hn3 hj hX hl
            refine lv_iload_n hx hb dX3_isSame_104 rfl (lv_at hl 0 rfl) ?_
            refine lv_aload_n hx hb dX3_isSame_105 rfl (lv_at hl 2 rfl) ?_
            refine gX3_1 hx hb hX hown (mU_r s1) kw629 dX3_isSame_106 ?_
            refine n_alenR hx hb hX (mU_r s3) dX3_isSame_109 ?_
            refine n_ge (tgt := 282) hx hb (by omega) (by omega) dX3_isSame_110 (by decide) (fun c_2 => ?_) (fun c_2 => ?_)
            · skip
              obtain rfl : j = σ 4 0 := by omega
              have hhe := hch (σ 4 0)
              refine lv_aload_n hx hb dX3_isSame_282 rfl (lv_at hl 2 rfl) ?_
              refine gX3_3 hx hb hX hown (mU_r s1) kw632 dX3_isSame_283 ?_
              refine lv_aload_n hx hb dX3_isSame_286 rfl (lv_at hl 2 rfl) ?_
              refine gX3_4 hx hb hX hown (mU_r s1) kw633 dX3_isSame_287 ?_
              refine n_iadd hx hb dX3_isSame_290 (nI_add _ _) ?_
              refine lv_istore_n (lv' := [(3, .int (nI ((σ 1 0) + (σ 2 0)))), (2, .int (nI (cHel σ (σ 4 0)))), (0, .ref (Ω 0 0)), (1, .ref (Λ 0 0))]) hx hb dX3_isSame_291 rfl hl (by decide) rfl (fun ls hl => ?_)
              refine lv_aload_n hx hb dX3_isSame_292 rfl (lv_at hl 3 rfl) ?_
              refine w_callL (w_runV (n := 0) (As := []) (rest := []) hx hb hml hown (hX.l hd) (c_X2_hour l g α H.size hF hO) kw304 kw1 kw496 kw302 kw303 wn_X2_hour rfl hF.1 rfl ⟨Nat.le_of_ble_eq_true rfl, Nat.le_of_ble_eq_true rfl⟩ hl.1 rfl (Nat.le_of_ble_eq_true rfl) dX3_isSame_293 ⟨Nat.le_of_ble_eq_true rfl, Nat.le_of_ble_eq_true rfl⟩) hX hd (fun r_5 μ_3 H locs q_4 hd hX hz => ?_)
              obtain ⟨rfl, e_6⟩ := q_4
              rw [e_6] at hX hd
              refine W.eq (g2 := F0 m 296 ls [.int (nI (σ 0 0))]) rfl ?_
              refine lv_aload_n hx hb dX3_isSame_296 rfl (lv_at hl 2 rfl) ?_
              refine gX3_2 hx hb hX hown (mU_r s1) kw631 dX3_isSame_297 ?_
              refine n_ne (tgt := 399) hx hb (by omega) (by omega) dX3_isSame_300 (by decide) (fun h => absurd h (by omega)) (fun _ => ?_)
              refine lv_aload_n hx hb dX3_isSame_303 rfl (lv_at hl 3 rfl) ?_
              refine w_callL (w_runV (n := 0) (As := []) (rest := []) hx hb hml hown (hX.l hd) (c_X2_day l g α H.size hF hO) kw308 kw1 kw497 kw306 kw307 wn_X2_day rfl hF.1 rfl ⟨Nat.le_of_ble_eq_true rfl, Nat.le_of_ble_eq_true rfl⟩ hl.1 rfl (Nat.le_of_ble_eq_true rfl) dX3_isSame_304 ⟨Nat.le_of_ble_eq_true rfl, Nat.le_of_ble_eq_true rfl⟩) hX hd (fun r_9 μ_7 H locs q_8 hd hX hz => ?_)
              obtain ⟨rfl, e_10⟩ := q_8
              rw [e_10] at hX hd
              refine W.eq (g2 := F0 m 307 ls [.int (nI (σ 0 0 / 24))]) rfl ?_
              refine lv_aload_n hx hb dX3_isSame_307 rfl (lv_at hl 2 rfl) ?_
              refine gX3_2 hx hb hX hown (mU_r s1) kw631 dX3_isSame_308 ?_
              refine lv_bipush (v := nI 24) hx hb dX3_isSame_311 (by decide) ?_
              refine n_idiv hx hb dX3_isSame_313 (by decide) (pk_div (by omega) (by decide) (by decide)) ?_
              refine n_ne (tgt := 399) hx hb (by omega) (by omega) dX3_isSame_314 (by decide) (fun h => absurd h (by omega)) (fun _ => ?_)
              refine lv_aload_n hx hb dX3_isSame_317 rfl (lv_at hl 3 rfl) ?_
              refine w_callL (w_runV (n := 0) (As := []) (rest := []) hx hb hml hown (hX.l hd) (c_X2_wands l g α H.size hF hO) kw312 kw1 kw498 kw310 kw311 wn_X2_wands rfl hF.1 rfl ⟨Nat.le_of_ble_eq_true rfl, Nat.le_of_ble_eq_true rfl⟩ hl.1 rfl (Nat.le_of_ble_eq_true rfl) dX3_isSame_318 ⟨Nat.le_of_ble_eq_true rfl, Nat.le_of_ble_eq_true rfl⟩) hX hd (fun r_13 μ_11 H locs q_12 hd hX hz => ?_)
              obtain ⟨rfl, e_14⟩ := q_12
              rw [e_14] at hX hd
              refine W.eq (g2 := F0 m 321 ls [.int (nI (σ 3 0))]) rfl ?_
              refine lv_aload_n hx hb dX3_isSame_321 rfl (lv_at hl 2 rfl) ?_
              refine gX3_0 hx hb hX hown (mU_r s1) kw627 dX3_isSame_322 ?_
              refine n_alenR hx hb hX (mU_r s2) dX3_isSame_325 ?_
              refine n_ne (tgt := 399) hx hb (by omega) (by omega) dX3_isSame_326 (by decide) (fun h => absurd h (by omega)) (fun _ => ?_)
              refine lv_aload_n hx hb dX3_isSame_329 rfl (lv_at hl 3 rfl) ?_
              refine w_callL (w_runV (n := 0) (As := []) (rest := []) hx hb hml hown (hX.l hd) (c_X2_children l g α H.size hF hO) kw316 kw1 kw499 kw314 kw315 wn_X2_children rfl hF.1 rfl ⟨Nat.le_of_ble_eq_true rfl, Nat.le_of_ble_eq_true rfl⟩ hl.1 rfl (Nat.le_of_ble_eq_true rfl) dX3_isSame_330 ⟨Nat.le_of_ble_eq_true rfl, Nat.le_of_ble_eq_true rfl⟩) hX hd (fun r_17 μ_15 H locs q_16 hd hX hz => ?_)
              obtain ⟨rfl, e_18⟩ := q_16
              rw [e_18] at hX hd
              refine W.eq (g2 := F0 m 333 ls [.int (nI (σ 4 0))]) rfl ?_
              refine lv_aload_n hx hb dX3_isSame_333 rfl (lv_at hl 2 rfl) ?_
              refine gX3_1 hx hb hX hown (mU_r s1) kw629 dX3_isSame_334 ?_
              refine n_alenR hx hb hX (mU_r s3) dX3_isSame_337 ?_
              refine n_ne (tgt := 399) hx hb (by omega) (by omega) dX3_isSame_338 (by decide) (fun h => absurd h (by omega)) (fun _ => ?_)
              refine lv_aload_n hx hb dX3_isSame_341 rfl (lv_at hl 3 rfl) ?_
              refine w_callL (w_runV (n := 0) (As := []) (rest := []) hx hb hml hown (hX.l hd) (c_X2_granted l g α H.size hF hO) kw320 kw1 kw500 kw318 kw319 wn_X2_granted rfl hF.1 rfl ⟨Nat.le_of_ble_eq_true rfl, Nat.le_of_ble_eq_true rfl⟩ hl.1 rfl (Nat.le_of_ble_eq_true rfl) dX3_isSame_342 ⟨Nat.le_of_ble_eq_true rfl, Nat.le_of_ble_eq_true rfl⟩) hX hd (fun r_21 μ_19 H locs q_20 hd hX hz => ?_)
              obtain ⟨rfl, e_22⟩ := q_20
              rw [e_22] at hX hd
              refine W.eq (g2 := F0 m 345 ls [.int (nI (σ 1 0))]) rfl ?_
              refine lv_aload_n hx hb dX3_isSame_345 rfl (lv_at hl 2 rfl) ?_
              refine gX3_3 hx hb hX hown (mU_r s1) kw632 dX3_isSame_346 ?_
              refine n_ne (tgt := 399) hx hb (by omega) (by omega) dX3_isSame_349 (by decide) (fun h => absurd h (by omega)) (fun _ => ?_)
              refine lv_aload_n hx hb dX3_isSame_352 rfl (lv_at hl 3 rfl) ?_
              refine w_callL (w_runV (n := 0) (As := []) (rest := []) hx hb hml hown (hX.l hd) (c_X2_denied l g α H.size hF hO) kw324 kw1 kw501 kw322 kw323 wn_X2_denied rfl hF.1 rfl ⟨Nat.le_of_ble_eq_true rfl, Nat.le_of_ble_eq_true rfl⟩ hl.1 rfl (Nat.le_of_ble_eq_true rfl) dX3_isSame_353 ⟨Nat.le_of_ble_eq_true rfl, Nat.le_of_ble_eq_true rfl⟩) hX hd (fun r_25 μ_23 H locs q_24 hd hX hz => ?_)
              obtain ⟨rfl, e_26⟩ := q_24
              rw [e_26] at hX hd
              refine W.eq (g2 := F0 m 356 ls [.int (nI (σ 2 0))]) rfl ?_
              refine lv_aload_n hx hb dX3_isSame_356 rfl (lv_at hl 2 rfl) ?_
              refine gX3_4 hx hb hX hown (mU_r s1) kw633 dX3_isSame_357 ?_
              refine n_ne (tgt := 399) hx hb (by omega) (by omega) dX3_isSame_360 (by decide) (fun h => absurd h (by omega)) (fun _ => ?_)
              refine lv_aload_n hx hb dX3_isSame_363 rfl (lv_at hl 3 rfl) ?_
              refine w_callL (w_runV (n := 0) (As := []) (rest := []) hx hb hml hown (hX.l hd) (c_X2_punished l g α H.size hF hO) kw328 kw1 kw502 kw326 kw327 wn_X2_punished rfl hF.1 rfl ⟨Nat.le_of_ble_eq_true rfl, Nat.le_of_ble_eq_true rfl⟩ hl.1 rfl (Nat.le_of_ble_eq_true rfl) dX3_isSame_364 ⟨Nat.le_of_ble_eq_true rfl, Nat.le_of_ble_eq_true rfl⟩) hX hd (fun r_29 μ_27 H locs q_28 hd hX hz => ?_)
              obtain ⟨rfl, e_30⟩ := q_28
              rw [e_30] at hX hd
              refine W.eq (g2 := F0 m 367 ls [.int (nI (cHel σ (σ 4 0)))]) rfl ?_
              refine lv_iload_n hx hb dX3_isSame_367 rfl (lv_at hl 1 rfl) ?_
              refine n_ne (tgt := 399) hx hb (by omega) (by omega) dX3_isSame_368 (by decide) (fun h => absurd h (by omega)) (fun _ => ?_)
              refine lv_aload_n hx hb dX3_isSame_371 rfl (lv_at hl 3 rfl) ?_
              refine w_callL (w_runV (n := 0) (As := []) (rest := []) hx hb hml hown (hX.l hd) (c_X2_share l g α H.size hF hO) kw506 kw1 kw503 kw504 kw505 wn_X2_share rfl hF.1 rfl ⟨Nat.le_of_ble_eq_true rfl, Nat.le_of_ble_eq_true rfl⟩ hl.1 rfl (Nat.le_of_ble_eq_true rfl) dX3_isSame_372 ⟨Nat.le_of_ble_eq_true rfl, Nat.le_of_ble_eq_true rfl⟩) hX hd (fun r_33 μ_31 H locs q_32 hd hX hz => ?_)
              obtain ⟨rfl, e_34⟩ := q_32
              rw [e_34] at hX hd
              refine W.eq (g2 := F0 m 375 ls [.double (shv σ)]) rfl ?_
              refine lv_iload_n hx hb dX3_isSame_375 rfl (lv_at hl 0 rfl) ?_
              refine n_if_ne (tgt := 383) hx hb (by omega) dX3_isSame_376 (by decide) (fun c_35 => ?_) (fun c_35 => ?_)
              · skip
                refine lv_aload_n hx hb dX3_isSame_383 rfl (lv_at hl 2 rfl) ?_
                refine gX3_3 hx hb hX hown (mU_r s1) kw632 dX3_isSame_384 ?_
                refine lv_i2d hx hb dX3_isSame_387 ?_
                refine lv_iload_n hx hb dX3_isSame_388 rfl (lv_at hl 0 rfl) ?_
                refine lv_i2d hx hb dX3_isSame_389 ?_
                refine lv_ddiv hx hb dX3_isSame_390 (shq_n (by omega) (by omega)) ?_
                rw [show FP.ddiv (FP.i2d (nI (σ 1 0))) (FP.i2d (nI ((σ 1 0) + (σ 2 0)))) = shv σ by unfold shv; rw [if_neg (by omega)]]
                refine lv_dcmp hx hb dX3_isSame_391 ?_
                refine lv_if_ne (tgt := 399) hx hb dX3_isSame_392 (by decide) (fun h => absurd (by rw [shv_c hO]; rfl) h) (fun _ => ?_)
                refine lv_iconst (v := nI 1) hx hb dX3_isSame_395 (by decide) ?_
                refine lv_goto (tgt := 400) hx hb dX3_isSame_396 (by decide) ?_
                exact w_zret hx hb hr hlocks hX (by first | rfl | decide) rfl ⟨Nat.le_of_ble_eq_true rfl, Nat.le_of_ble_eq_true rfl⟩ dX3_isSame_400
              · skip
                refine lv_dconst0 hx hb dX3_isSame_379 ?_
                refine lv_goto (tgt := 391) hx hb dX3_isSame_380 (by decide) ?_
                rw [show FP.dconst0 = shv σ by unfold shv; rw [if_pos (by omega)]]
                refine lv_dcmp hx hb dX3_isSame_391 ?_
                refine lv_if_ne (tgt := 399) hx hb dX3_isSame_392 (by decide) (fun h => absurd (by rw [shv_c hO]; rfl) h) (fun _ => ?_)
                refine lv_iconst (v := nI 1) hx hb dX3_isSame_395 (by decide) ?_
                refine lv_goto (tgt := 400) hx hb dX3_isSame_396 (by decide) ?_
                exact w_zret hx hb hr hlocks hX (by first | rfl | decide) rfl ⟨Nat.le_of_ble_eq_true rfl, Nat.le_of_ble_eq_true rfl⟩ dX3_isSame_400
            · skip
              have hj1 : j < σ 4 0 := by omega
              have ojb := o4 j hj1
              have owb := o3 _ ojb.1
              have hhj := hch j
              have hgl := grt_le σ j
              refine lv_aload_n hx hb dX3_isSame_113 rfl (lv_at hl 2 rfl) ?_
              refine gX3_1 hx hb hX hown (mU_r s1) kw629 dX3_isSame_114 ?_
              refine lv_iload_n hx hb dX3_isSame_117 rfl (lv_at hl 0 rfl) ?_
              refine n_aaldRv hx hb hX (mU_r s3) (by omega) (by omega) dX3_isSame_118 (s3' j (by omega)) ?_
              obtain ⟨h_37, kr_36, r_38⟩ := s5 j (by omega)
              refine lv_astore (lv' := [(4, .ref (Ω 4 j)), (3, .int (nI j)), (2, .int (nI (cHel σ j))), (0, .ref (Ω 0 0)), (1, .ref (Λ 0 0))]) hx hb dX3_isSame_119 hl (by decide) rfl (fun ls hl => ?_)
              have hj136 : ∀ (H : Heap) (locs : List Loc) (ls : Array Slot), wX g (wA μ zz) s H locs (mU α β) → lv_has ls 9 [(4, .ref (Ω 4 j)), (3, .int (nI j)), (2, .int (nI (cHel σ (j + 1)))), (0, .ref (Ω 0 0)), (1, .ref (Λ 0 0))] → W p l e ({ frames := 5, cells := 0, slots := 0, locals := 109 } : Room) s m ([.ref (Ω 0 0), .ref (Λ 0 0)] : List Value).toArray below meth c H locs 0 0 (MQ below (wQc g μ zz (fun r μ' => r = some (.int (nI 1)))) ([.ref (Ω 0 0), .ref (Λ 0 0)] : List Value).toArray s 0 0 (wA μ zz)) (F0 m 136 ls []) := by
                intro H locs ls hX hl
                have hj164 : ∀ (H : Heap) (locs : List Loc) (ls : Array Slot), wX g (wA μ zz) s H locs (mU α β) → lv_has ls 9 [(5, .int (nI (vGrt σ j))), (4, .ref (Ω 4 j)), (3, .int (nI j)), (2, .int (nI (cHel σ (j + 1)))), (0, .ref (Ω 0 0)), (1, .ref (Λ 0 0))] → W p l e ({ frames := 5, cells := 0, slots := 0, locals := 109 } : Room) s m ([.ref (Ω 0 0), .ref (Λ 0 0)] : List Value).toArray below meth c H locs 0 0 (MQ below (wQc g μ zz (fun r μ' => r = some (.int (nI 1)))) ([.ref (Ω 0 0), .ref (Λ 0 0)] : List Value).toArray s 0 0 (wA μ zz)) (F0 m 164 ls []) := by
                  intro H locs ls hX hl
                  refine lv_iconst (v := nI 0) hx hb dX3_isSame_164 (by decide) ?_
                  refine lv_istore (lv' := [(6, .int (nI 0)), (5, .int (nI (vGrt σ j))), (4, .ref (Ω 4 j)), (3, .int (nI j)), (2, .int (nI (cHel σ (j + 1)))), (0, .ref (Ω 0 0)), (1, .ref (Λ 0 0))]) hx hb dX3_isSame_165 hl (by decide) rfl (fun ls hl => ?_)
                  have hdv : vDay σ j < 30 := Nat.mod_lt _ (by decide)
                  have hdi : ∀ d, d ≤ vDay σ j → ((σ 0 0 / 24 + d) % 30 = σ 9 j ↔ d = vDay σ j) := fun d hd => day_iff (by omega) hd
                  have hloop5 : ∀ (n5 : Nat) (d : Nat) (H : Heap) (locs : List Loc) (ls : Array Slot), vDay σ j < d + n5 → d ≤ vDay σ j → wX g (wA μ zz) s H locs (mU α β) → lv_has ls 9 [(6, .int (nI d)), (5, .int (nI (vGrt σ j))), (4, .ref (Ω 4 j)), (3, .int (nI j)), (2, .int (nI (cHel σ (j + 1)))), (0, .ref (Ω 0 0)), (1, .ref (Λ 0 0))] → W p l e ({ frames := 5, cells := 0, slots := 0, locals := 109 } : Room) s m ([.ref (Ω 0 0), .ref (Λ 0 0)] : List Value).toArray below meth c H locs 0 0 (MQ below (wQc g μ zz (fun r μ' => r = some (.int (nI 1)))) ([.ref (Ω 0 0), .ref (Λ 0 0)] : List Value).toArray s 0 0 (wA μ zz)) (F0 m 167 ls []) := by
                    intro n5
                    induction n5 with
                    | zero => intro d H locs ls hn5 hdl hX hl; exact absurd hn5 (by omega)
                    | succ n5 ih5 =>
                      intro d H locs ls hn5 hdl hX hl
                      have hdd := hdi d hdl
                      refine lv_aload_n hx hb dX3_isSame_167 rfl (lv_at hl 5 rfl) ?_
                      refine gX3_2 hx hb hX hown (mU_r s1) kw631 dX3_isSame_168 ?_
                      refine lv_bipush (v := nI 24) hx hb dX3_isSame_171 (by decide) ?_
                      refine n_idiv hx hb dX3_isSame_173 (by decide) (pk_div (by omega) (by decide) (by decide)) ?_
                      refine lv_iload hx hb dX3_isSame_174 (lv_at hl 0 rfl) ?_
                      refine n_iadd hx hb dX3_isSame_176 (nI_add _ _) ?_
                      refine lv_bipush (v := nI 30) hx hb dX3_isSame_177 (by decide) ?_
                      refine n_irem hx hb dX3_isSame_179 (by decide) (pk_rem (by omega) (by decide) (by decide)) ?_
                      refine lv_aload hx hb dX3_isSame_180 (lv_at hl 2 rfl) ?_
                      refine lv_iconst (v := nI 1) hx hb dX3_isSame_182 (by decide) ?_
                      refine n_ialdv hx hb hX (mU_r kr_36) (by omega) (by omega) dX3_isSame_183 r_38.2.1 ?_
                      refine n_eq (tgt := 193) hx hb (by omega) (by omega) dX3_isSame_184 (by decide) (fun c_39 => ?_) (fun c_39 => ?_)
                      · skip
                        obtain rfl : d = vDay σ j := by omega
                        refine lv_aload_n hx hb dX3_isSame_193 rfl (lv_at hl 6 rfl) ?_
                        refine lv_iload_n hx hb dX3_isSame_194 rfl (lv_at hl 3 rfl) ?_
                        refine w_callL (w_runV (n := 1) (As := [.int (nI j)]) (rest := []) hx hb hml hown (hX.l hd) (c_X2_wandOf_g l g α H.size hF hO hj1) kw346 kw1 kw489 kw344 kw345 wn_X2_wandOf rfl hF.1 rfl ⟨Nat.le_of_ble_eq_true rfl, Nat.le_of_ble_eq_true rfl⟩ hl.1 rfl (Nat.le_of_ble_eq_true rfl) dX3_isSame_195 ⟨Nat.le_of_ble_eq_true rfl, Nat.le_of_ble_eq_true rfl⟩) hX hd (fun r_42 μ_40 H locs q_41 hd hX hz => ?_)
                        obtain ⟨rfl, e_43⟩ := q_41
                        rw [e_43] at hX hd
                        refine W.eq (g2 := F0 m 198 ls [.int (nI (σ 8 j))]) rfl ?_
                        refine lv_aload hx hb dX3_isSame_198 (lv_at hl 2 rfl) ?_
                        refine lv_iconst (v := nI 0) hx hb dX3_isSame_200 (by decide) ?_
                        refine n_ialdv hx hb hX (mU_r kr_36) (by omega) (by omega) dX3_isSame_201 r_38.1 ?_
                        refine n_ne (tgt := 274) hx hb (by omega) (by omega) dX3_isSame_202 (by decide) (fun h => absurd h (by omega)) (fun _ => ?_)
                        refine lv_aload_n hx hb dX3_isSame_205 rfl (lv_at hl 6 rfl) ?_
                        refine lv_iload_n hx hb dX3_isSame_206 rfl (lv_at hl 3 rfl) ?_
                        refine w_callL (w_runV (n := 1) (As := [.int (nI j)]) (rest := []) hx hb hml hown (hX.l hd) (c_X2_burstOf_g l g α H.size hF hO hj1) kw350 kw1 kw490 kw348 kw349 wn_X2_burstOf rfl hF.1 rfl ⟨Nat.le_of_ble_eq_true rfl, Nat.le_of_ble_eq_true rfl⟩ hl.1 rfl (Nat.le_of_ble_eq_true rfl) dX3_isSame_207 ⟨Nat.le_of_ble_eq_true rfl, Nat.le_of_ble_eq_true rfl⟩) hX hd (fun r_46 μ_44 H locs q_45 hd hX hz => ?_)
                        obtain ⟨rfl, e_47⟩ := q_45
                        rw [e_47] at hX hd
                        refine W.eq (g2 := F0 m 210 ls [.int (nI (σ 10 j))]) rfl ?_
                        refine lv_aload hx hb dX3_isSame_210 (lv_at hl 2 rfl) ?_
                        refine lv_iconst (v := nI 2) hx hb dX3_isSame_212 (by decide) ?_
                        refine n_ialdv hx hb hX (mU_r kr_36) (by omega) (by omega) dX3_isSame_213 r_38.2.2.1 ?_
                        refine n_ne (tgt := 274) hx hb (by omega) (by omega) dX3_isSame_214 (by decide) (fun h => absurd h (by omega)) (fun _ => ?_)
                        refine lv_aload_n hx hb dX3_isSame_217 rfl (lv_at hl 6 rfl) ?_
                        refine lv_iload_n hx hb dX3_isSame_218 rfl (lv_at hl 3 rfl) ?_
                        refine w_callL (w_runV (n := 1) (As := [.int (nI j)]) (rest := []) hx hb hml hown (hX.l hd) (c_X2_punishedFor_g l g α H.size hF hO hj1) kw354 kw1 kw491 kw352 kw353 wn_X2_punishedFor rfl hF.1 rfl ⟨Nat.le_of_ble_eq_true rfl, Nat.le_of_ble_eq_true rfl⟩ hl.1 rfl (Nat.le_of_ble_eq_true rfl) dX3_isSame_219 ⟨Nat.le_of_ble_eq_true rfl, Nat.le_of_ble_eq_true rfl⟩) hX hd (fun r_50 μ_48 H locs q_49 hd hX hz => ?_)
                        obtain ⟨rfl, e_51⟩ := q_49
                        rw [e_51] at hX hd
                        refine W.eq (g2 := F0 m 222 ls [.int (nI (σ 11 j))]) rfl ?_
                        refine lv_aload hx hb dX3_isSame_222 (lv_at hl 2 rfl) ?_
                        refine lv_iconst (v := nI 3) hx hb dX3_isSame_224 (by decide) ?_
                        refine n_ialdv hx hb hX (mU_r kr_36) (by omega) (by omega) dX3_isSame_225 r_38.2.2.2.1 ?_
                        refine n_ne (tgt := 274) hx hb (by omega) (by omega) dX3_isSame_226 (by decide) (fun h => absurd h (by omega)) (fun _ => ?_)
                        refine lv_aload_n hx hb dX3_isSame_229 rfl (lv_at hl 6 rfl) ?_
                        refine lv_iload_n hx hb dX3_isSame_230 rfl (lv_at hl 3 rfl) ?_
                        refine w_callL (w_runV (n := 1) (As := [.int (nI j)]) (rest := []) hx hb hml hown (hX.l hd) (c_X2_marksOf_g l g α H.size hF hO hj1) kw358 kw1 kw492 kw356 kw357 wn_X2_marksOf rfl hF.1 rfl ⟨Nat.le_of_ble_eq_true rfl, Nat.le_of_ble_eq_true rfl⟩ hl.1 rfl (Nat.le_of_ble_eq_true rfl) dX3_isSame_231 ⟨Nat.le_of_ble_eq_true rfl, Nat.le_of_ble_eq_true rfl⟩) hX hd (fun r_54 μ_52 H locs q_53 hd hX hz => ?_)
                        obtain ⟨rfl, e_55⟩ := q_53
                        rw [e_55] at hX hd
                        refine W.eq (g2 := F0 m 234 ls [.int (nI (σ 12 j))]) rfl ?_
                        refine lv_aload hx hb dX3_isSame_234 (lv_at hl 2 rfl) ?_
                        refine lv_iconst (v := nI 4) hx hb dX3_isSame_236 (by decide) ?_
                        refine n_ialdv hx hb hX (mU_r kr_36) (by omega) (by omega) dX3_isSame_237 r_38.2.2.2.2.1 ?_
                        refine n_ne (tgt := 274) hx hb (by omega) (by omega) dX3_isSame_238 (by decide) (fun h => absurd h (by omega)) (fun _ => ?_)
                        refine lv_aload_n hx hb dX3_isSame_241 rfl (lv_at hl 6 rfl) ?_
                        refine lv_iload_n hx hb dX3_isSame_242 rfl (lv_at hl 3 rfl) ?_
                        refine w_callL (w_runV (n := 1) (As := [.int (nI j)]) (rest := []) hx hb hml hown (hX.l hd) (c_X2_nextPunishment_g l g α H.size hF hO hj1) kw362 kw1 kw493 kw360 kw361 wn_X2_nextPunishment rfl hF.1 rfl ⟨Nat.le_of_ble_eq_true rfl, Nat.le_of_ble_eq_true rfl⟩ hl.1 rfl (Nat.le_of_ble_eq_true rfl) dX3_isSame_243 ⟨Nat.le_of_ble_eq_true rfl, Nat.le_of_ble_eq_true rfl⟩) hX hd (fun r_58 μ_56 H locs q_57 hd hX hz => ?_)
                        obtain ⟨rfl, e_59⟩ := q_57
                        rw [e_59] at hX hd
                        refine W.eq (g2 := F0 m 246 ls [.int (nI (σ 13 j))]) rfl ?_
                        refine lv_aload_n hx hb dX3_isSame_246 rfl (lv_at hl 5 rfl) ?_
                        refine lv_iload_n hx hb dX3_isSame_247 rfl (lv_at hl 3 rfl) ?_
                        refine w_callR (w_runV (n := 1) (As := [.int (nI j)]) (rest := [.int (nI (σ 13 j))]) hx hb hml hown hX.r (c_X3_next l g β H.size hS hO hT hj1) kw482 kw7 kw479 kw480 kw481 wn_X3_next rfl hS.1 rfl ⟨Nat.le_of_ble_eq_true rfl, Nat.le_of_ble_eq_true rfl⟩ hl.1 rfl (Nat.le_of_ble_eq_true rfl) dX3_isSame_248 ⟨Nat.le_of_ble_eq_true rfl, Nat.le_of_ble_eq_true rfl⟩) hX hd (fun r_62 μ_60 H locs q_61 hd hX hz => ?_)
                        obtain ⟨rfl, e_63⟩ := q_61
                        rw [e_63] at hX hd
                        refine W.eq (g2 := F0 m 251 ls [.int (nI (σ 13 j)), .int (nI (σ 13 j))]) rfl ?_
                        refine n_ne (tgt := 274) hx hb (by omega) (by omega) dX3_isSame_251 (by decide) (fun h => absurd h (by omega)) (fun _ => ?_)
                        refine lv_aload_n hx hb dX3_isSame_254 rfl (lv_at hl 6 rfl) ?_
                        refine lv_iload_n hx hb dX3_isSame_255 rfl (lv_at hl 3 rfl) ?_
                        refine w_callL (w_runV (n := 1) (As := [.int (nI j)]) (rest := []) hx hb hml hown (hX.l hd) (c_X2_daysToBirthday_g l g α H.size hF hO hj1) kw366 kw1 kw494 kw364 kw365 wn_X2_daysToBirthday rfl hF.1 rfl ⟨Nat.le_of_ble_eq_true rfl, Nat.le_of_ble_eq_true rfl⟩ hl.1 rfl (Nat.le_of_ble_eq_true rfl) dX3_isSame_256 ⟨Nat.le_of_ble_eq_true rfl, Nat.le_of_ble_eq_true rfl⟩) hX hd (fun r_66 μ_64 H locs q_65 hd hX hz => ?_)
                        obtain ⟨rfl, e_67⟩ := q_65
                        rw [e_67] at hX hd
                        refine W.eq (g2 := F0 m 259 ls [.int (nI (vDay σ j))]) rfl ?_
                        refine lv_iload hx hb dX3_isSame_259 (lv_at hl 0 rfl) ?_
                        refine n_ne (tgt := 274) hx hb (by omega) (by omega) dX3_isSame_261 (by decide) (fun h => absurd h (by omega)) (fun _ => ?_)
                        refine lv_aload_n hx hb dX3_isSame_264 rfl (lv_at hl 6 rfl) ?_
                        refine lv_iload_n hx hb dX3_isSame_265 rfl (lv_at hl 3 rfl) ?_
                        refine w_callL (w_runV (n := 1) (As := [.int (nI j)]) (rest := []) hx hb hml hown (hX.l hd) (c_X2_greatestWish_g l g α H.size hF hO hj1) kw374 kw1 kw495 kw372 kw373 wn_X2_greatestWish rfl hF.1 rfl ⟨Nat.le_of_ble_eq_true rfl, Nat.le_of_ble_eq_true rfl⟩ hl.1 rfl (Nat.le_of_ble_eq_true rfl) dX3_isSame_266 ⟨Nat.le_of_ble_eq_true rfl, Nat.le_of_ble_eq_true rfl⟩) hX hd (fun r_70 μ_68 H locs q_69 hd hX hz => ?_)
                        obtain ⟨rfl, e_71⟩ := q_69
                        rw [e_71] at hX hd
                        refine W.eq (g2 := F0 m 269 ls [.int (nI (vGrt σ j))]) rfl ?_
                        refine lv_iload hx hb dX3_isSame_269 (lv_at hl 1 rfl) ?_
                        refine n_eq (tgt := 276) hx hb (by omega) (by omega) dX3_isSame_271 (by decide) (fun _ => ?_) (fun h => absurd h (by omega))
                        refine lv_iinc (v := nI (j + 1)) (lv' := [(3, .int (nI (j + 1))), (6, .int (nI (vDay σ j))), (5, .int (nI (vGrt σ j))), (4, .ref (Ω 4 j)), (2, .int (nI (cHel σ (j + 1)))), (0, .ref (Ω 0 0)), (1, .ref (Λ 0 0))]) hx hb dX3_isSame_276 hl (k := 3) rfl (nI_inc _) (by decide) rfl (fun ls hl => ?_)
                        refine lv_goto (tgt := 104) hx hb dX3_isSame_279 (by decide) ?_
                        refine ih3 (j + 1) H locs ls (by omega) (by omega) hX ?_
                        exact lv_sub hl [0, 4, 5, 6] rfl
                      · skip
                        refine lv_iinc (v := nI (d + 1)) (lv' := [(6, .int (nI (d + 1))), (5, .int (nI (vGrt σ j))), (4, .ref (Ω 4 j)), (3, .int (nI j)), (2, .int (nI (cHel σ (j + 1)))), (0, .ref (Ω 0 0)), (1, .ref (Λ 0 0))]) hx hb dX3_isSame_187 hl (k := 0) rfl (nI_inc _) (by decide) rfl (fun ls hl => ?_)
                        refine lv_goto (tgt := 167) hx hb dX3_isSame_190 (by decide) ?_
                        refine ih5 (d + 1) H locs ls (by omega) (by omega) hX ?_
                        exact lv_sub hl [0, 1, 2, 3, 4, 5, 6] rfl
                  exact hloop5 (vDay σ j + 1) 0 _ _ _ (by omega) (by omega) hX hl
                refine lv_iconst (v := nI 0) hx hb dX3_isSame_136 (by decide) ?_
                refine lv_istore (lv' := [(5, .int (nI 0)), (4, .ref (Ω 4 j)), (3, .int (nI j)), (2, .int (nI (cHel σ (j + 1)))), (0, .ref (Ω 0 0)), (1, .ref (Λ 0 0))]) hx hb dX3_isSame_137 hl (by decide) rfl (fun ls hl => ?_)
                have hloop4 : ∀ (n4 : Nat) (t : Nat) (H : Heap) (locs : List Loc) (ls : Array Slot), vGrt σ j < t + n4 → t ≤ vGrt σ j → wX g (wA μ zz) s H locs (mU α β) → lv_has ls 9 [(5, .int (nI t)), (4, .ref (Ω 4 j)), (3, .int (nI j)), (2, .int (nI (cHel σ (j + 1)))), (0, .ref (Ω 0 0)), (1, .ref (Λ 0 0))] → W p l e ({ frames := 5, cells := 0, slots := 0, locals := 109 } : Room) s m ([.ref (Ω 0 0), .ref (Λ 0 0)] : List Value).toArray below meth c H locs 0 0 (MQ below (wQc g μ zz (fun r μ' => r = some (.int (nI 1)))) ([.ref (Ω 0 0), .ref (Λ 0 0)] : List Value).toArray s 0 0 (wA μ zz)) (F0 m 139 ls []) := by
                  intro n4
                  induction n4 with
                  | zero => intro t H locs ls hn4 ht hX hl; exact absurd hn4 (by omega)
                  | succ n4 ih4 =>
                    intro t H locs ls hn4 ht hX hl
                    refine lv_iload hx hb dX3_isSame_139 (lv_at hl 0 rfl) ?_
                    refine lv_bipush (v := nI 20) hx hb dX3_isSame_141 (by decide) ?_
                    refine n_ge (tgt := 164) hx hb (by omega) (by omega) dX3_isSame_143 (by decide) (fun c_72 => ?_) (fun c_72 => ?_)
                    · skip
                      obtain rfl : t = vGrt σ j := by omega
                      exact hj164 _ _ _ hX (lv_sub hl [0, 1, 2, 3, 4, 5] rfl)
                    · skip
                      refine lv_aload_n hx hb dX3_isSame_146 rfl (lv_at hl 4 rfl) ?_
                      refine lv_iload_n hx hb dX3_isSame_147 rfl (lv_at hl 2 rfl) ?_
                      refine lv_iload hx hb dX3_isSame_148 (lv_at hl 0 rfl) ?_
                      refine lv_iconst (v := nI 1) hx hb dX3_isSame_150 (by decide) ?_
                      refine n_iadd hx hb dX3_isSame_151 (nI_add _ _) ?_
                      refine w_callR (w_runV (n := 2) (As := [.int (nI j), .int (nI (t + 1))]) (rest := []) hx hb hml hown hX.r (c_X3_can l g β H.size hS hO hj1 (by omega)) kw478 kw7 kw475 kw476 kw477 wn_X3_can rfl hS.1 rfl ⟨Nat.le_of_ble_eq_true rfl, Nat.le_of_ble_eq_true rfl⟩ hl.1 rfl (Nat.le_of_ble_eq_true rfl) dX3_isSame_152 ⟨Nat.le_of_ble_eq_true rfl, Nat.le_of_ble_eq_true rfl⟩) hX hd (fun r_75 μ_73 H locs q_74 hd hX hz => ?_)
                      obtain ⟨q_77, e_76⟩ := q_74
                      rw [e_76] at hX hd
                      obtain ⟨rfl, hp⟩ | ⟨rfl, hp⟩ := q_77
                      · skip
                        refine W.eq (g2 := F0 m 155 ls [.int (nI 1)]) rfl ?_
                        refine n_if_eq (tgt := 164) hx hb (by omega) dX3_isSame_155 (by decide) (fun h => absurd h (by omega)) (fun _ => ?_)
                        refine lv_iinc (v := nI (t + 1)) (lv' := [(5, .int (nI (t + 1))), (4, .ref (Ω 4 j)), (3, .int (nI j)), (2, .int (nI (cHel σ (j + 1)))), (0, .ref (Ω 0 0)), (1, .ref (Λ 0 0))]) hx hb dX3_isSame_158 hl (k := 0) rfl (nI_inc _) (by decide) rfl (fun ls hl => ?_)
                        refine lv_goto (tgt := 139) hx hb dX3_isSame_161 (by decide) ?_
                        refine ih4 (t + 1) H locs ls (by omega) ((grt_iff (by omega) (by omega)).mp hp) hX ?_
                        exact lv_sub hl [0, 1, 2, 3, 4, 5] rfl
                      · skip
                        refine W.eq (g2 := F0 m 155 ls [.int (nI 0)]) rfl ?_
                        refine n_if_eq (tgt := 164) hx hb (by omega) dX3_isSame_155 (by decide) (fun _ => ?_) (fun h => absurd h (by omega))
                        obtain rfl : t = vGrt σ j := by have h8 : ¬ t + 1 ≤ vGrt σ j := fun z => hp ((grt_iff (sz := t + 1) (by omega) (by omega)).mpr z); omega
                        exact hj164 _ _ _ hX (lv_sub hl [0, 1, 2, 3, 4, 5] rfl)
                exact hloop4 (vGrt σ j + 1) 0 _ _ _ (by omega) (by omega) hX hl
              refine lv_iload_n hx hb dX3_isSame_121 rfl (lv_at hl 2 rfl) ?_
              refine lv_aload hx hb dX3_isSame_122 (lv_at hl 0 rfl) ?_
              refine lv_iconst (v := nI 3) hx hb dX3_isSame_124 (by decide) ?_
              refine n_ialdv hx hb hX (mU_r kr_36) (by omega) (by omega) dX3_isSame_125 r_38.2.2.2.1 ?_
              refine n_if_le (tgt := 133) hx hb (by omega) dX3_isSame_126 (by decide) (fun c_78 => ?_) (fun c_78 => ?_)
              · skip
                refine lv_iconst (v := nI 0) hx hb dX3_isSame_133 (by decide) ?_
                refine n_iadd hx hb dX3_isSame_134 (nI_add _ _) ?_
                refine lv_istore_n (lv' := [(2, .int (nI ((cHel σ j) + 0))), (4, .ref (Ω 4 j)), (3, .int (nI j)), (0, .ref (Ω 0 0)), (1, .ref (Λ 0 0))]) hx hb dX3_isSame_135 rfl hl (by decide) rfl (fun ls hl => ?_)
                rw [show (cHel σ j) + 0 = cHel σ (j + 1) by simp only [cHel]; rw [if_neg (by omega)]] at hl
                exact hj136 _ _ _ hX (lv_sub hl [1, 2, 0, 3, 4] rfl)
              · skip
                refine lv_iconst (v := nI 1) hx hb dX3_isSame_129 (by decide) ?_
                refine lv_goto (tgt := 134) hx hb dX3_isSame_130 (by decide) ?_
                refine n_iadd hx hb dX3_isSame_134 (nI_add _ _) ?_
                refine lv_istore_n (lv' := [(2, .int (nI ((cHel σ j) + 1))), (4, .ref (Ω 4 j)), (3, .int (nI j)), (0, .ref (Ω 0 0)), (1, .ref (Λ 0 0))]) hx hb dX3_isSame_135 rfl hl (by decide) rfl (fun ls hl => ?_)
                rw [show (cHel σ j) + 1 = cHel σ (j + 1) by simp only [cHel]; rw [if_pos (by omega)]] at hl
                exact hj136 _ _ _ hX (lv_sub hl [1, 2, 0, 3, 4] rfl)
        exact hloop3 (σ 4 0 + 1) 0 _ _ _ (by omega) (by omega) hX (lv_sub hl [0, 1, 2, 3] rfl)
      · skip
        refine lv_iconst (v := nI 0) hx hb dX3_isSame_13 (by decide) ?_
        refine lv_istore (lv' := [(4, .int (nI 0)), (3, .int (nI k)), (2, .int (nI 0)), (0, .ref (Ω 0 0)), (1, .ref (Λ 0 0))]) hx hb dX3_isSame_14 hl (by decide) rfl (fun ls hl => ?_)
        refine lv_aload_n hx hb dX3_isSame_16 rfl (lv_at hl 3 rfl) ?_
        refine gX3_1 hx hb hX hown (mU_r s1) kw629 dX3_isSame_17 ?_
        refine lv_astore (lv' := [(5, .ref (Ω 2 0)), (4, .int (nI 0)), (3, .int (nI k)), (2, .int (nI 0)), (0, .ref (Ω 0 0)), (1, .ref (Λ 0 0))]) hx hb dX3_isSame_20 hl (by decide) rfl (fun ls hl => ?_)
        refine lv_aload hx hb dX3_isSame_22 (lv_at hl 0 rfl) ?_
        refine n_alenR hx hb hX (mU_r s3) dX3_isSame_24 ?_
        refine lv_istore (lv' := [(6, .int (nI (σ 4 0))), (5, .ref (Ω 2 0)), (4, .int (nI 0)), (3, .int (nI k)), (2, .int (nI 0)), (0, .ref (Ω 0 0)), (1, .ref (Λ 0 0))]) hx hb dX3_isSame_25 hl (by decide) rfl (fun ls hl => ?_)
        refine lv_iconst (v := nI 0) hx hb dX3_isSame_27 (by decide) ?_
        refine lv_istore (lv' := [(7, .int (nI 0)), (6, .int (nI (σ 4 0))), (5, .ref (Ω 2 0)), (4, .int (nI 0)), (3, .int (nI k)), (2, .int (nI 0)), (0, .ref (Ω 0 0)), (1, .ref (Λ 0 0))]) hx hb dX3_isSame_28 hl (by decide) rfl (fun ls hl => ?_)
        have hcu : ∀ u, u ≤ σ 4 0 → cUsr σ k u ≤ u := fun u hu => cUsr_le σ k u
        have hloop2 : ∀ (n2 : Nat) (u : Nat) (H : Heap) (locs : List Loc) (ls : Array Slot), σ 4 0 < u + n2 → u ≤ σ 4 0 → wX g (wA μ zz) s H locs (mU α β) → lv_has ls 9 [(7, .int (nI u)), (6, .int (nI (σ 4 0))), (5, .ref (Ω 2 0)), (4, .int (nI (cUsr σ k u))), (3, .int (nI k)), (2, .int (nI 0)), (0, .ref (Ω 0 0)), (1, .ref (Λ 0 0))] → W p l e ({ frames := 5, cells := 0, slots := 0, locals := 109 } : Room) s m ([.ref (Ω 0 0), .ref (Λ 0 0)] : List Value).toArray below meth c H locs 0 0 (MQ below (wQc g μ zz (fun r μ' => r = some (.int (nI 1)))) ([.ref (Ω 0 0), .ref (Λ 0 0)] : List Value).toArray s 0 0 (wA μ zz)) (F0 m 30 ls []) := by
          intro n2
          induction n2 with
          | zero => intro u H locs ls hn2 hu hX hl; exact absurd hn2 (by omega)
          | succ n2 ih2 =>
            intro u H locs ls hn2 hu hX hl
            refine lv_iload hx hb dX3_isSame_30 (lv_at hl 0 rfl) ?_
            refine lv_iload hx hb dX3_isSame_32 (lv_at hl 1 rfl) ?_
            refine n_ge (tgt := 68) hx hb (by omega) (by omega) dX3_isSame_34 (by decide) (fun c_79 => ?_) (fun c_79 => ?_)
            · skip
              obtain rfl : u = σ 4 0 := by omega
              have okb := o3 k (by omega)
              have hcu2 := hcu (σ 4 0) (Nat.le_refl _)
              refine lv_aload_n hx hb dX3_isSame_68 rfl (lv_at hl 7 rfl) ?_
              refine lv_iload_n hx hb dX3_isSame_69 rfl (lv_at hl 4 rfl) ?_
              refine w_callL (w_runV (n := 1) (As := [.int (nI k)]) (rest := []) hx hb hml hown (hX.l hd) (c_X2_dustIn_g l g α H.size hF hO (by omega)) kw333 kw1 kw487 kw331 kw332 wn_X2_dustIn rfl hF.1 rfl ⟨Nat.le_of_ble_eq_true rfl, Nat.le_of_ble_eq_true rfl⟩ hl.1 rfl (Nat.le_of_ble_eq_true rfl) dX3_isSame_70 ⟨Nat.le_of_ble_eq_true rfl, Nat.le_of_ble_eq_true rfl⟩) hX hd (fun r_82 μ_80 H locs q_81 hd hX hz => ?_)
              obtain ⟨rfl, e_83⟩ := q_81
              rw [e_83] at hX hd
              refine W.eq (g2 := F0 m 73 ls [.int (nI (σ 7 k))]) rfl ?_
              refine lv_aload_n hx hb dX3_isSame_73 rfl (lv_at hl 6 rfl) ?_
              refine gX3_0 hx hb hX hown (mU_r s1) kw627 dX3_isSame_74 ?_
              refine lv_iload_n hx hb dX3_isSame_77 rfl (lv_at hl 4 rfl) ?_
              refine n_aaldRv hx hb hX (mU_r s2) (by omega) (by omega) dX3_isSame_78 (s2' k (by omega)) ?_
              obtain ⟨h_85, kr_84, r_86⟩ := s4 k (by omega)
              refine lv_iconst (v := nI 2) hx hb dX3_isSame_79 (by decide) ?_
              refine n_ialdv hx hb hX (mU_r kr_84) (by omega) (by omega) dX3_isSame_80 r_86.2.2 ?_
              refine n_ne (tgt := 94) hx hb (by omega) (by omega) dX3_isSame_81 (by decide) (fun h => absurd h (by omega)) (fun _ => ?_)
              refine lv_aload_n hx hb dX3_isSame_84 rfl (lv_at hl 7 rfl) ?_
              refine lv_iload_n hx hb dX3_isSame_85 rfl (lv_at hl 4 rfl) ?_
              refine w_callL (w_runV (n := 1) (As := [.int (nI k)]) (rest := []) hx hb hml hown (hX.l hd) (c_X2_users_g l g α H.size hF hO (by omega)) kw342 kw1 kw488 kw340 kw341 wn_X2_users rfl hF.1 rfl ⟨Nat.le_of_ble_eq_true rfl, Nat.le_of_ble_eq_true rfl⟩ hl.1 rfl (Nat.le_of_ble_eq_true rfl) dX3_isSame_86 ⟨Nat.le_of_ble_eq_true rfl, Nat.le_of_ble_eq_true rfl⟩) hX hd (fun r_89 μ_87 H locs q_88 hd hX hz => ?_)
              obtain ⟨rfl, e_90⟩ := q_88
              rw [e_90] at hX hd
              refine W.eq (g2 := F0 m 89 ls [.int (nI (cUsr σ k (σ 4 0)))]) rfl ?_
              refine lv_iload hx hb dX3_isSame_89 (lv_at hl 3 rfl) ?_
              refine n_eq (tgt := 96) hx hb (by omega) (by omega) dX3_isSame_91 (by decide) (fun _ => ?_) (fun h => absurd h (by omega))
              refine lv_iinc (v := nI (k + 1)) (lv' := [(3, .int (nI (k + 1))), (7, .int (nI (σ 4 0))), (6, .int (nI (σ 4 0))), (5, .ref (Ω 2 0)), (4, .int (nI (cUsr σ k (σ 4 0)))), (2, .int (nI 0)), (0, .ref (Ω 0 0)), (1, .ref (Λ 0 0))]) hx hb dX3_isSame_96 hl (k := 4) rfl (nI_inc _) (by decide) rfl (fun ls hl => ?_)
              refine lv_goto (tgt := 4) hx hb dX3_isSame_99 (by decide) ?_
              refine ih (k + 1) H locs ls (by omega) (by omega) hX ?_
              exact lv_sub hl [0, 5, 6, 7] rfl
            · skip
              refine lv_aload hx hb dX3_isSame_37 (lv_at hl 2 rfl) ?_
              refine lv_iload hx hb dX3_isSame_39 (lv_at hl 0 rfl) ?_
              refine n_aaldRv hx hb hX (mU_r s3) (by omega) (by omega) dX3_isSame_41 (s3' u (by omega)) ?_
              obtain ⟨h_92, kr_91, r_93⟩ := s5 u (by omega)
              have oub := o4 u (by omega)
              refine lv_astore (lv' := [(8, .ref (Ω 4 u)), (7, .int (nI u)), (6, .int (nI (σ 4 0))), (5, .ref (Ω 2 0)), (4, .int (nI (cUsr σ k u))), (3, .int (nI k)), (2, .int (nI 0)), (0, .ref (Ω 0 0)), (1, .ref (Λ 0 0))]) hx hb dX3_isSame_42 hl (by decide) rfl (fun ls hl => ?_)
              refine lv_iload hx hb dX3_isSame_44 (lv_at hl 4 rfl) ?_
              refine lv_aload hx hb dX3_isSame_46 (lv_at hl 0 rfl) ?_
              refine lv_iconst (v := nI 0) hx hb dX3_isSame_48 (by decide) ?_
              refine n_ialdv hx hb hX (mU_r kr_91) (by omega) (by omega) dX3_isSame_49 r_93.1 ?_
              refine lv_iload_n hx hb dX3_isSame_50 rfl (lv_at hl 5 rfl) ?_
              refine n_ne (tgt := 58) hx hb (by omega) (by omega) dX3_isSame_51 (by decide) (fun c_94 => ?_) (fun c_94 => ?_)
              · skip
                refine lv_iconst (v := nI 0) hx hb dX3_isSame_58 (by decide) ?_
                refine n_iadd hx hb dX3_isSame_59 (nI_add _ _) ?_
                refine lv_istore (lv' := [(4, .int (nI ((cUsr σ k u) + 0))), (8, .ref (Ω 4 u)), (7, .int (nI u)), (6, .int (nI (σ 4 0))), (5, .ref (Ω 2 0)), (3, .int (nI k)), (2, .int (nI 0)), (0, .ref (Ω 0 0)), (1, .ref (Λ 0 0))]) hx hb dX3_isSame_60 hl (by decide) rfl (fun ls hl => ?_)
                refine lv_iinc (v := nI (u + 1)) (lv' := [(7, .int (nI (u + 1))), (4, .int (nI ((cUsr σ k u) + 0))), (8, .ref (Ω 4 u)), (6, .int (nI (σ 4 0))), (5, .ref (Ω 2 0)), (3, .int (nI k)), (2, .int (nI 0)), (0, .ref (Ω 0 0)), (1, .ref (Λ 0 0))]) hx hb dX3_isSame_62 hl (k := 2) rfl (nI_inc _) (by decide) rfl (fun ls hl => ?_)
                refine lv_goto (tgt := 30) hx hb dX3_isSame_65 (by decide) ?_
                rw [show (cUsr σ k u) + 0 = cUsr σ k (u + 1) by simp only [cUsr]; rw [if_neg (by omega)]] at hl
                refine ih2 (u + 1) H locs ls (by omega) (by omega) hX ?_
                exact lv_sub hl [0, 3, 4, 1, 5, 6, 7, 8] rfl
              · skip
                refine lv_iconst (v := nI 1) hx hb dX3_isSame_54 (by decide) ?_
                refine lv_goto (tgt := 59) hx hb dX3_isSame_55 (by decide) ?_
                refine n_iadd hx hb dX3_isSame_59 (nI_add _ _) ?_
                refine lv_istore (lv' := [(4, .int (nI ((cUsr σ k u) + 1))), (8, .ref (Ω 4 u)), (7, .int (nI u)), (6, .int (nI (σ 4 0))), (5, .ref (Ω 2 0)), (3, .int (nI k)), (2, .int (nI 0)), (0, .ref (Ω 0 0)), (1, .ref (Λ 0 0))]) hx hb dX3_isSame_60 hl (by decide) rfl (fun ls hl => ?_)
                refine lv_iinc (v := nI (u + 1)) (lv' := [(7, .int (nI (u + 1))), (4, .int (nI ((cUsr σ k u) + 1))), (8, .ref (Ω 4 u)), (6, .int (nI (σ 4 0))), (5, .ref (Ω 2 0)), (3, .int (nI k)), (2, .int (nI 0)), (0, .ref (Ω 0 0)), (1, .ref (Λ 0 0))]) hx hb dX3_isSame_62 hl (k := 2) rfl (nI_inc _) (by decide) rfl (fun ls hl => ?_)
                refine lv_goto (tgt := 30) hx hb dX3_isSame_65 (by decide) ?_
                rw [show (cUsr σ k u) + 1 = cUsr σ k (u + 1) by simp only [cUsr]; rw [if_pos (by omega)]] at hl
                refine ih2 (u + 1) H locs ls (by omega) (by omega) hX ?_
                exact lv_sub hl [0, 3, 4, 1, 5, 6, 7, 8] rfl
        exact hloop2 (σ 4 0 + 1) 0 _ _ _ (by omega) (by omega) hX hl
  exact hloop (σ 3 0 + 1) 0 _ _ _ (by omega) (by omega) hX hl

