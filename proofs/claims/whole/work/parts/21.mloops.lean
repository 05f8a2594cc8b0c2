set_option maxHeartbeats 4000000 in
set_option maxRecDepth 100000 in
/-- how many are held -/
theorem c_X3_manyHeld (l : Launch) (g : wG) (μ : wMu) (zz : Nat) {Ω : Nat → Nat} {σ : sSt} {th : Nat} (hM : mD g Ω th σ μ) (hO : sOk σ)  : wMet l yX3_manyHeld cX3_manyHeld 3 (some .int) 0 0 0 0 g [.ref (Ω 0)] μ zz (fun r μ' => r = some (.int (nI (cHel σ (σ 4 0)))) ∧ μ' = μ) := by
  refine wMet.of (by decide) (Nat.le_of_ble_eq_true rfl) ?_
  intro p e s m below meth c ls hx hb hr hml hown hlocks hin hl hsz hX
  have hl : lv_has ls 3 [(0, .ref (Ω 0))] := hl
  obtain ⟨r0, r5, r6, r7, r8, r9, r10, r11, r12, r13, hD⟩ := id hM
  obtain ⟨o1, o2, o3, o4, o5, o6, o7⟩ := id hO
  refine lv_iconst (v := nI 0) hx hb dX3_manyHeld_0 (by decide) ?_
  refine lv_istore_n (lv' := [(1, .int (nI 0)), (0, .ref (Ω 0))]) hx hb dX3_manyHeld_1 rfl hl (by decide) rfl (fun ls hl => ?_)
  refine lv_iconst (v := nI 0) hx hb dX3_manyHeld_2 (by decide) ?_
  refine lv_istore_n (lv' := [(2, .int (nI 0)), (1, .int (nI 0)), (0, .ref (Ω 0))]) hx hb dX3_manyHeld_3 rfl hl (by decide) rfl (fun ls hl => ?_)
  have hloop : ∀ (n : Nat) (i : Nat) (H : Heap) (locs : List Loc) (ls : Array Slot), σ 4 0 < i + n → i ≤ σ 4 0 → wX g (wA μ zz) s H locs μ → lv_has ls 3 [(2, .int (nI i)), (1, .int (nI (cHel σ i))), (0, .ref (Ω 0))] → W p l e ({ frames := 0, cells := 0, slots := 0, locals := 0 } : Room) s m ([.ref (Ω 0)] : List Value).toArray below meth c H locs 0 0 (MQ below (wQc g μ zz (fun r μ' => r = some (.int (nI (cHel σ (σ 4 0)))) ∧ μ' = μ)) ([.ref (Ω 0)] : List Value).toArray s 0 0 (wA μ zz)) (F0 m 4 ls []) := by
    intro n
    induction n with
    | zero => intro i H locs ls hn hi hX hl; exact absurd hn (by omega)
    | succ n ih =>
      intro i H locs ls hn hi hX hl
      refine lv_iload_n hx hb dX3_manyHeld_4 rfl (lv_at hl 0 rfl) ?_
      refine lv_aload_n hx hb dX3_manyHeld_5 rfl (lv_at hl 2 rfl) ?_
      refine gX3_2 hx hb hX hown r0 kw631 dX3_manyHeld_6 ?_
      refine n_ge (tgt := 35) hx hb (by omega) (by omega) dX3_manyHeld_9 (by decide) (fun c_1 => ?_) (fun c_1 => ?_)
      · skip
        refine lv_iload_n hx hb dX3_manyHeld_35 rfl (lv_at hl 1 rfl) ?_
        exact w_iret hx hb hr hlocks hX ⟨by rw [show i = σ 4 0 by omega], rfl⟩ ⟨Nat.le_of_ble_eq_true rfl, Nat.le_of_ble_eq_true rfl⟩ dX3_manyHeld_36
      · skip
        have oib := o4 i (by omega)
        refine lv_iload_n hx hb dX3_manyHeld_12 rfl (lv_at hl 1 rfl) ?_
        refine lv_aload_n hx hb dX3_manyHeld_13 rfl (lv_at hl 2 rfl) ?_
        refine gX3_12 hx hb hX hown r0 kw641 dX3_manyHeld_14 ?_
        refine lv_iload_n hx hb dX3_manyHeld_17 rfl (lv_at hl 0 rfl) ?_
        refine n_iald hx hb hX r11 (by omega) (by omega) dX3_manyHeld_18 ?_
        refine n_if_le (tgt := 26) hx hb (by omega) dX3_manyHeld_19 (by decide) (fun c_2 => ?_) (fun c_2 => ?_)
        · skip
          refine lv_iconst (v := nI 0) hx hb dX3_manyHeld_26 (by decide) ?_
          refine n_iadd hx hb dX3_manyHeld_27 (nI_add _ _) ?_
          refine lv_istore_n (lv' := [(1, .int (nI ((cHel σ i) + 0))), (2, .int (nI i)), (0, .ref (Ω 0))]) hx hb dX3_manyHeld_28 rfl hl (by decide) rfl (fun ls hl => ?_)
          refine lv_iinc (v := nI (i + 1)) (lv' := [(2, .int (nI (i + 1))), (1, .int (nI ((cHel σ i) + 0))), (0, .ref (Ω 0))]) hx hb dX3_manyHeld_29 hl (k := 1) rfl (nI_inc _) (by decide) rfl (fun ls hl => ?_)
          refine lv_goto (tgt := 4) hx hb dX3_manyHeld_32 (by decide) ?_
          rw [show (cHel σ i) + 0 = cHel σ (i + 1) by simp only [cHel]; rw [if_neg (show ¬ (0 < σ 11 i) by omega)]] at hl
          refine ih (i + 1) H locs ls (by omega) (by omega) hX ?_
          exact lv_sub hl [0, 1, 2] rfl
        · skip
          refine lv_iconst (v := nI 1) hx hb dX3_manyHeld_22 (by decide) ?_
          refine lv_goto (tgt := 27) hx hb dX3_manyHeld_23 (by decide) ?_
          refine n_iadd hx hb dX3_manyHeld_27 (nI_add _ _) ?_
          refine lv_istore_n (lv' := [(1, .int (nI ((cHel σ i) + 1))), (2, .int (nI i)), (0, .ref (Ω 0))]) hx hb dX3_manyHeld_28 rfl hl (by decide) rfl (fun ls hl => ?_)
          refine lv_iinc (v := nI (i + 1)) (lv' := [(2, .int (nI (i + 1))), (1, .int (nI ((cHel σ i) + 1))), (0, .ref (Ω 0))]) hx hb dX3_manyHeld_29 hl (k := 1) rfl (nI_inc _) (by decide) rfl (fun ls hl => ?_)
          refine lv_goto (tgt := 4) hx hb dX3_manyHeld_32 (by decide) ?_
          rw [show (cHel σ i) + 1 = cHel σ (i + 1) by simp only [cHel]; rw [if_pos (show 0 < σ 11 i by omega)]] at hl
          refine ih (i + 1) H locs ls (by omega) (by omega) hX ?_
          exact lv_sub hl [0, 1, 2] rfl
  exact hloop (σ 4 0 + 1) 0 s.heap [] ls (by omega) (by omega) hX hl

set_option maxHeartbeats 4000000 in
set_option maxRecDepth 100000 in
/-- how many use it -/
theorem c_X3_using (l : Launch) (g : wG) (μ : wMu) (zz : Nat) {Ω : Nat → Nat} {σ : sSt} {th : Nat} (hM : mD g Ω th σ μ) (hO : sOk σ) {w : Nat} (hw : w < σ 3 0) : wMet l yX3_using cX3_using 4 (some .int) 0 0 0 0 g [.ref (Ω 0), .int (nI w)] μ zz (fun r μ' => r = some (.int (nI (cUsr σ w (σ 4 0)))) ∧ μ' = μ) := by
  refine wMet.of (by decide) (Nat.le_of_ble_eq_true rfl) ?_
  intro p e s m below meth c ls hx hb hr hml hown hlocks hin hl hsz hX
  have hl : lv_has ls 4 [(0, .ref (Ω 0)), (1, .int (nI w))] := hl
  obtain ⟨r0, r5, r6, r7, r8, r9, r10, r11, r12, r13, hD⟩ := id hM
  obtain ⟨o1, o2, o3, o4, o5, o6, o7⟩ := id hO
  refine lv_iconst (v := nI 0) hx hb dX3_using_0 (by decide) ?_
  refine lv_istore_n (lv' := [(2, .int (nI 0)), (0, .ref (Ω 0)), (1, .int (nI w))]) hx hb dX3_using_1 rfl hl (by decide) rfl (fun ls hl => ?_)
  refine lv_iconst (v := nI 0) hx hb dX3_using_2 (by decide) ?_
  refine lv_istore_n (lv' := [(3, .int (nI 0)), (2, .int (nI 0)), (0, .ref (Ω 0)), (1, .int (nI w))]) hx hb dX3_using_3 rfl hl (by decide) rfl (fun ls hl => ?_)
  have hloop : ∀ (n : Nat) (i : Nat) (H : Heap) (locs : List Loc) (ls : Array Slot), σ 4 0 < i + n → i ≤ σ 4 0 → wX g (wA μ zz) s H locs μ → lv_has ls 4 [(3, .int (nI i)), (2, .int (nI (cUsr σ w i))), (0, .ref (Ω 0)), (1, .int (nI w))] → W p l e ({ frames := 0, cells := 0, slots := 0, locals := 0 } : Room) s m ([.ref (Ω 0), .int (nI w)] : List Value).toArray below meth c H locs 0 0 (MQ below (wQc g μ zz (fun r μ' => r = some (.int (nI (cUsr σ w (σ 4 0)))) ∧ μ' = μ)) ([.ref (Ω 0), .int (nI w)] : List Value).toArray s 0 0 (wA μ zz)) (F0 m 4 ls []) := by
    intro n
    induction n with
    | zero => intro i H locs ls hn hi hX hl; exact absurd hn (by omega)
    | succ n ih =>
      intro i H locs ls hn hi hX hl
      refine lv_iload_n hx hb dX3_using_4 rfl (lv_at hl 0 rfl) ?_
      refine lv_aload_n hx hb dX3_using_5 rfl (lv_at hl 2 rfl) ?_
      refine gX3_2 hx hb hX hown r0 kw631 dX3_using_6 ?_
      refine n_ge (tgt := 36) hx hb (by omega) (by omega) dX3_using_9 (by decide) (fun c_1 => ?_) (fun c_1 => ?_)
      · skip
        refine lv_iload_n hx hb dX3_using_36 rfl (lv_at hl 1 rfl) ?_
        exact w_iret hx hb hr hlocks hX ⟨by rw [show i = σ 4 0 by omega], rfl⟩ ⟨Nat.le_of_ble_eq_true rfl, Nat.le_of_ble_eq_true rfl⟩ dX3_using_37
      · skip
        have oib := o4 i (by omega)
        refine lv_iload_n hx hb dX3_using_12 rfl (lv_at hl 1 rfl) ?_
        refine lv_aload_n hx hb dX3_using_13 rfl (lv_at hl 2 rfl) ?_
        refine gX3_9 hx hb hX hown r0 kw638 dX3_using_14 ?_
        refine lv_iload_n hx hb dX3_using_17 rfl (lv_at hl 0 rfl) ?_
        refine n_iald hx hb hX r8 (by omega) (by omega) dX3_using_18 ?_
        refine lv_iload_n hx hb dX3_using_19 rfl (lv_at hl 3 rfl) ?_
        refine n_ne (tgt := 27) hx hb (by omega) (by omega) dX3_using_20 (by decide) (fun c_2 => ?_) (fun c_2 => ?_)
        · skip
          refine lv_iconst (v := nI 0) hx hb dX3_using_27 (by decide) ?_
          refine n_iadd hx hb dX3_using_28 (nI_add _ _) ?_
          refine lv_istore_n (lv' := [(2, .int (nI ((cUsr σ w i) + 0))), (3, .int (nI i)), (0, .ref (Ω 0)), (1, .int (nI w))]) hx hb dX3_using_29 rfl hl (by decide) rfl (fun ls hl => ?_)
          refine lv_iinc (v := nI (i + 1)) (lv' := [(3, .int (nI (i + 1))), (2, .int (nI ((cUsr σ w i) + 0))), (0, .ref (Ω 0)), (1, .int (nI w))]) hx hb dX3_using_30 hl (k := 1) rfl (nI_inc _) (by decide) rfl (fun ls hl => ?_)
          refine lv_goto (tgt := 4) hx hb dX3_using_33 (by decide) ?_
          rw [show (cUsr σ w i) + 0 = cUsr σ w (i + 1) by simp only [cUsr]; rw [if_neg (show ¬ (σ 8 i = w) by omega)]] at hl
          refine ih (i + 1) H locs ls (by omega) (by omega) hX ?_
          exact lv_sub hl [0, 1, 2, 3] rfl
        · skip
          refine lv_iconst (v := nI 1) hx hb dX3_using_23 (by decide) ?_
          refine lv_goto (tgt := 28) hx hb dX3_using_24 (by decide) ?_
          refine n_iadd hx hb dX3_using_28 (nI_add _ _) ?_
          refine lv_istore_n (lv' := [(2, .int (nI ((cUsr σ w i) + 1))), (3, .int (nI i)), (0, .ref (Ω 0)), (1, .int (nI w))]) hx hb dX3_using_29 rfl hl (by decide) rfl (fun ls hl => ?_)
          refine lv_iinc (v := nI (i + 1)) (lv' := [(3, .int (nI (i + 1))), (2, .int (nI ((cUsr σ w i) + 1))), (0, .ref (Ω 0)), (1, .int (nI w))]) hx hb dX3_using_30 hl (k := 1) rfl (nI_inc _) (by decide) rfl (fun ls hl => ?_)
          refine lv_goto (tgt := 4) hx hb dX3_using_33 (by decide) ?_
          rw [show (cUsr σ w i) + 1 = cUsr σ w (i + 1) by simp only [cUsr]; rw [if_pos (show σ 8 i = w by omega)]] at hl
          refine ih (i + 1) H locs ls (by omega) (by omega) hX ?_
          exact lv_sub hl [0, 1, 2, 3] rfl
  exact hloop (σ 4 0 + 1) 0 s.heap [] ls (by omega) (by omega) hX hl

theorem utl_skip (σ : sSt) (j sz : Nat) : ∀ m, m ≤ σ 11 j → m ≤ 101 → utl σ j sz (101 - m) m = utl σ j sz 101 0
  | 0, _, _ => rfl
  | m + 1, h1, h2 => by
    rw [← utl_skip σ j sz m (by omega) (by omega), show 101 - m = (101 - (m + 1)) + 1 by omega]
    simp only [utl]
    rw [if_neg (fun z => by omega)]
set_option maxHeartbeats 4000000 in
set_option maxRecDepth 100000 in
/-- when a wish would be granted -/
theorem c_X3_until (l : Launch) (g : wG) (μ : wMu) (zz : Nat) {Ω : Nat → Nat} {σ : sSt} {th : Nat} (hM : mD g Ω th σ μ) (hO : sOk σ) {j sz : Nat} (hj : j < σ 4 0) (h1 : 1 ≤ sz) (h2 : sz ≤ 20) : wMet l yX3_until cX3_until 5 (some .int) 2 0 0 43 g [.ref (Ω 0), .int (nI j), .int (nI sz)] μ zz (fun r μ' => r = some (.int (utl σ j sz 101 0)) ∧ μ' = μ) := by
  refine wMet.of (by decide) (Nat.le_of_ble_eq_true rfl) ?_
  intro p e s m below meth c ls hx hb hr hml hown hlocks hin hl hsz hX
  have hl : lv_has ls 5 [(0, .ref (Ω 0)), (1, .int (nI j)), (2, .int (nI sz))] := hl
  obtain ⟨r0, r5, r6, r7, r8, r9, r10, r11, r12, r13, hD⟩ := id hM
  obtain ⟨o1, o2, o3, o4, o5, o6, o7⟩ := id hO
  have ocb := o4 j hj
  have owb := o3 _ ocb.1
  refine lv_aload_n hx hb dX3_until_0 rfl (lv_at hl 0 rfl) ?_
  refine gX3_9 hx hb hX hown r0 kw638 dX3_until_1 ?_
  refine lv_iload_n hx hb dX3_until_4 rfl (lv_at hl 1 rfl) ?_
  refine n_iald hx hb hX r8 (by omega) (by omega) dX3_until_5 ?_
  refine lv_istore_n (lv' := [(3, .int (nI (σ 8 j))), (0, .ref (Ω 0)), (1, .int (nI j)), (2, .int (nI sz))]) hx hb dX3_until_6 rfl hl (by decide) rfl (fun ls hl => ?_)
  refine lv_aload_n hx hb dX3_until_7 rfl (lv_at hl 1 rfl) ?_
  refine gX3_12 hx hb hX hown r0 kw641 dX3_until_8 ?_
  refine lv_iload_n hx hb dX3_until_11 rfl (lv_at hl 2 rfl) ?_
  refine n_iald hx hb hX r11 (by omega) (by omega) dX3_until_12 ?_
  refine lv_istore (lv' := [(4, .int (nI (σ 11 j))), (3, .int (nI (σ 8 j))), (0, .ref (Ω 0)), (1, .int (nI j)), (2, .int (nI sz))]) hx hb dX3_until_13 hl (by decide) rfl (fun ls hl => ?_)
  have hloop : ∀ (n : Nat) (k : Nat) (H : Heap) (locs : List Loc) (ls : Array Slot), 101 < k + n → k ≤ 101 → σ 11 j ≤ k → utl σ j sz (101 - k) k = utl σ j sz 101 0 → wX g (wA μ zz) s H locs μ → lv_has ls 5 [(4, .int (nI k)), (3, .int (nI (σ 8 j))), (0, .ref (Ω 0)), (1, .int (nI j)), (2, .int (nI sz))] → W p l e ({ frames := 2, cells := 0, slots := 0, locals := 43 } : Room) s m ([.ref (Ω 0), .int (nI j), .int (nI sz)] : List Value).toArray below meth c H locs 0 0 (MQ below (wQc g μ zz (fun r μ' => r = some (.int (utl σ j sz 101 0)) ∧ μ' = μ)) ([.ref (Ω 0), .int (nI j), .int (nI sz)] : List Value).toArray s 0 0 (wA μ zz)) (F0 m 15 ls []) := by
    intro n
    induction n with
    | zero => intro k H locs ls hn hk hk0 hv hX hl; exact absurd hn (by omega)
    | succ n ih =>
      intro k H locs ls hn hk hk0 hv hX hl
      refine lv_iload hx hb dX3_until_15 (lv_at hl 0 rfl) ?_
      refine lv_bipush (v := nI 100) hx hb dX3_until_17 (by decide) ?_
      refine n_gt (tgt := 68) hx hb (by omega) (by omega) dX3_until_19 (by decide) (fun c_1 => ?_) (fun c_1 => ?_)
      · skip
        refine lv_iconst (v := (-1 : Int32)) hx hb dX3_until_68 (by decide) ?_
        exact w_iret hx hb hr hlocks hX ⟨by rw [← hv, show k = 101 by omega]; rfl, rfl⟩ ⟨Nat.le_of_ble_eq_true rfl, Nat.le_of_ble_eq_true rfl⟩ dX3_until_69
      · skip
        have hm : k * σ 6 (σ 8 j) ≤ 100 * 9 := Nat.mul_le_mul (by omega) (by omega)
        refine lv_aload_n hx hb dX3_until_22 rfl (lv_at hl 2 rfl) ?_
        refine lv_iload_n hx hb dX3_until_23 rfl (lv_at hl 3 rfl) ?_
        refine lv_iload hx hb dX3_until_24 (lv_at hl 0 rfl) ?_
        refine w_call (w_runV (n := 2) (As := [.int (nI j), .int (nI k)]) (rest := []) hx hb hml hown hX (c_X3_burstIn l g μ H.size hM hO hj (by omega)) kw750 kw7 kw747 kw749 kp33 wn_X3_burstIn rfl r0 rfl ⟨Nat.le_of_ble_eq_true rfl, Nat.le_of_ble_eq_true rfl⟩ hl.1 rfl (Nat.le_of_ble_eq_true rfl) dX3_until_26 ⟨Nat.le_of_ble_eq_true rfl, Nat.le_of_ble_eq_true rfl⟩) hX (fun r_4 μ_2 H locs q_3 hX hz => ?_)
        obtain ⟨rfl, e_5⟩ := q_3
        rw [e_5] at hX
        refine W.eq (g2 := F0 m 29 ls [.int (nI (bIn σ j k))]) rfl ?_
        have hbl := bIn_le (j := j) (k := k) ocb.2.2.1
        refine lv_aload_n hx hb dX3_until_29 rfl (lv_at hl 2 rfl) ?_
        refine gX3_6 hx hb hX hown r0 kw635 dX3_until_30 ?_
        refine lv_iload_n hx hb dX3_until_33 rfl (lv_at hl 1 rfl) ?_
        refine n_iald hx hb hX r5 (by omega) (by omega) dX3_until_34 ?_
        refine lv_aload_n hx hb dX3_until_35 rfl (lv_at hl 2 rfl) ?_
        refine gX3_8 hx hb hX hown r0 kw637 dX3_until_36 ?_
        refine lv_iload_n hx hb dX3_until_39 rfl (lv_at hl 1 rfl) ?_
        refine n_iald hx hb hX r7 (by omega) (by omega) dX3_until_40 ?_
        refine lv_iload hx hb dX3_until_41 (lv_at hl 0 rfl) ?_
        refine lv_aload_n hx hb dX3_until_43 rfl (lv_at hl 2 rfl) ?_
        refine gX3_7 hx hb hX hown r0 kw636 dX3_until_44 ?_
        refine lv_iload_n hx hb dX3_until_47 rfl (lv_at hl 1 rfl) ?_
        refine n_iald hx hb hX r6 (by omega) (by omega) dX3_until_48 ?_
        refine n_imul hx hb dX3_until_49 (pk_mul _ _) ?_
        refine n_iadd hx hb dX3_until_50 (nI_add _ _) ?_
        refine n_mmin hx hb (hml.trans hl.1.symm) hX hown kw737 kStMin kInMath kCdMin ⟨Nat.le_of_ble_eq_true rfl, Nat.le_of_ble_eq_true rfl⟩ ⟨Nat.le_of_ble_eq_true rfl, Nat.le_of_ble_eq_true rfl⟩ dX3_until_51 (nI_min (by omega) (by omega)) ?_
        refine n_iadd hx hb dX3_until_54 (nI_add _ _) ?_
        refine lv_iload_n hx hb dX3_until_55 rfl (lv_at hl 4 rfl) ?_
        refine n_lt (tgt := 62) hx hb (by omega) (by omega) dX3_until_56 (by decide) (fun c_6 => ?_) (fun c_6 => ?_)
        · skip
          refine lv_iinc (v := nI (k + 1)) (lv' := [(4, .int (nI (k + 1))), (3, .int (nI (σ 8 j))), (0, .ref (Ω 0)), (1, .int (nI j)), (2, .int (nI sz))]) hx hb dX3_until_62 hl (k := 0) rfl (nI_inc _) (by decide) rfl (fun ls hl => ?_)
          refine lv_goto (tgt := 15) hx hb dX3_until_65 (by decide) ?_
          refine ih (k + 1) H locs ls (by omega) (by omega) (by omega) (by rw [← hv, show 101 - k = (101 - (k + 1)) + 1 by omega]; simp only [utl]; rw [if_neg (fun z => by have z2 := z.2; unfold dIn at z2; omega)]) hX ?_
          exact lv_sub hl [0, 1, 2, 3, 4] rfl
        · skip
          refine lv_iload hx hb dX3_until_59 (lv_at hl 0 rfl) ?_
          exact w_iret hx hb hr hlocks hX ⟨by rw [← hv, show 101 - k = (100 - k) + 1 by omega]; simp only [utl]; rw [if_pos ⟨by omega, by unfold dIn; omega⟩], rfl⟩ ⟨Nat.le_of_ble_eq_true rfl, Nat.le_of_ble_eq_true rfl⟩ dX3_until_61
  exact hloop 102 (σ 11 j) s.heap [] _ (by omega) (by omega) (Nat.le_refl _) (utl_skip σ j sz _ (Nat.le_refl _) (by omega)) hX hl

def mG (rm fl k d : Nat) : Nat := if k = 0 then d else min rm (d + fl)
def mB (bd h0 k b : Nat) : Nat := if k = 0 then b else bstH bd b (h0 + k)
def mH (k h : Nat) : Nat := if k = 0 then h else h - 1
theorem mG_s (rm fl k d : Nat) : mG rm fl (k + 1) d = min rm (d + fl) := if_neg (Nat.succ_ne_zero k)
theorem mB_s (bd h0 k b : Nat) : mB bd h0 (k + 1) b = bstH bd b (h0 + k + 1) := (if_neg (Nat.succ_ne_zero k)).trans (by rw [Nat.add_assoc])
theorem mH_s (k h : Nat) : mH (k + 1) h = h - 1 := if_neg (Nat.succ_ne_zero k)
theorem gr_y {sz rm fl bd h0 n k d b h m x : Nat} (e1 : h = 0) (e2 : sz ≤ b + d) : twc sz rm fl bd h0 (n + 1) k d b h m x = 1 + twc sz rm fl bd h0 n (k + 1) (mG rm fl (k + 1) (d - (sz - b))) (mB bd h0 (k + 1) (b - sz)) (mH (k + 1) h) (m - 1) x := by
  simp only [twc, fwG, fwD, fwB, fwH, fwM, fwN, if_pos (show h = 0 ∧ sz ≤ b + d from ⟨e1, e2⟩), mG_s, mB_s, mH_s]
theorem gr_h {sz rm fl bd h0 n k d b h m x : Nat} (e1 : 0 < h) : twc sz rm fl bd h0 (n + 1) k d b h m x = twc sz rm fl bd h0 n (k + 1) (mG rm fl (k + 1) d) (mB bd h0 (k + 1) b) (mH (k + 1) (min 48 (h + 1))) m x := by
  simp only [twc, fwG, fwD, fwB, fwH, fwM, fwN, if_neg (show ¬ (h = 0 ∧ sz ≤ b + d) by omega), if_pos e1, mG_s, mB_s, mH_s, Nat.zero_add]
theorem gr_m {sz rm fl bd h0 n k d b h m x : Nat} (e1 : h = 0) (e2 : ¬ sz ≤ b + d) (e3 : ¬ 2 ≤ m) : twc sz rm fl bd h0 (n + 1) k d b h m x = twc sz rm fl bd h0 n (k + 1) (mG rm fl (k + 1) d) (mB bd h0 (k + 1) b) (mH (k + 1) h) (m + 1) x := by
  simp only [twc, fwG, fwD, fwB, fwH, fwM, fwN, if_neg (show ¬ (h = 0 ∧ sz ≤ b + d) by omega), if_neg (show ¬ 0 < h by omega), if_neg e3, mG_s, mB_s, mH_s, Nat.zero_add]
theorem gr_n {sz rm fl bd h0 n k d b h m x : Nat} (e1 : h = 0) (e2 : ¬ sz ≤ b + d) (e3 : 2 ≤ m) : twc sz rm fl bd h0 (n + 1) k d b h m x = twc sz rm fl bd h0 n (k + 1) (mG rm fl (k + 1) d) (mB bd h0 (k + 1) b) (mH (k + 1) x) 0 (min 32 (2 * x)) := by
  simp only [twc, fwG, fwD, fwB, fwH, fwM, fwN, if_neg (show ¬ (h = 0 ∧ sz ≤ b + d) by omega), if_neg (show ¬ 0 < h by omega), if_pos e3, mG_s, mB_s, mH_s, Nat.zero_add, Nat.mul_comm x 2]
set_option maxHeartbeats 4000000 in
set_option maxRecDepth 100000 in
/-- how many would be granted -/
theorem c_X3_grants (l : Launch) (g : wG) (μ : wMu) (zz : Nat) {Ω : Nat → Nat} {σ : sSt} {th : Nat} (hM : mD g Ω th σ μ) (hO : sOk σ) {j sz nn fl : Nat} (hj : j < σ 4 0) (h1 : 1 ≤ sz) (h2 : sz ≤ 20) (h3 : nn ≤ 100) (h4 : fl ≤ 20) : wMet l yX3_grants cX3_grants 13 (some .int) 2 0 0 43 g [.ref (Ω 0), .int (nI j), .int (nI sz), .int (nI nn), .int (nI fl)] μ zz (fun r μ' => r = some (.int (nI (tws σ j sz nn fl))) ∧ μ' = μ) := by
  refine wMet.of (by decide) (Nat.le_of_ble_eq_true rfl) ?_
  intro p e s m below meth c ls hx hb hr hml hown hlocks hin hl hsz hX
  have hl : lv_has ls 13 [(0, .ref (Ω 0)), (1, .int (nI j)), (2, .int (nI sz)), (3, .int (nI nn)), (4, .int (nI fl))] := hl
  obtain ⟨r0, r5, r6, r7, r8, r9, r10, r11, r12, r13, hD⟩ := id hM
  obtain ⟨o1, o2, o3, o4, o5, o6, o7⟩ := id hO
  have ocb := o4 j hj
  have owb := o3 _ ocb.1
  refine lv_aload_n hx hb dX3_grants_0 rfl (lv_at hl 0 rfl) ?_
  refine gX3_9 hx hb hX hown r0 kw638 dX3_grants_1 ?_
  refine lv_iload_n hx hb dX3_grants_4 rfl (lv_at hl 1 rfl) ?_
  refine n_iald hx hb hX r8 (by omega) (by omega) dX3_grants_5 ?_
  refine lv_istore (lv' := [(5, .int (nI (σ 8 j))), (0, .ref (Ω 0)), (1, .int (nI j)), (2, .int (nI sz)), (3, .int (nI nn)), (4, .int (nI fl))]) hx hb dX3_grants_6 hl (by decide) rfl (fun ls hl => ?_)
  refine lv_aload_n hx hb dX3_grants_8 rfl (lv_at hl 1 rfl) ?_
  refine gX3_8 hx hb hX hown r0 kw637 dX3_grants_9 ?_
  refine lv_iload hx hb dX3_grants_12 (lv_at hl 0 rfl) ?_
  refine n_iald hx hb hX r7 (by omega) (by omega) dX3_grants_14 ?_
  refine lv_istore (lv' := [(6, .int (nI (σ 7 (σ 8 j)))), (5, .int (nI (σ 8 j))), (0, .ref (Ω 0)), (1, .int (nI j)), (2, .int (nI sz)), (3, .int (nI nn)), (4, .int (nI fl))]) hx hb dX3_grants_15 hl (by decide) rfl (fun ls hl => ?_)
  refine lv_aload_n hx hb dX3_grants_17 rfl (lv_at hl 2 rfl) ?_
  refine gX3_11 hx hb hX hown r0 kw640 dX3_grants_18 ?_
  refine lv_iload_n hx hb dX3_grants_21 rfl (lv_at hl 3 rfl) ?_
  refine n_iald hx hb hX r10 (by omega) (by omega) dX3_grants_22 ?_
  refine lv_istore (lv' := [(7, .int (nI (σ 10 j))), (6, .int (nI (σ 7 (σ 8 j)))), (5, .int (nI (σ 8 j))), (0, .ref (Ω 0)), (1, .int (nI j)), (2, .int (nI sz)), (3, .int (nI nn)), (4, .int (nI fl))]) hx hb dX3_grants_23 hl (by decide) rfl (fun ls hl => ?_)
  refine lv_aload_n hx hb dX3_grants_25 rfl (lv_at hl 3 rfl) ?_
  refine gX3_12 hx hb hX hown r0 kw641 dX3_grants_26 ?_
  refine lv_iload_n hx hb dX3_grants_29 rfl (lv_at hl 4 rfl) ?_
  refine n_iald hx hb hX r11 (by omega) (by omega) dX3_grants_30 ?_
  refine lv_istore (lv' := [(8, .int (nI (σ 11 j))), (7, .int (nI (σ 10 j))), (6, .int (nI (σ 7 (σ 8 j)))), (5, .int (nI (σ 8 j))), (0, .ref (Ω 0)), (1, .int (nI j)), (2, .int (nI sz)), (3, .int (nI nn)), (4, .int (nI fl))]) hx hb dX3_grants_31 hl (by decide) rfl (fun ls hl => ?_)
  refine lv_aload_n hx hb dX3_grants_33 rfl (lv_at hl 4 rfl) ?_
  refine gX3_13 hx hb hX hown r0 kw642 dX3_grants_34 ?_
  refine lv_iload_n hx hb dX3_grants_37 rfl (lv_at hl 5 rfl) ?_
  refine n_iald hx hb hX r12 (by omega) (by omega) dX3_grants_38 ?_
  refine lv_istore (lv' := [(9, .int (nI (σ 12 j))), (8, .int (nI (σ 11 j))), (7, .int (nI (σ 10 j))), (6, .int (nI (σ 7 (σ 8 j)))), (5, .int (nI (σ 8 j))), (0, .ref (Ω 0)), (1, .int (nI j)), (2, .int (nI sz)), (3, .int (nI nn)), (4, .int (nI fl))]) hx hb dX3_grants_39 hl (by decide) rfl (fun ls hl => ?_)
  refine lv_aload_n hx hb dX3_grants_41 rfl (lv_at hl 5 rfl) ?_
  refine gX3_14 hx hb hX hown r0 kw643 dX3_grants_42 ?_
  refine lv_iload_n hx hb dX3_grants_45 rfl (lv_at hl 6 rfl) ?_
  refine n_iald hx hb hX r13 (by omega) (by omega) dX3_grants_46 ?_
  refine lv_istore (lv' := [(10, .int (nI (σ 13 j))), (9, .int (nI (σ 12 j))), (8, .int (nI (σ 11 j))), (7, .int (nI (σ 10 j))), (6, .int (nI (σ 7 (σ 8 j)))), (5, .int (nI (σ 8 j))), (0, .ref (Ω 0)), (1, .int (nI j)), (2, .int (nI sz)), (3, .int (nI nn)), (4, .int (nI fl))]) hx hb dX3_grants_47 hl (by decide) rfl (fun ls hl => ?_)
  refine lv_iconst (v := nI 0) hx hb dX3_grants_49 (by decide) ?_
  refine lv_istore (lv' := [(11, .int (nI 0)), (10, .int (nI (σ 13 j))), (9, .int (nI (σ 12 j))), (8, .int (nI (σ 11 j))), (7, .int (nI (σ 10 j))), (6, .int (nI (σ 7 (σ 8 j)))), (5, .int (nI (σ 8 j))), (0, .ref (Ω 0)), (1, .int (nI j)), (2, .int (nI sz)), (3, .int (nI nn)), (4, .int (nI fl))]) hx hb dX3_grants_50 hl (by decide) rfl (fun ls hl => ?_)
  refine lv_iconst (v := nI 0) hx hb dX3_grants_52 (by decide) ?_
  refine lv_istore (lv' := [(12, .int (nI 0)), (11, .int (nI 0)), (10, .int (nI (σ 13 j))), (9, .int (nI (σ 12 j))), (8, .int (nI (σ 11 j))), (7, .int (nI (σ 10 j))), (6, .int (nI (σ 7 (σ 8 j)))), (5, .int (nI (σ 8 j))), (0, .ref (Ω 0)), (1, .int (nI j)), (2, .int (nI sz)), (3, .int (nI nn)), (4, .int (nI fl))]) hx hb dX3_grants_53 hl (by decide) rfl (fun ls hl => ?_)
  have hloop : ∀ (n : Nat) (k cn d b h r x : Nat) (H : Heap) (locs : List Loc) (ls : Array Slot), nn < k + n → k ≤ nn → cn ≤ k → cn + twc sz (σ 5 (σ 8 j)) fl (σ 9 j) (σ 0 0) (nn - k) k (mG (σ 5 (σ 8 j)) fl k d) (mB (σ 9 j) (σ 0 0) k b) (mH k h) r x = tws σ j sz nn fl → d ≤ 60 → b ≤ 12 → h ≤ 48 → r ≤ 2 → x ≤ 32 → wX g (wA μ zz) s H locs μ → lv_has ls 13 [(12, .int (nI k)), (11, .int (nI cn)), (10, .int (nI x)), (9, .int (nI r)), (8, .int (nI h)), (7, .int (nI b)), (6, .int (nI d)), (5, .int (nI (σ 8 j))), (0, .ref (Ω 0)), (1, .int (nI j)), (2, .int (nI sz)), (3, .int (nI nn)), (4, .int (nI fl))] → W p l e ({ frames := 2, cells := 0, slots := 0, locals := 43 } : Room) s m ([.ref (Ω 0), .int (nI j), .int (nI sz), .int (nI nn), .int (nI fl)] : List Value).toArray below meth c H locs 0 0 (MQ below (wQc g μ zz (fun r μ' => r = some (.int (nI (tws σ j sz nn fl))) ∧ μ' = μ)) ([.ref (Ω 0), .int (nI j), .int (nI sz), .int (nI nn), .int (nI fl)] : List Value).toArray s 0 0 (wA μ zz)) (F0 m 55 ls []) := by
    intro n
    induction n with
    | zero => intro k cn d b h r x H locs ls hn hk hcn hv q1 q2 q3 q4 q5 hX hl; exact absurd hn (by omega)
    | succ n ih =>
      intro k cn d b h r x H locs ls hn hk hcn hv q1 q2 q3 q4 q5 hX hl
      refine lv_iload hx hb dX3_grants_55 (lv_at hl 0 rfl) ?_
      refine lv_iload_n hx hb dX3_grants_57 rfl (lv_at hl 11 rfl) ?_
      refine n_ge (tgt := 223) hx hb (by omega) (by omega) dX3_grants_58 (by decide) (fun c_1 => ?_) (fun c_1 => ?_)
      · skip
        refine lv_iload hx hb dX3_grants_223 (lv_at hl 1 rfl) ?_
        rw [show nn - k = 0 by omega] at hv
        exact w_iret hx hb hr hlocks hX ⟨by rw [← hv]; rfl, rfl⟩ ⟨Nat.le_of_ble_eq_true rfl, Nat.le_of_ble_eq_true rfl⟩ dX3_grants_225
      · skip
        have hmid : ∀ (dd bb hh : Nat) (H : Heap) (locs : List Loc) (ls : Array Slot), dd ≤ 60 → bb ≤ 12 → hh ≤ 48 → cn + twc sz (σ 5 (σ 8 j)) fl (σ 9 j) (σ 0 0) (nn - k) k dd bb hh r x = tws σ j sz nn fl → wX g (wA μ zz) s H locs μ → lv_has ls 13 [(12, .int (nI k)), (11, .int (nI cn)), (10, .int (nI x)), (9, .int (nI r)), (8, .int (nI hh)), (7, .int (nI bb)), (6, .int (nI dd)), (5, .int (nI (σ 8 j))), (0, .ref (Ω 0)), (1, .int (nI j)), (2, .int (nI sz)), (3, .int (nI nn)), (4, .int (nI fl))] → W p l e ({ frames := 2, cells := 0, slots := 0, locals := 43 } : Room) s m ([.ref (Ω 0), .int (nI j), .int (nI sz), .int (nI nn), .int (nI fl)] : List Value).toArray below meth c H locs 0 0 (MQ below (wQc g μ zz (fun r μ' => r = some (.int (nI (tws σ j sz nn fl))) ∧ μ' = μ)) ([.ref (Ω 0), .int (nI j), .int (nI sz), .int (nI nn), .int (nI fl)] : List Value).toArray s 0 0 (wA μ zz)) (F0 m 115 ls []) := by
          intro dd bb hh H locs ls q6 q7 q8 hv1 hX hl
          refine lv_iload hx hb dX3_grants_115 (lv_at hl 4 rfl) ?_
          refine n_if_ne (tgt := 168) hx hb (by omega) dX3_grants_117 (by decide) (fun c_2 => ?_) (fun c_2 => ?_)
          · skip
            refine lv_iload hx hb dX3_grants_168 (lv_at hl 4 rfl) ?_
            refine n_if_le (tgt := 187) hx hb (by omega) dX3_grants_170 (by decide) (fun c_3 => ?_) (fun c_3 => ?_)
            · skip
              refine lv_iload hx hb dX3_grants_187 (lv_at hl 3 rfl) ?_
              refine lv_iconst (v := nI 2) hx hb dX3_grants_189 (by decide) ?_
              refine n_ge (tgt := 199) hx hb (by omega) (by omega) dX3_grants_190 (by decide) (fun c_4 => ?_) (fun c_4 => ?_)
              · skip
                refine lv_iconst (v := nI 0) hx hb dX3_grants_199 (by decide) ?_
                refine lv_istore (lv' := [(9, .int (nI 0)), (12, .int (nI k)), (11, .int (nI cn)), (10, .int (nI x)), (8, .int (nI hh)), (7, .int (nI bb)), (6, .int (nI dd)), (5, .int (nI (σ 8 j))), (0, .ref (Ω 0)), (1, .int (nI j)), (2, .int (nI sz)), (3, .int (nI nn)), (4, .int (nI fl))]) hx hb dX3_grants_200 hl (by decide) rfl (fun ls hl => ?_)
                refine lv_iload hx hb dX3_grants_202 (lv_at hl 3 rfl) ?_
                refine lv_istore (lv' := [(8, .int (nI x)), (9, .int (nI 0)), (12, .int (nI k)), (11, .int (nI cn)), (10, .int (nI x)), (7, .int (nI bb)), (6, .int (nI dd)), (5, .int (nI (σ 8 j))), (0, .ref (Ω 0)), (1, .int (nI j)), (2, .int (nI sz)), (3, .int (nI nn)), (4, .int (nI fl))]) hx hb dX3_grants_204 hl (by decide) rfl (fun ls hl => ?_)
                refine lv_bipush (v := nI 32) hx hb dX3_grants_206 (by decide) ?_
                refine lv_iconst (v := nI 2) hx hb dX3_grants_208 (by decide) ?_
                refine lv_iload hx hb dX3_grants_209 (lv_at hl 4 rfl) ?_
                refine n_imul hx hb dX3_grants_211 (pk_mul _ _) ?_
                refine n_mmin hx hb (hml.trans hl.1.symm) hX hown kw737 kStMin kInMath kCdMin ⟨Nat.le_of_ble_eq_true rfl, Nat.le_of_ble_eq_true rfl⟩ ⟨Nat.le_of_ble_eq_true rfl, Nat.le_of_ble_eq_true rfl⟩ dX3_grants_212 (nI_min (by omega) (by omega)) ?_
                refine lv_istore (lv' := [(10, .int (nI (min 32 (2 * x)))), (8, .int (nI x)), (9, .int (nI 0)), (12, .int (nI k)), (11, .int (nI cn)), (7, .int (nI bb)), (6, .int (nI dd)), (5, .int (nI (σ 8 j))), (0, .ref (Ω 0)), (1, .int (nI j)), (2, .int (nI sz)), (3, .int (nI nn)), (4, .int (nI fl))]) hx hb dX3_grants_215 hl (by decide) rfl (fun ls hl => ?_)
                refine lv_iinc (v := nI (k + 1)) (lv' := [(12, .int (nI (k + 1))), (10, .int (nI (min 32 (2 * x)))), (8, .int (nI x)), (9, .int (nI 0)), (11, .int (nI cn)), (7, .int (nI bb)), (6, .int (nI dd)), (5, .int (nI (σ 8 j))), (0, .ref (Ω 0)), (1, .int (nI j)), (2, .int (nI sz)), (3, .int (nI nn)), (4, .int (nI fl))]) hx hb dX3_grants_217 hl (k := 3) rfl (nI_inc _) (by decide) rfl (fun ls hl => ?_)
                refine lv_goto (tgt := 55) hx hb dX3_grants_220 (by decide) ?_
                rw [show nn - k = (nn - (k + 1)) + 1 by omega, gr_n (by omega) (by omega) (by omega)] at hv1
                refine ih (k + 1) cn dd bb x 0 (min 32 (2 * x)) H locs ls (by omega) (by omega) (by omega) (by omega) (by omega) (by omega) (by omega) (by omega) (by omega) hX ?_
                exact lv_sub hl [0, 4, 1, 3, 2, 5, 6, 7, 8, 9, 10, 11, 12] rfl
              · skip
                refine lv_iinc (v := nI (r + 1)) (lv' := [(9, .int (nI (r + 1))), (12, .int (nI k)), (11, .int (nI cn)), (10, .int (nI x)), (8, .int (nI hh)), (7, .int (nI bb)), (6, .int (nI dd)), (5, .int (nI (σ 8 j))), (0, .ref (Ω 0)), (1, .int (nI j)), (2, .int (nI sz)), (3, .int (nI nn)), (4, .int (nI fl))]) hx hb dX3_grants_193 hl (k := 3) rfl (nI_inc _) (by decide) rfl (fun ls hl => ?_)
                refine lv_goto (tgt := 217) hx hb dX3_grants_196 (by decide) ?_
                refine lv_iinc (v := nI (k + 1)) (lv' := [(12, .int (nI (k + 1))), (9, .int (nI (r + 1))), (11, .int (nI cn)), (10, .int (nI x)), (8, .int (nI hh)), (7, .int (nI bb)), (6, .int (nI dd)), (5, .int (nI (σ 8 j))), (0, .ref (Ω 0)), (1, .int (nI j)), (2, .int (nI sz)), (3, .int (nI nn)), (4, .int (nI fl))]) hx hb dX3_grants_217 hl (k := 1) rfl (nI_inc _) (by decide) rfl (fun ls hl => ?_)
                refine lv_goto (tgt := 55) hx hb dX3_grants_220 (by decide) ?_
                rw [show nn - k = (nn - (k + 1)) + 1 by omega, gr_m (by omega) (by omega) (by omega)] at hv1
                refine ih (k + 1) cn dd bb hh (r + 1) x H locs ls (by omega) (by omega) (by omega) (by omega) (by omega) (by omega) (by omega) (by omega) (by omega) hX ?_
                exact lv_sub hl [0, 2, 3, 1, 4, 5, 6, 7, 8, 9, 10, 11, 12] rfl
            · skip
              refine lv_bipush (v := nI 48) hx hb dX3_grants_173 (by decide) ?_
              refine lv_iload hx hb dX3_grants_175 (lv_at hl 4 rfl) ?_
              refine lv_iconst (v := nI 1) hx hb dX3_grants_177 (by decide) ?_
              refine n_iadd hx hb dX3_grants_178 (nI_add _ _) ?_
              refine n_mmin hx hb (hml.trans hl.1.symm) hX hown kw737 kStMin kInMath kCdMin ⟨Nat.le_of_ble_eq_true rfl, Nat.le_of_ble_eq_true rfl⟩ ⟨Nat.le_of_ble_eq_true rfl, Nat.le_of_ble_eq_true rfl⟩ dX3_grants_179 (nI_min (by omega) (by omega)) ?_
              refine lv_istore (lv' := [(8, .int (nI (min 48 (hh + 1)))), (12, .int (nI k)), (11, .int (nI cn)), (10, .int (nI x)), (9, .int (nI r)), (7, .int (nI bb)), (6, .int (nI dd)), (5, .int (nI (σ 8 j))), (0, .ref (Ω 0)), (1, .int (nI j)), (2, .int (nI sz)), (3, .int (nI nn)), (4, .int (nI fl))]) hx hb dX3_grants_182 hl (by decide) rfl (fun ls hl => ?_)
              refine lv_goto (tgt := 217) hx hb dX3_grants_184 (by decide) ?_
              refine lv_iinc (v := nI (k + 1)) (lv' := [(12, .int (nI (k + 1))), (8, .int (nI (min 48 (hh + 1)))), (11, .int (nI cn)), (10, .int (nI x)), (9, .int (nI r)), (7, .int (nI bb)), (6, .int (nI dd)), (5, .int (nI (σ 8 j))), (0, .ref (Ω 0)), (1, .int (nI j)), (2, .int (nI sz)), (3, .int (nI nn)), (4, .int (nI fl))]) hx hb dX3_grants_217 hl (k := 1) rfl (nI_inc _) (by decide) rfl (fun ls hl => ?_)
              refine lv_goto (tgt := 55) hx hb dX3_grants_220 (by decide) ?_
              rw [show nn - k = (nn - (k + 1)) + 1 by omega, gr_h (by omega)] at hv1
              refine ih (k + 1) cn dd bb (min 48 (hh + 1)) r x H locs ls (by omega) (by omega) (by omega) (by omega) (by omega) (by omega) (by omega) (by omega) (by omega) hX ?_
              exact lv_sub hl [0, 2, 3, 4, 1, 5, 6, 7, 8, 9, 10, 11, 12] rfl
          · skip
            refine lv_iload hx hb dX3_grants_120 (lv_at hl 5 rfl) ?_
            refine lv_iload hx hb dX3_grants_122 (lv_at hl 6 rfl) ?_
            refine n_iadd hx hb dX3_grants_124 (nI_add _ _) ?_
            refine lv_iload_n hx hb dX3_grants_125 rfl (lv_at hl 10 rfl) ?_
            refine n_lt (tgt := 168) hx hb (by omega) (by omega) dX3_grants_126 (by decide) (fun c_5 => ?_) (fun c_5 => ?_)
            · skip
              refine lv_iload hx hb dX3_grants_168 (lv_at hl 4 rfl) ?_
              refine n_if_le (tgt := 187) hx hb (by omega) dX3_grants_170 (by decide) (fun c_6 => ?_) (fun c_6 => ?_)
              · skip
                refine lv_iload hx hb dX3_grants_187 (lv_at hl 3 rfl) ?_
                refine lv_iconst (v := nI 2) hx hb dX3_grants_189 (by decide) ?_
                refine n_ge (tgt := 199) hx hb (by omega) (by omega) dX3_grants_190 (by decide) (fun c_7 => ?_) (fun c_7 => ?_)
                · skip
                  refine lv_iconst (v := nI 0) hx hb dX3_grants_199 (by decide) ?_
                  refine lv_istore (lv' := [(9, .int (nI 0)), (12, .int (nI k)), (11, .int (nI cn)), (10, .int (nI x)), (8, .int (nI hh)), (7, .int (nI bb)), (6, .int (nI dd)), (5, .int (nI (σ 8 j))), (0, .ref (Ω 0)), (1, .int (nI j)), (2, .int (nI sz)), (3, .int (nI nn)), (4, .int (nI fl))]) hx hb dX3_grants_200 hl (by decide) rfl (fun ls hl => ?_)
                  refine lv_iload hx hb dX3_grants_202 (lv_at hl 3 rfl) ?_
                  refine lv_istore (lv' := [(8, .int (nI x)), (9, .int (nI 0)), (12, .int (nI k)), (11, .int (nI cn)), (10, .int (nI x)), (7, .int (nI bb)), (6, .int (nI dd)), (5, .int (nI (σ 8 j))), (0, .ref (Ω 0)), (1, .int (nI j)), (2, .int (nI sz)), (3, .int (nI nn)), (4, .int (nI fl))]) hx hb dX3_grants_204 hl (by decide) rfl (fun ls hl => ?_)
                  refine lv_bipush (v := nI 32) hx hb dX3_grants_206 (by decide) ?_
                  refine lv_iconst (v := nI 2) hx hb dX3_grants_208 (by decide) ?_
                  refine lv_iload hx hb dX3_grants_209 (lv_at hl 4 rfl) ?_
                  refine n_imul hx hb dX3_grants_211 (pk_mul _ _) ?_
                  refine n_mmin hx hb (hml.trans hl.1.symm) hX hown kw737 kStMin kInMath kCdMin ⟨Nat.le_of_ble_eq_true rfl, Nat.le_of_ble_eq_true rfl⟩ ⟨Nat.le_of_ble_eq_true rfl, Nat.le_of_ble_eq_true rfl⟩ dX3_grants_212 (nI_min (by omega) (by omega)) ?_
                  refine lv_istore (lv' := [(10, .int (nI (min 32 (2 * x)))), (8, .int (nI x)), (9, .int (nI 0)), (12, .int (nI k)), (11, .int (nI cn)), (7, .int (nI bb)), (6, .int (nI dd)), (5, .int (nI (σ 8 j))), (0, .ref (Ω 0)), (1, .int (nI j)), (2, .int (nI sz)), (3, .int (nI nn)), (4, .int (nI fl))]) hx hb dX3_grants_215 hl (by decide) rfl (fun ls hl => ?_)
                  refine lv_iinc (v := nI (k + 1)) (lv' := [(12, .int (nI (k + 1))), (10, .int (nI (min 32 (2 * x)))), (8, .int (nI x)), (9, .int (nI 0)), (11, .int (nI cn)), (7, .int (nI bb)), (6, .int (nI dd)), (5, .int (nI (σ 8 j))), (0, .ref (Ω 0)), (1, .int (nI j)), (2, .int (nI sz)), (3, .int (nI nn)), (4, .int (nI fl))]) hx hb dX3_grants_217 hl (k := 3) rfl (nI_inc _) (by decide) rfl (fun ls hl => ?_)
                  refine lv_goto (tgt := 55) hx hb dX3_grants_220 (by decide) ?_
                  rw [show nn - k = (nn - (k + 1)) + 1 by omega, gr_n (by omega) (by omega) (by omega)] at hv1
                  refine ih (k + 1) cn dd bb x 0 (min 32 (2 * x)) H locs ls (by omega) (by omega) (by omega) (by omega) (by omega) (by omega) (by omega) (by omega) (by omega) hX ?_
                  exact lv_sub hl [0, 4, 1, 3, 2, 5, 6, 7, 8, 9, 10, 11, 12] rfl
                · skip
                  refine lv_iinc (v := nI (r + 1)) (lv' := [(9, .int (nI (r + 1))), (12, .int (nI k)), (11, .int (nI cn)), (10, .int (nI x)), (8, .int (nI hh)), (7, .int (nI bb)), (6, .int (nI dd)), (5, .int (nI (σ 8 j))), (0, .ref (Ω 0)), (1, .int (nI j)), (2, .int (nI sz)), (3, .int (nI nn)), (4, .int (nI fl))]) hx hb dX3_grants_193 hl (k := 3) rfl (nI_inc _) (by decide) rfl (fun ls hl => ?_)
                  refine lv_goto (tgt := 217) hx hb dX3_grants_196 (by decide) ?_
                  refine lv_iinc (v := nI (k + 1)) (lv' := [(12, .int (nI (k + 1))), (9, .int (nI (r + 1))), (11, .int (nI cn)), (10, .int (nI x)), (8, .int (nI hh)), (7, .int (nI bb)), (6, .int (nI dd)), (5, .int (nI (σ 8 j))), (0, .ref (Ω 0)), (1, .int (nI j)), (2, .int (nI sz)), (3, .int (nI nn)), (4, .int (nI fl))]) hx hb dX3_grants_217 hl (k := 1) rfl (nI_inc _) (by decide) rfl (fun ls hl => ?_)
                  refine lv_goto (tgt := 55) hx hb dX3_grants_220 (by decide) ?_
                  rw [show nn - k = (nn - (k + 1)) + 1 by omega, gr_m (by omega) (by omega) (by omega)] at hv1
                  refine ih (k + 1) cn dd bb hh (r + 1) x H locs ls (by omega) (by omega) (by omega) (by omega) (by omega) (by omega) (by omega) (by omega) (by omega) hX ?_
                  exact lv_sub hl [0, 2, 3, 1, 4, 5, 6, 7, 8, 9, 10, 11, 12] rfl
              · skip
                refine lv_bipush (v := nI 48) hx hb dX3_grants_173 (by decide) ?_
                refine lv_iload hx hb dX3_grants_175 (lv_at hl 4 rfl) ?_
                refine lv_iconst (v := nI 1) hx hb dX3_grants_177 (by decide) ?_
                refine n_iadd hx hb dX3_grants_178 (nI_add _ _) ?_
                refine n_mmin hx hb (hml.trans hl.1.symm) hX hown kw737 kStMin kInMath kCdMin ⟨Nat.le_of_ble_eq_true rfl, Nat.le_of_ble_eq_true rfl⟩ ⟨Nat.le_of_ble_eq_true rfl, Nat.le_of_ble_eq_true rfl⟩ dX3_grants_179 (nI_min (by omega) (by omega)) ?_
                refine lv_istore (lv' := [(8, .int (nI (min 48 (hh + 1)))), (12, .int (nI k)), (11, .int (nI cn)), (10, .int (nI x)), (9, .int (nI r)), (7, .int (nI bb)), (6, .int (nI dd)), (5, .int (nI (σ 8 j))), (0, .ref (Ω 0)), (1, .int (nI j)), (2, .int (nI sz)), (3, .int (nI nn)), (4, .int (nI fl))]) hx hb dX3_grants_182 hl (by decide) rfl (fun ls hl => ?_)
                refine lv_goto (tgt := 217) hx hb dX3_grants_184 (by decide) ?_
                refine lv_iinc (v := nI (k + 1)) (lv' := [(12, .int (nI (k + 1))), (8, .int (nI (min 48 (hh + 1)))), (11, .int (nI cn)), (10, .int (nI x)), (9, .int (nI r)), (7, .int (nI bb)), (6, .int (nI dd)), (5, .int (nI (σ 8 j))), (0, .ref (Ω 0)), (1, .int (nI j)), (2, .int (nI sz)), (3, .int (nI nn)), (4, .int (nI fl))]) hx hb dX3_grants_217 hl (k := 1) rfl (nI_inc _) (by decide) rfl (fun ls hl => ?_)
                refine lv_goto (tgt := 55) hx hb dX3_grants_220 (by decide) ?_
                rw [show nn - k = (nn - (k + 1)) + 1 by omega, gr_h (by omega)] at hv1
                refine ih (k + 1) cn dd bb (min 48 (hh + 1)) r x H locs ls (by omega) (by omega) (by omega) (by omega) (by omega) (by omega) (by omega) (by omega) (by omega) hX ?_
                exact lv_sub hl [0, 2, 3, 4, 1, 5, 6, 7, 8, 9, 10, 11, 12] rfl
            · skip
              refine lv_iload hx hb dX3_grants_129 (lv_at hl 6 rfl) ?_
              refine lv_iconst (v := nI 0) hx hb dX3_grants_131 (by decide) ?_
              refine lv_iload_n hx hb dX3_grants_132 rfl (lv_at hl 10 rfl) ?_
              refine lv_iload hx hb dX3_grants_133 (lv_at hl 5 rfl) ?_
              refine n_isub hx hb dX3_grants_135 rfl ?_
              refine n_mmax hx hb (hml.trans hl.1.symm) hX hown kw738 kStMax kInMath kCdMax ⟨Nat.le_of_ble_eq_true rfl, Nat.le_of_ble_eq_true rfl⟩ ⟨Nat.le_of_ble_eq_true rfl, Nat.le_of_ble_eq_true rfl⟩ dX3_grants_136 (nI_max0 (by omega) (by omega)) ?_
              refine n_isub hx hb dX3_grants_139 (pk_sub (by omega)) ?_
              refine lv_istore (lv' := [(6, .int (nI (dd - (sz - bb)))), (12, .int (nI k)), (11, .int (nI cn)), (10, .int (nI x)), (9, .int (nI r)), (8, .int (nI hh)), (7, .int (nI bb)), (5, .int (nI (σ 8 j))), (0, .ref (Ω 0)), (1, .int (nI j)), (2, .int (nI sz)), (3, .int (nI nn)), (4, .int (nI fl))]) hx hb dX3_grants_140 hl (by decide) rfl (fun ls hl => ?_)
              refine lv_iconst (v := nI 0) hx hb dX3_grants_142 (by decide) ?_
              refine lv_iload hx hb dX3_grants_143 (lv_at hl 6 rfl) ?_
              refine lv_iload_n hx hb dX3_grants_145 rfl (lv_at hl 10 rfl) ?_
              refine n_isub hx hb dX3_grants_146 rfl ?_
              refine n_mmax hx hb (hml.trans hl.1.symm) hX hown kw738 kStMax kInMath kCdMax ⟨Nat.le_of_ble_eq_true rfl, Nat.le_of_ble_eq_true rfl⟩ ⟨Nat.le_of_ble_eq_true rfl, Nat.le_of_ble_eq_true rfl⟩ dX3_grants_147 (nI_max0 (by omega) (by omega)) ?_
              refine lv_istore (lv' := [(7, .int (nI (bb - sz))), (6, .int (nI (dd - (sz - bb)))), (12, .int (nI k)), (11, .int (nI cn)), (10, .int (nI x)), (9, .int (nI r)), (8, .int (nI hh)), (5, .int (nI (σ 8 j))), (0, .ref (Ω 0)), (1, .int (nI j)), (2, .int (nI sz)), (3, .int (nI nn)), (4, .int (nI fl))]) hx hb dX3_grants_150 hl (by decide) rfl (fun ls hl => ?_)
              refine lv_iconst (v := nI 0) hx hb dX3_grants_152 (by decide) ?_
              refine lv_iload hx hb dX3_grants_153 (lv_at hl 5 rfl) ?_
              refine lv_iconst (v := nI 1) hx hb dX3_grants_155 (by decide) ?_
              refine n_isub hx hb dX3_grants_156 rfl ?_
              refine n_mmax hx hb (hml.trans hl.1.symm) hX hown kw738 kStMax kInMath kCdMax ⟨Nat.le_of_ble_eq_true rfl, Nat.le_of_ble_eq_true rfl⟩ ⟨Nat.le_of_ble_eq_true rfl, Nat.le_of_ble_eq_true rfl⟩ dX3_grants_157 (nI_max0 (by omega) (by omega)) ?_
              refine lv_istore (lv' := [(9, .int (nI (r - 1))), (7, .int (nI (bb - sz))), (6, .int (nI (dd - (sz - bb)))), (12, .int (nI k)), (11, .int (nI cn)), (10, .int (nI x)), (8, .int (nI hh)), (5, .int (nI (σ 8 j))), (0, .ref (Ω 0)), (1, .int (nI j)), (2, .int (nI sz)), (3, .int (nI nn)), (4, .int (nI fl))]) hx hb dX3_grants_160 hl (by decide) rfl (fun ls hl => ?_)
              refine lv_iinc (v := nI (cn + 1)) (lv' := [(11, .int (nI (cn + 1))), (9, .int (nI (r - 1))), (7, .int (nI (bb - sz))), (6, .int (nI (dd - (sz - bb)))), (12, .int (nI k)), (10, .int (nI x)), (8, .int (nI hh)), (5, .int (nI (σ 8 j))), (0, .ref (Ω 0)), (1, .int (nI j)), (2, .int (nI sz)), (3, .int (nI nn)), (4, .int (nI fl))]) hx hb dX3_grants_162 hl (k := 4) rfl (nI_inc _) (by decide) rfl (fun ls hl => ?_)
              refine lv_goto (tgt := 217) hx hb dX3_grants_165 (by decide) ?_
              refine lv_iinc (v := nI (k + 1)) (lv' := [(12, .int (nI (k + 1))), (11, .int (nI (cn + 1))), (9, .int (nI (r - 1))), (7, .int (nI (bb - sz))), (6, .int (nI (dd - (sz - bb)))), (10, .int (nI x)), (8, .int (nI hh)), (5, .int (nI (σ 8 j))), (0, .ref (Ω 0)), (1, .int (nI j)), (2, .int (nI sz)), (3, .int (nI nn)), (4, .int (nI fl))]) hx hb dX3_grants_217 hl (k := 4) rfl (nI_inc _) (by decide) rfl (fun ls hl => ?_)
              refine lv_goto (tgt := 55) hx hb dX3_grants_220 (by decide) ?_
              rw [show nn - k = (nn - (k + 1)) + 1 by omega, gr_y (by omega) (by omega)] at hv1
              refine ih (k + 1) (cn + 1) (dd - (sz - bb)) (bb - sz) hh (r - 1) x H locs ls (by omega) (by omega) (by omega) (by omega) (by omega) (by omega) (by omega) (by omega) (by omega) hX ?_
              exact lv_sub hl [0, 1, 5, 2, 6, 3, 4, 7, 8, 9, 10, 11, 12] rfl
        refine lv_iload hx hb dX3_grants_61 (lv_at hl 0 rfl) ?_
        refine n_if_le (tgt := 115) hx hb (by omega) dX3_grants_63 (by decide) (fun c_8 => ?_) (fun c_8 => ?_)
        · skip
          have hv2 : cn + twc sz (σ 5 (σ 8 j)) fl (σ 9 j) (σ 0 0) (nn - k) k d b h r x = tws σ j sz nn fl := by simpa only [mG, mB, mH, if_pos (show k = 0 by omega)] using hv
          exact hmid d b h _ _ ls (by omega) (by omega) (by omega) hv2 hX (lv_sub hl [0, 1, 2, 3, 4, 5, 6, 7, 8, 9, 10, 11, 12] rfl)
        · skip
          refine lv_aload_n hx hb dX3_grants_66 rfl (lv_at hl 8 rfl) ?_
          refine gX3_6 hx hb hX hown r0 kw635 dX3_grants_67 ?_
          refine lv_iload hx hb dX3_grants_70 (lv_at hl 7 rfl) ?_
          refine n_iald hx hb hX r5 (by omega) (by omega) dX3_grants_72 ?_
          refine lv_iload hx hb dX3_grants_73 (lv_at hl 6 rfl) ?_
          refine lv_iload hx hb dX3_grants_75 (lv_at hl 12 rfl) ?_
          refine n_iadd hx hb dX3_grants_77 (nI_add _ _) ?_
          refine n_mmin hx hb (hml.trans hl.1.symm) hX hown kw737 kStMin kInMath kCdMin ⟨Nat.le_of_ble_eq_true rfl, Nat.le_of_ble_eq_true rfl⟩ ⟨Nat.le_of_ble_eq_true rfl, Nat.le_of_ble_eq_true rfl⟩ dX3_grants_78 (nI_min (by omega) (by omega)) ?_
          refine lv_istore (lv' := [(6, .int (nI (min (σ 5 (σ 8 j)) (d + fl)))), (12, .int (nI k)), (11, .int (nI cn)), (10, .int (nI x)), (9, .int (nI r)), (8, .int (nI h)), (7, .int (nI b)), (5, .int (nI (σ 8 j))), (0, .ref (Ω 0)), (1, .int (nI j)), (2, .int (nI sz)), (3, .int (nI nn)), (4, .int (nI fl))]) hx hb dX3_grants_81 hl (by decide) rfl (fun ls hl => ?_)
          refine lv_iconst (v := nI 0) hx hb dX3_grants_83 (by decide) ?_
          refine lv_iload hx hb dX3_grants_84 (lv_at hl 5 rfl) ?_
          refine lv_iconst (v := nI 1) hx hb dX3_grants_86 (by decide) ?_
          refine n_isub hx hb dX3_grants_87 rfl ?_
          refine n_mmax hx hb (hml.trans hl.1.symm) hX hown kw738 kStMax kInMath kCdMax ⟨Nat.le_of_ble_eq_true rfl, Nat.le_of_ble_eq_true rfl⟩ ⟨Nat.le_of_ble_eq_true rfl, Nat.le_of_ble_eq_true rfl⟩ dX3_grants_88 (nI_max0 (by omega) (by omega)) ?_
          refine lv_istore (lv' := [(8, .int (nI (h - 1))), (6, .int (nI (min (σ 5 (σ 8 j)) (d + fl)))), (12, .int (nI k)), (11, .int (nI cn)), (10, .int (nI x)), (9, .int (nI r)), (7, .int (nI b)), (5, .int (nI (σ 8 j))), (0, .ref (Ω 0)), (1, .int (nI j)), (2, .int (nI sz)), (3, .int (nI nn)), (4, .int (nI fl))]) hx hb dX3_grants_91 hl (by decide) rfl (fun ls hl => ?_)
          refine lv_aload_n hx hb dX3_grants_93 rfl (lv_at hl 8 rfl) ?_
          refine gX3_3 hx hb hX hown r0 kw632 dX3_grants_94 ?_
          refine lv_iload hx hb dX3_grants_97 (lv_at hl 2 rfl) ?_
          refine n_iadd hx hb dX3_grants_99 (nI_add _ _) ?_
          refine lv_bipush (v := nI 24) hx hb dX3_grants_100 (by decide) ?_
          refine n_irem hx hb dX3_grants_102 (by decide) (pk_rem (by omega) (by decide) (by decide)) ?_
          refine n_if_ne (tgt := 115) hx hb (by omega) dX3_grants_103 (by decide) (fun c_9 => ?_) (fun c_9 => ?_)
          · skip
            have hq : ¬ (σ 0 0 + k) % 24 = 0 := by omega
            have hv2 : cn + twc sz (σ 5 (σ 8 j)) fl (σ 9 j) (σ 0 0) (nn - k) k (min (σ 5 (σ 8 j)) (d + fl)) b (h - 1) r x = tws σ j sz nn fl := by simpa only [mG, mB, mH, if_neg (show ¬ k = 0 by omega), bstH, if_neg hq] using hv
            exact hmid (min (σ 5 (σ 8 j)) (d + fl)) b (h - 1) _ _ ls (by omega) (by omega) (by omega) hv2 hX (lv_sub hl [2, 3, 4, 5, 0, 6, 1, 7, 8, 9, 10, 11, 12] rfl)
          · skip
            refine lv_aload_n hx hb dX3_grants_106 rfl (lv_at hl 8 rfl) ?_
            refine lv_iload_n hx hb dX3_grants_107 rfl (lv_at hl 9 rfl) ?_
            refine lv_iload hx hb dX3_grants_108 (lv_at hl 2 rfl) ?_
            refine w_call (w_runV (n := 2) (As := [.int (nI j), .int (nI k)]) (rest := []) hx hb hml hown hX (c_X3_burstIn l g μ H.size hM hO hj (by omega)) kw750 kw7 kw747 kw749 kp33 wn_X3_burstIn rfl r0 rfl ⟨Nat.le_of_ble_eq_true rfl, Nat.le_of_ble_eq_true rfl⟩ hl.1 rfl (Nat.le_of_ble_eq_true rfl) dX3_grants_110 ⟨Nat.le_of_ble_eq_true rfl, Nat.le_of_ble_eq_true rfl⟩) hX (fun r_12 μ_10 H locs q_11 hX hz => ?_)
            obtain ⟨rfl, e_13⟩ := q_11
            rw [e_13] at hX
            refine W.eq (g2 := F0 m 113 ls [.int (nI (bIn σ j k))]) rfl ?_
            have hbl := bIn_le (j := j) (k := k) ocb.2.2.1
            refine lv_istore (lv' := [(7, .int (nI (bIn σ j k))), (8, .int (nI (h - 1))), (6, .int (nI (min (σ 5 (σ 8 j)) (d + fl)))), (12, .int (nI k)), (11, .int (nI cn)), (10, .int (nI x)), (9, .int (nI r)), (5, .int (nI (σ 8 j))), (0, .ref (Ω 0)), (1, .int (nI j)), (2, .int (nI sz)), (3, .int (nI nn)), (4, .int (nI fl))]) hx hb dX3_grants_113 hl (by decide) rfl (fun ls hl => ?_)
            have hq : (σ 0 0 + k) % 24 = 0 := by omega
            have hq2 : bIn σ j k = bstD (σ 9 j) ((σ 0 0 + k) / 24) := if_neg (by omega)
            have hv2 : cn + twc sz (σ 5 (σ 8 j)) fl (σ 9 j) (σ 0 0) (nn - k) k (min (σ 5 (σ 8 j)) (d + fl)) (bIn σ j k) (h - 1) r x = tws σ j sz nn fl := by rw [hq2]; simpa only [mG, mB, mH, if_neg (show ¬ k = 0 by omega), bstH, if_pos hq] using hv
            exact hmid (min (σ 5 (σ 8 j)) (d + fl)) (bIn σ j k) (h - 1) _ _ ls (by omega) (by omega) (by omega) hv2 hX (lv_sub hl [3, 4, 5, 6, 1, 0, 2, 7, 8, 9, 10, 11, 12] rfl)
  exact hloop (nn + 1) 0 0 _ _ _ _ _ s.heap [] _ (by omega) (by omega) (Nat.le_refl 0) (by rw [Nat.zero_add, Nat.sub_zero]; rfl) (by omega) (by omega) (by omega) (by omega) (by omega) hX hl

set_option maxHeartbeats 4000000 in
set_option maxRecDepth 100000 in
/-- how many would have to fall -/
theorem c_X3_wanted (l : Launch) (g : wG) (μ : wMu) (zz : Nat) {Ω : Nat → Nat} {σ : sSt} {th : Nat} (hM : mD g Ω th σ μ) (hO : sOk σ) {j sz : Nat} (hj : j < σ 4 0) (h1 : 1 ≤ sz) (h2 : sz ≤ 20) : wMet l yX3_wanted cX3_wanted 4 (some .int) 3 0 0 75 g [.ref (Ω 0), .int (nI j), .int (nI sz)] μ zz (fun r μ' => r = some (.int (wtd σ j sz 21 0)) ∧ μ' = μ) := by
  refine wMet.of (by decide) (Nat.le_of_ble_eq_true rfl) ?_
  intro p e s m below meth c ls hx hb hr hml hown hlocks hin hl hsz hX
  have hl : lv_has ls 4 [(0, .ref (Ω 0)), (1, .int (nI j)), (2, .int (nI sz))] := hl
  obtain ⟨r0, r5, r6, r7, r8, r9, r10, r11, r12, r13, hD⟩ := id hM
  obtain ⟨o1, o2, o3, o4, o5, o6, o7⟩ := id hO
  have ocb := o4 j hj
  have owb := o3 _ ocb.1
  refine lv_iconst (v := nI 0) hx hb dX3_wanted_0 (by decide) ?_
  refine lv_istore_n (lv' := [(3, .int (nI 0)), (0, .ref (Ω 0)), (1, .int (nI j)), (2, .int (nI sz))]) hx hb dX3_wanted_1 rfl hl (by decide) rfl (fun ls hl => ?_)
  have hloop : ∀ (n : Nat) (k : Nat) (H : Heap) (locs : List Loc) (ls : Array Slot), 21 < k + n → k ≤ 21 → wtd σ j sz (21 - k) k = wtd σ j sz 21 0 → wX g (wA μ zz) s H locs μ → lv_has ls 4 [(3, .int (nI k)), (0, .ref (Ω 0)), (1, .int (nI j)), (2, .int (nI sz))] → W p l e ({ frames := 3, cells := 0, slots := 0, locals := 75 } : Room) s m ([.ref (Ω 0), .int (nI j), .int (nI sz)] : List Value).toArray below meth c H locs 0 0 (MQ below (wQc g μ zz (fun r μ' => r = some (.int (wtd σ j sz 21 0)) ∧ μ' = μ)) ([.ref (Ω 0), .int (nI j), .int (nI sz)] : List Value).toArray s 0 0 (wA μ zz)) (F0 m 2 ls []) := by
    intro n
    induction n with
    | zero => intro k H locs ls hn hk hv hX hl; exact absurd hn (by omega)
    | succ n ih =>
      intro k H locs ls hn hk hv hX hl
      refine lv_iload_n hx hb dX3_wanted_2 rfl (lv_at hl 0 rfl) ?_
      refine lv_bipush (v := nI 20) hx hb dX3_wanted_3 (by decide) ?_
      refine n_gt (tgt := 30) hx hb (by omega) (by omega) dX3_wanted_5 (by decide) (fun c_1 => ?_) (fun c_1 => ?_)
      · skip
        refine lv_iconst (v := (-1 : Int32)) hx hb dX3_wanted_30 (by decide) ?_
        exact w_iret hx hb hr hlocks hX ⟨by rw [← hv, show k = 21 by omega]; rfl, rfl⟩ ⟨Nat.le_of_ble_eq_true rfl, Nat.le_of_ble_eq_true rfl⟩ dX3_wanted_31
      · skip
        refine lv_aload_n hx hb dX3_wanted_8 rfl (lv_at hl 1 rfl) ?_
        refine lv_iload_n hx hb dX3_wanted_9 rfl (lv_at hl 2 rfl) ?_
        refine lv_iload_n hx hb dX3_wanted_10 rfl (lv_at hl 3 rfl) ?_
        refine lv_bipush (v := nI 24) hx hb dX3_wanted_11 (by decide) ?_
        refine lv_iload_n hx hb dX3_wanted_13 rfl (lv_at hl 0 rfl) ?_
        refine w_call (w_runV (n := 4) (As := [.int (nI j), .int (nI sz), .int (nI 24), .int (nI k)]) (rest := []) hx hb hml hown hX (c_X3_grants l g μ H.size hM hO hj h1 h2 (by omega) (by omega)) kw854 kw7 kw851 kw853 kp41 wn_X3_grants rfl r0 rfl ⟨Nat.le_of_ble_eq_true rfl, Nat.le_of_ble_eq_true rfl⟩ hl.1 rfl (Nat.le_of_ble_eq_true rfl) dX3_wanted_14 ⟨Nat.le_of_ble_eq_true rfl, Nat.le_of_ble_eq_true rfl⟩) hX (fun r_4 μ_2 H locs q_3 hX hz => ?_)
        obtain ⟨rfl, e_5⟩ := q_3
        rw [e_5] at hX
        refine W.eq (g2 := F0 m 17 ls [.int (nI (tws σ j sz 24 k))]) rfl ?_
        have htw := tws_le σ j sz 24 k
        refine lv_bipush (v := nI 24) hx hb dX3_wanted_17 (by decide) ?_
        refine n_ne (tgt := 24) hx hb (by omega) (by omega) dX3_wanted_19 (by decide) (fun c_6 => ?_) (fun c_6 => ?_)
        · skip
          refine lv_iinc (v := nI (k + 1)) (lv' := [(3, .int (nI (k + 1))), (0, .ref (Ω 0)), (1, .int (nI j)), (2, .int (nI sz))]) hx hb dX3_wanted_24 hl (k := 0) rfl (nI_inc _) (by decide) rfl (fun ls hl => ?_)
          refine lv_goto (tgt := 2) hx hb dX3_wanted_27 (by decide) ?_
          refine ih (k + 1) H locs ls (by omega) (by omega) (by rw [← hv, show 21 - k = (21 - (k + 1)) + 1 by omega]; simp only [wtd, if_neg c_6]) hX ?_
          exact lv_sub hl [0, 1, 2, 3] rfl
        · skip
          refine lv_iload_n hx hb dX3_wanted_22 rfl (lv_at hl 0 rfl) ?_
          exact w_iret hx hb hr hlocks hX ⟨by rw [← hv, show 21 - k = (20 - k) + 1 by omega]; simp only [wtd]; rw [if_pos (by omega)], rfl⟩ ⟨Nat.le_of_ble_eq_true rfl, Nat.le_of_ble_eq_true rfl⟩ dX3_wanted_23
  exact hloop 22 0 s.heap [] ls (by omega) (by omega) rfl hX hl

theorem ufl_tab : ∀ lk, lk < 61 → ∀ fl, fl < 10 → ufl lk fl 101 0 = if lk = 0 then nI 0 else if fl = 0 then -1 else nI ((lk + fl - 1) / fl) := by decide +kernel
set_option maxHeartbeats 4000000 in
set_option maxRecDepth 100000 in
/-- when it is full -/
theorem c_X3_untilFull (l : Launch) (g : wG) (μ : wMu) (zz : Nat) {Ω : Nat → Nat} {σ : sSt} {th : Nat} (hM : mD g Ω th σ μ) (hO : sOk σ) {i : Nat} (hi : i < σ 3 0) : wMet l yX3_untilFull cX3_untilFull 3 (some .int) 0 0 0 0 g [.ref (Ω 0), .int (nI i)] μ zz (fun r μ' => r = some (.int (vFul σ i)) ∧ μ' = μ) := by
  refine wMet.of (by decide) (Nat.le_of_ble_eq_true rfl) ?_
  intro p e s m below meth c ls hx hb hr hml hown hlocks hin hl hsz hX
  have hl : lv_has ls 3 [(0, .ref (Ω 0)), (1, .int (nI i))] := hl
  obtain ⟨r0, r5, r6, r7, r8, r9, r10, r11, r12, r13, hD⟩ := id hM
  obtain ⟨o1, o2, o3, o4, o5, o6, o7⟩ := id hO
  have owb := o3 i hi
  refine lv_aload_n hx hb dX3_untilFull_0 rfl (lv_at hl 0 rfl) ?_
  refine gX3_6 hx hb hX hown r0 kw635 dX3_untilFull_1 ?_
  refine lv_iload_n hx hb dX3_untilFull_4 rfl (lv_at hl 1 rfl) ?_
  refine n_iald hx hb hX r5 (by omega) (by omega) dX3_untilFull_5 ?_
  refine lv_aload_n hx hb dX3_untilFull_6 rfl (lv_at hl 0 rfl) ?_
  refine gX3_8 hx hb hX hown r0 kw637 dX3_untilFull_7 ?_
  refine lv_iload_n hx hb dX3_untilFull_10 rfl (lv_at hl 1 rfl) ?_
  refine n_iald hx hb hX r7 (by omega) (by omega) dX3_untilFull_11 ?_
  refine n_isub hx hb dX3_untilFull_12 (pk_sub (by omega)) ?_
  refine lv_istore_n (lv' := [(2, .int (nI ((σ 5 i) - (σ 7 i)))), (0, .ref (Ω 0)), (1, .int (nI i))]) hx hb dX3_untilFull_13 rfl hl (by decide) rfl (fun ls hl => ?_)
  refine lv_iload_n hx hb dX3_untilFull_14 rfl (lv_at hl 0 rfl) ?_
  refine n_if_ne (tgt := 20) hx hb (by omega) dX3_untilFull_15 (by decide) (fun c_1 => ?_) (fun c_1 => ?_)
  · skip
    refine lv_aload_n hx hb dX3_untilFull_20 rfl (lv_at hl 1 rfl) ?_
    refine gX3_7 hx hb hX hown r0 kw636 dX3_untilFull_21 ?_
    refine lv_iload_n hx hb dX3_untilFull_24 rfl (lv_at hl 2 rfl) ?_
    refine n_iald hx hb hX r6 (by omega) (by omega) dX3_untilFull_25 ?_
    refine n_if_ne (tgt := 33) hx hb (by omega) dX3_untilFull_26 (by decide) (fun c_2 => ?_) (fun c_2 => ?_)
    · skip
      refine lv_iload_n hx hb dX3_untilFull_33 rfl (lv_at hl 0 rfl) ?_
      refine lv_aload_n hx hb dX3_untilFull_34 rfl (lv_at hl 1 rfl) ?_
      refine gX3_7 hx hb hX hown r0 kw636 dX3_untilFull_35 ?_
      refine lv_iload_n hx hb dX3_untilFull_38 rfl (lv_at hl 2 rfl) ?_
      refine n_iald hx hb hX r6 (by omega) (by omega) dX3_untilFull_39 ?_
      refine n_iadd hx hb dX3_untilFull_40 (nI_add _ _) ?_
      refine lv_iconst (v := nI 1) hx hb dX3_untilFull_41 (by decide) ?_
      refine n_isub hx hb dX3_untilFull_42 (pk_sub (by omega)) ?_
      refine lv_aload_n hx hb dX3_untilFull_43 rfl (lv_at hl 1 rfl) ?_
      refine gX3_7 hx hb hX hown r0 kw636 dX3_untilFull_44 ?_
      refine lv_iload_n hx hb dX3_untilFull_47 rfl (lv_at hl 2 rfl) ?_
      refine n_iald hx hb hX r6 (by omega) (by omega) dX3_untilFull_48 ?_
      refine n_idiv hx hb dX3_untilFull_49 (nI_ne0 (by omega) (by omega)) (pk_div (by omega) (by omega) (by omega)) ?_
      exact w_iret hx hb hr hlocks hX ⟨by rw [vFul, ufl_tab _ (by omega) _ (by omega), if_neg (by omega), if_neg (by omega)], rfl⟩ ⟨Nat.le_of_ble_eq_true rfl, Nat.le_of_ble_eq_true rfl⟩ dX3_untilFull_50
    · skip
      refine lv_iconst (v := (-1 : Int32)) hx hb dX3_untilFull_29 (by decide) ?_
      refine lv_goto (tgt := 50) hx hb dX3_untilFull_30 (by decide) ?_
      exact w_iret hx hb hr hlocks hX ⟨by rw [vFul, ufl_tab _ (by omega) _ (by omega), if_neg (by omega), if_pos (by omega)], rfl⟩ ⟨Nat.le_of_ble_eq_true rfl, Nat.le_of_ble_eq_true rfl⟩ dX3_untilFull_50
  · skip
    refine lv_iconst (v := nI 0) hx hb dX3_untilFull_18 (by decide) ?_
    exact w_iret hx hb hr hlocks hX ⟨by rw [vFul, ufl_tab _ (by omega) _ (by omega), if_pos (by omega)], rfl⟩ ⟨Nat.le_of_ble_eq_true rfl, Nat.le_of_ble_eq_true rfl⟩ dX3_untilFull_19

theorem bV_no {σ : sSt} {sz n : Nat} (hn : n ≤ 10) : bV σ sz n = -1 ↔ bstC σ sz n = 0 := by
  have h1 := bstC_le σ sz n
  unfold bV
  by_cases h : bstC σ sz n = 0
  · rw [if_pos h]; exact ⟨fun _ => h, fun _ => rfl⟩
  · rw [if_neg h]
    constructor
    · intro z
      have z2 := congrArg Int32.toInt z
      rw [nI_toInt (by omega), show (-1 : Int32).toInt = -1 by decide] at z2
      omega
    · intro z; exact absurd z h
theorem bst_ok {σ : sSt} {sz : Nat} : ∀ n, bstC σ sz n ≠ 0 → okW σ (bstC σ sz n - 1) sz
  | 0, h => absurd rfl h
  | n + 1, h => by
    have ih := bst_ok (σ := σ) (sz := sz) n
    simp only [bstC] at h ⊢
    split
    · rename_i c; exact c.1
    · rename_i c; rw [if_neg c] at h; exact ih h
set_option maxHeartbeats 4000000 in
set_option maxRecDepth 100000 in
/-- the best one -/
theorem c_X3_best (l : Launch) (g : wG) (μ : wMu) (zz : Nat) {Ω : Nat → Nat} {σ : sSt} {th : Nat} (hM : mD g Ω th σ μ) (hO : sOk σ) {sz : Nat} (h1 : 1 ≤ sz) (h2 : sz ≤ 20) : wMet l yX3_best cX3_best 4 (some .int) 2 0 0 43 g [.ref (Ω 0), .int (nI sz)] μ zz (fun r μ' => r = some (.int (vBst σ sz)) ∧ μ' = μ) := by
  refine wMet.of (by decide) (Nat.le_of_ble_eq_true rfl) ?_
  intro p e s m below meth c ls hx hb hr hml hown hlocks hin hl hsz hX
  have hl : lv_has ls 4 [(0, .ref (Ω 0)), (1, .int (nI sz))] := hl
  obtain ⟨r0, r5, r6, r7, r8, r9, r10, r11, r12, r13, hD⟩ := id hM
  obtain ⟨o1, o2, o3, o4, o5, o6, o7⟩ := id hO
  refine lv_iconst (v := (-1 : Int32)) hx hb dX3_best_0 (by decide) ?_
  refine lv_istore_n (lv' := [(2, .int (-1 : Int32)), (0, .ref (Ω 0)), (1, .int (nI sz))]) hx hb dX3_best_1 rfl hl (by decide) rfl (fun ls hl => ?_)
  refine lv_iconst (v := nI 0) hx hb dX3_best_2 (by decide) ?_
  refine lv_istore_n (lv' := [(3, .int (nI 0)), (2, .int (-1 : Int32)), (0, .ref (Ω 0)), (1, .int (nI sz))]) hx hb dX3_best_3 rfl hl (by decide) rfl (fun ls hl => ?_)
  have hloop : ∀ (n : Nat) (i : Nat) (H : Heap) (locs : List Loc) (ls : Array Slot), σ 4 0 < i + n → i ≤ σ 4 0 → wX g (wA μ zz) s H locs μ → lv_has ls 4 [(3, .int (nI i)), (2, .int (bV σ sz i)), (0, .ref (Ω 0)), (1, .int (nI sz))] → W p l e ({ frames := 2, cells := 0, slots := 0, locals := 43 } : Room) s m ([.ref (Ω 0), .int (nI sz)] : List Value).toArray below meth c H locs 0 0 (MQ below (wQc g μ zz (fun r μ' => r = some (.int (vBst σ sz)) ∧ μ' = μ)) ([.ref (Ω 0), .int (nI sz)] : List Value).toArray s 0 0 (wA μ zz)) (F0 m 4 ls []) := by
    intro n
    induction n with
    | zero => intro i H locs ls hn hi hX hl; exact absurd hn (by omega)
    | succ n ih =>
      intro i H locs ls hn hi hX hl
      refine lv_iload_n hx hb dX3_best_4 rfl (lv_at hl 0 rfl) ?_
      refine lv_aload_n hx hb dX3_best_5 rfl (lv_at hl 2 rfl) ?_
      refine gX3_2 hx hb hX hown r0 kw631 dX3_best_6 ?_
      refine n_ge (tgt := 49) hx hb (by omega) (by omega) dX3_best_9 (by decide) (fun c_1 => ?_) (fun c_1 => ?_)
      · skip
        refine lv_iload_n hx hb dX3_best_49 rfl (lv_at hl 1 rfl) ?_
        exact w_iret hx hb hr hlocks hX ⟨by rw [show i = σ 4 0 by omega]; rfl, rfl⟩ ⟨Nat.le_of_ble_eq_true rfl, Nat.le_of_ble_eq_true rfl⟩ dX3_best_50
      · skip
        refine lv_aload_n hx hb dX3_best_12 rfl (lv_at hl 2 rfl) ?_
        refine lv_iload_n hx hb dX3_best_13 rfl (lv_at hl 0 rfl) ?_
        refine lv_iload_n hx hb dX3_best_14 rfl (lv_at hl 3 rfl) ?_
        refine w_call (w_runV (n := 2) (As := [.int (nI i), .int (nI sz)]) (rest := []) hx hb hml hown hX (c_X3_isGranted l g μ H.size hM hO (show i < σ 4 0 by omega) h2) kw728 kw7 kw725 kw727 kp30 wn_X3_isGranted rfl r0 rfl ⟨Nat.le_of_ble_eq_true rfl, Nat.le_of_ble_eq_true rfl⟩ hl.1 rfl (Nat.le_of_ble_eq_true rfl) dX3_best_15 ⟨Nat.le_of_ble_eq_true rfl, Nat.le_of_ble_eq_true rfl⟩) hX (fun r_4 μ_2 H locs q_3 hX hz => ?_)
        obtain ⟨q_6, e_5⟩ := q_3
        rw [e_5] at hX
        obtain ⟨rfl, p_7⟩ | ⟨rfl, p_8⟩ := q_6
        · skip
          refine W.eq (g2 := F0 m 18 ls [.int (nI 1)]) rfl ?_
          refine n_if_eq (tgt := 43) hx hb (by omega) dX3_best_18 (by decide) (fun h => absurd h (by omega)) (fun _ => ?_)
          refine lv_iload_n hx hb dX3_best_21 rfl (lv_at hl 1 rfl) ?_
          refine lv_iconst (v := (-1 : Int32)) hx hb dX3_best_22 (by decide) ?_
          refine lv_icmp_eq (tgt := 41) hx hb dX3_best_23 (by decide) (fun c_9 => ?_) (fun c_9 => ?_)
          · skip
            rw [bV_no (by omega)] at c_9
            refine lv_iload_n hx hb dX3_best_41 rfl (lv_at hl 0 rfl) ?_
            refine lv_istore_n (lv' := [(2, .int (nI i)), (3, .int (nI i)), (0, .ref (Ω 0)), (1, .int (nI sz))]) hx hb dX3_best_42 rfl hl (by decide) rfl (fun ls hl => ?_)
            refine lv_iinc (v := nI (i + 1)) (lv' := [(3, .int (nI (i + 1))), (2, .int (nI i)), (0, .ref (Ω 0)), (1, .int (nI sz))]) hx hb dX3_best_43 hl (k := 1) rfl (nI_inc _) (by decide) rfl (fun ls hl => ?_)
            refine lv_goto (tgt := 4) hx hb dX3_best_46 (by decide) ?_
            have hb1 : bstC σ sz (i + 1) = i + 1 := by simp only [bstC]; exact if_pos ⟨p_7, Or.inl c_9⟩
            refine ih (i + 1) H locs ls (by omega) (by omega) hX ?_
            rw [show bV σ sz (i + 1) = nI i by simp only [bV, hb1]; rw [if_neg (by omega), Nat.add_sub_cancel]]
            exact lv_sub hl [0, 1, 2, 3] rfl
          · skip
            rw [bV_no (by omega)] at c_9
            have hb1 := bst_ok i c_9
            have hb2 : bstC σ sz i - 1 < σ 4 0 := by have z1 := bstC_le σ sz i; omega
            rw [show bV σ sz i = nI (bstC σ sz i - 1) from if_neg c_9] at hl
            refine lv_aload_n hx hb dX3_best_26 rfl (lv_at hl 2 rfl) ?_
            refine lv_iload_n hx hb dX3_best_27 rfl (lv_at hl 0 rfl) ?_
            refine lv_iload_n hx hb dX3_best_28 rfl (lv_at hl 3 rfl) ?_
            refine w_call (w_runV (n := 2) (As := [.int (nI i), .int (nI sz)]) (rest := []) hx hb hml hown hX (c_X3_leaves l g μ H.size hM hO (show i < σ 4 0 by omega) h2 p_7) kw882 kw7 kw879 kw881 kp45 wn_X3_leaves rfl r0 rfl ⟨Nat.le_of_ble_eq_true rfl, Nat.le_of_ble_eq_true rfl⟩ hl.1 rfl (Nat.le_of_ble_eq_true rfl) dX3_best_29 ⟨Nat.le_of_ble_eq_true rfl, Nat.le_of_ble_eq_true rfl⟩) hX (fun r_12 μ_10 H locs q_11 hX hz => ?_)
            obtain ⟨rfl, e_13⟩ := q_11
            rw [e_13] at hX
            refine W.eq (g2 := F0 m 32 ls [.int (nI (lft σ i sz))]) rfl ?_
            have hlf : lft σ i sz ≤ 60 := by have z1 := o3 _ (o4 i (by omega)).1; unfold lft; omega
            refine lv_aload_n hx hb dX3_best_32 rfl (lv_at hl 2 rfl) ?_
            refine lv_iload_n hx hb dX3_best_33 rfl (lv_at hl 1 rfl) ?_
            refine lv_iload_n hx hb dX3_best_34 rfl (lv_at hl 3 rfl) ?_
            refine w_call (w_runV (n := 2) (As := [.int (nI (bstC σ sz i - 1)), .int (nI sz)]) (rest := [.int (nI (lft σ i sz))]) hx hb hml hown hX (c_X3_leaves l g μ H.size hM hO hb2 h2 hb1) kw882 kw7 kw879 kw881 kp45 wn_X3_leaves rfl r0 rfl ⟨Nat.le_of_ble_eq_true rfl, Nat.le_of_ble_eq_true rfl⟩ hl.1 rfl (Nat.le_of_ble_eq_true rfl) dX3_best_35 ⟨Nat.le_of_ble_eq_true rfl, Nat.le_of_ble_eq_true rfl⟩) hX (fun r_16 μ_14 H locs q_15 hX hz => ?_)
            obtain ⟨rfl, e_17⟩ := q_15
            rw [e_17] at hX
            refine W.eq (g2 := F0 m 38 ls [.int (nI (lft σ (bstC σ sz i - 1) sz)), .int (nI (lft σ i sz))]) rfl ?_
            have hlg : lft σ (bstC σ sz i - 1) sz ≤ 60 := by have z1 := o3 _ (o4 _ hb2).1; unfold lft; omega
            refine n_le (tgt := 43) hx hb (by omega) (by omega) dX3_best_38 (by decide) (fun c_18 => ?_) (fun c_18 => ?_)
            · skip
              refine lv_iinc (v := nI (i + 1)) (lv' := [(3, .int (nI (i + 1))), (2, .int (nI (bstC σ sz i - 1))), (0, .ref (Ω 0)), (1, .int (nI sz))]) hx hb dX3_best_43 hl (k := 0) rfl (nI_inc _) (by decide) rfl (fun ls hl => ?_)
              refine lv_goto (tgt := 4) hx hb dX3_best_46 (by decide) ?_
              have hb3 : bstC σ sz (i + 1) = bstC σ sz i := by simp only [bstC]; exact if_neg (fun z => z.2.elim c_9 (by omega))
              refine ih (i + 1) H locs ls (by omega) (by omega) hX ?_
              rw [show bV σ sz (i + 1) = nI (bstC σ sz i - 1) by simp only [bV, hb3]; exact if_neg c_9]
              exact lv_sub hl [0, 1, 2, 3] rfl
            · skip
              refine lv_iload_n hx hb dX3_best_41 rfl (lv_at hl 0 rfl) ?_
              refine lv_istore_n (lv' := [(2, .int (nI i)), (3, .int (nI i)), (0, .ref (Ω 0)), (1, .int (nI sz))]) hx hb dX3_best_42 rfl hl (by decide) rfl (fun ls hl => ?_)
              refine lv_iinc (v := nI (i + 1)) (lv' := [(3, .int (nI (i + 1))), (2, .int (nI i)), (0, .ref (Ω 0)), (1, .int (nI sz))]) hx hb dX3_best_43 hl (k := 1) rfl (nI_inc _) (by decide) rfl (fun ls hl => ?_)
              refine lv_goto (tgt := 4) hx hb dX3_best_46 (by decide) ?_
              have hb1 : bstC σ sz (i + 1) = i + 1 := by simp only [bstC]; exact if_pos ⟨p_7, Or.inr (by omega)⟩
              refine ih (i + 1) H locs ls (by omega) (by omega) hX ?_
              rw [show bV σ sz (i + 1) = nI i by simp only [bV, hb1]; rw [if_neg (by omega), Nat.add_sub_cancel]]
              exact lv_sub hl [0, 1, 2, 3] rfl
        · skip
          refine W.eq (g2 := F0 m 18 ls [.int (nI 0)]) rfl ?_
          refine n_if_eq (tgt := 43) hx hb (by omega) dX3_best_18 (by decide) (fun _ => ?_) (fun h => absurd h (by omega))
          refine lv_iinc (v := nI (i + 1)) (lv' := [(3, .int (nI (i + 1))), (2, .int (bV σ sz i)), (0, .ref (Ω 0)), (1, .int (nI sz))]) hx hb dX3_best_43 hl (k := 0) rfl (nI_inc _) (by decide) rfl (fun ls hl => ?_)
          refine lv_goto (tgt := 4) hx hb dX3_best_46 (by decide) ?_
          have hb3 : bstC σ sz (i + 1) = bstC σ sz i := by simp only [bstC]; exact if_neg (fun z => p_8 z.1)
          refine ih (i + 1) H locs ls (by omega) (by omega) hX ?_
          rw [show bV σ sz (i + 1) = bV σ sz i by simp only [bV, hb3]]
          exact lv_sub hl [0, 1, 2, 3] rfl
  exact hloop (σ 4 0 + 1) 0 s.heap [] ls (by omega) (by omega) hX hl

