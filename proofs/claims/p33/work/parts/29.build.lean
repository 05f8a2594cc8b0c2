def mD2 (μ μ' : wMu) : wMu := fun q => match μ q with
  | some _ => none
  | none => μ' q
theorem mD2_n {μ μ' : wMu} {q : Nat} (h : μ q = none) : mD2 μ μ' q = μ' q := by simp only [mD2, h]
theorem mD2_dj (μ μ' : wMu) : dj μ (mD2 μ μ') := fun q h => by
  cases hq : μ q with
  | none => exact absurd hq h
  | some e => simp only [mD2, hq]
theorem mD2_mU {μ μ' : wMu} (h : ∀ z e, μ z = some e → μ' z = some e) : μ' = mU μ (mD2 μ μ') := by
  funext q
  cases hq : μ q with
  | none =>
    cases hq2 : μ' q with
    | none => rw [mU_n (by rw [mD2_n hq]; exact hq2)]; exact hq.symm
    | some e => rw [mU_r (by rw [mD2_n hq]; exact hq2)]
  | some e => rw [mU_l (mD2_dj μ μ') hq]; exact h q e hq
theorem sD.zero {g : wG} {Ω : sSt} {ν ν' : wMu} (hS : sD g Ω (fun _ => 0) (fun _ _ => 0) ν) (h0 : ν' (Ω 0 0) = ν (Ω 0 0)) (h1 : ν' (Ω 1 0) = ν (Ω 1 0)) (h2 : ν' (Ω 2 0) = ν (Ω 2 0)) : sD g Ω (fun _ => 0) (fun _ _ => 0) ν' :=
  hS.chg rfl rfl (h0.trans hS.1) h1 h2 (fun i h => absurd h (Nat.not_lt_zero _)) (fun i h => absurd h (Nat.not_lt_zero _))
set_option maxHeartbeats 4000000 in
set_option maxRecDepth 100000 in
/-- what cells choose -/
theorem c_L_build (l : Launch) (g : wG) (μ : wMu) (zz : Nat) {Λ : sSt} (hF : fD g Λ none (fun _ _ => 0) μ) : wMet l yL_build cL_build 5 (some (.object "FairyDustLaw$Sim")) 10 340 3300 227 g [.ref (Λ 0 0), .ref ((gT g).1)] μ zz (fun r μ' => ∃ o2 i, r = some (.ref o2) ∧ i ≤ 41 ∧ bW g (Λ 0 0) o2 i μ') := by
  refine wMet.of (by decide) (Nat.le_of_ble_eq_true rfl) ?_
  intro p e s m below meth c ls hx hb hr hml hown hlocks hin hl hsz hX
  have hl : lv_has ls 5 [(0, .ref (Λ 0 0)), (1, .ref ((gT g).1))] := hl
  refine w_new (ci := 4) hx hb inX3 tyX3 tyX3_ok rfl hX hown kw621 kw622 kw7 dfX3 (Nat.le_of_ble_eq_true rfl) (Nat.le_of_ble_eq_true rfl) dL_build_0 (fun q_1 H hq_2 hX => ?_)
  obtain ⟨μ_3, e_4⟩ : ∃ z, z = va_up μ q_1 (some (.inr (4, [.null, .null, .int 0, .int 0, .int 0]))) := ⟨_, rfl⟩
  rw [← e_4] at hX
  have k_5 : μ_3 q_1 = some (.inr (4, [.null, .null, .int 0, .int 0, .int 0])) := by rw [e_4]; exact va_up_self _ _ _
  refine W.eq (g2 := F0 m 3 ls [.ref q_1]) rfl ?_
  refine lv_dup hx hb dL_build_3 rfl ?_
  refine w_call (w_runIN (n := 0) (As := []) (rest := [.ref q_1]) hx hb hml hown hX (c_X3_init l g μ_3 H.size k_5) kw625 kw7 kw623 kw624 rfl wn_X3_init rfl ⟨Nat.le_of_ble_eq_true rfl, Nat.le_of_ble_eq_true rfl⟩ hl.1 rfl (Nat.le_of_ble_eq_true rfl) dL_build_4 ⟨Nat.le_of_ble_eq_true rfl, Nat.le_of_ble_eq_true rfl⟩) hX (fun r_8 μ_6 H locs q_7 hX hz => ?_)
  obtain ⟨rfl, ⟨Ω, hΩ, hn1, hn2, hS⟩, hmo⟩ := q_7
  have nq : ∀ z e, μ z = some e → z ≠ q_1 := fun z e h c => by rw [c, hq_2] at h; cases h
  have hall : ∀ z e, μ z = some e → μ_6 z = some e := fun z e h => hmo z e (nq z e h) ((congrFun e_4 z).trans ((va_up_ne _ _ (nq z e h)).trans h))
  have n1 : μ (Ω 1 0) = none := by
    cases hh : μ (Ω 1 0) with
    | none => rfl
    | some e => have h9 := (congrFun e_4 _).trans ((va_up_ne _ _ (nq _ _ hh)).trans hh); rw [hn1] at h9; cases h9
  have n2 : μ (Ω 2 0) = none := by
    cases hh : μ (Ω 2 0) with
    | none => rfl
    | some e => have h9 := (congrFun e_4 _).trans ((va_up_ne _ _ (nq _ _ hh)).trans hh); rw [hn2] at h9; cases h9
  have hW : bW g (Λ 0 0) q_1 0 μ_6 := ⟨Λ, Ω, _, _, μ, mD2 μ μ_6, mD2_mU hall, mD2_dj _ _, hF, hS.zero (mD2_n (by rw [hΩ]; exact hq_2)) (mD2_n n1) (mD2_n n2), rfl, hΩ, pG.zero⟩
  refine W.eq (g2 := F0 m 7 ls [.ref q_1]) rfl ?_
  refine lv_astore_n (lv' := [(2, .ref q_1), (0, .ref (Λ 0 0)), (1, .ref ((gT g).1))]) hx hb dL_build_7 rfl hl (by decide) rfl (fun ls hl => ?_)
  refine lv_bipush (v := nI 6) hx hb dL_build_8 (by decide) ?_
  refine lv_aload_n hx hb dL_build_10 rfl (lv_at hl 2 rfl) ?_
  refine lv_iconst (v := nI 0) hx hb dL_build_11 (by decide) ?_
  refine w_call (w_runS (n := 2) (As := [.ref ((gT g).1), .int (nI 0)]) (rest := [.int (nI 6)]) hx hb hml hown hX (c_L_cell l g μ_6 H.size (by omega)) kw513 kw0 kw511 kw512 wn_L_cell rfl ⟨Nat.le_of_ble_eq_true rfl, Nat.le_of_ble_eq_true rfl⟩ hl.1 rfl (Nat.le_of_ble_eq_true rfl) dL_build_12 ⟨Nat.le_of_ble_eq_true rfl, Nat.le_of_ble_eq_true rfl⟩) hX (fun r_12 μ_10 H locs q_11 hX hz => ?_)
  obtain ⟨v_9, rfl, e_13⟩ := q_11
  rw [e_13] at hX
  refine W.eq (g2 := F0 m 15 ls [.int v_9, .int (nI 6)]) rfl ?_
  refine lv_bipush (v := nI 36) hx hb dL_build_15 (by decide) ?_
  refine w_call (w_runS (n := 2) (As := [.int v_9, .int (nI 36)]) (rest := [.int (nI 6)]) hx hb hml hown hX (c_L_below l g μ_6 H.size (by omega) (by omega)) kw509 kw0 kw507 kw508 wn_L_below rfl ⟨Nat.le_of_ble_eq_true rfl, Nat.le_of_ble_eq_true rfl⟩ hl.1 rfl (Nat.le_of_ble_eq_true rfl) dL_build_17 ⟨Nat.le_of_ble_eq_true rfl, Nat.le_of_ble_eq_true rfl⟩) hX (fun r_17 μ_15 H locs q_16 hX hz => ?_)
  obtain ⟨b_14, hb_14, rfl, e_18⟩ := q_16
  rw [e_18] at hX
  refine W.eq (g2 := F0 m 20 ls [.int (nI b_14), .int (nI 6)]) rfl ?_
  refine n_iadd hx hb dL_build_20 (nI_add _ _) ?_
  refine lv_istore_n (lv' := [(3, .int (nI (6 + b_14))), (2, .ref q_1), (0, .ref (Λ 0 0)), (1, .ref ((gT g).1))]) hx hb dL_build_21 rfl hl (by decide) rfl (fun ls hl => ?_)
  refine lv_iconst (v := nI 0) hx hb dL_build_22 (by decide) ?_
  refine lv_istore (lv' := [(4, .int (nI 0)), (3, .int (nI (6 + b_14))), (2, .ref q_1), (0, .ref (Λ 0 0)), (1, .ref ((gT g).1))]) hx hb dL_build_23 hl (by decide) rfl (fun ls hl => ?_)
  have hloop : ∀ (n : Nat) (k : Nat) (ν : wMu) (H : Heap) (locs : List Loc) (ls : Array Slot), 6 + b_14 < k + n → k ≤ 6 + b_14 → bW g (Λ 0 0) q_1 k ν → wX g (wA μ zz) s H locs ν → lv_has ls 5 [(4, .int (nI k)), (3, .int (nI (6 + b_14))), (2, .ref q_1), (0, .ref (Λ 0 0)), (1, .ref ((gT g).1))] → W p l e ({ frames := 10, cells := 340, slots := 3300, locals := 227 } : Room) s m ([.ref (Λ 0 0), .ref ((gT g).1)] : List Value).toArray below meth c H locs (3 + 8 * k) (5 + 80 * k) (MQ below (wQc g μ zz (fun r μ' => ∃ o2 i, r = some (.ref o2) ∧ i ≤ 41 ∧ bW g (Λ 0 0) o2 i μ')) ([.ref (Λ 0 0), .ref ((gT g).1)] : List Value).toArray s 340 3300 (wA μ zz)) (F0 m 25 ls []) := by
    intro n
    induction n with
    | zero => intro k ν H locs ls hn hk hW hX hl; exact absurd hn (by omega)
    | succ n ih =>
      intro k ν H locs ls hn hk hW hX hl
      refine lv_iload hx hb dL_build_25 (lv_at hl 0 rfl) ?_
      refine lv_iload_n hx hb dL_build_27 rfl (lv_at hl 1 rfl) ?_
      refine n_ge (tgt := 72) hx hb (by omega) (by omega) dL_build_28 (by decide) (fun c_19 => ?_) (fun c_19 => ?_)
      · skip
        refine lv_aload_n hx hb dL_build_72 rfl (lv_at hl 2 rfl) ?_
        exact w_aret hx hb hr (Or.inl ⟨_, rfl⟩) hlocks hX ⟨_, _, rfl, by omega, hW⟩ ⟨(show 3 + 8 * k ≤ 340 by omega), (show 5 + 80 * k ≤ 3300 by omega)⟩ dL_build_73
      · skip
        refine lv_aload_n hx hb dL_build_31 rfl (lv_at hl 3 rfl) ?_
        refine lv_aload_n hx hb dL_build_32 rfl (lv_at hl 2 rfl) ?_
        refine lv_aload_n hx hb dL_build_33 rfl (lv_at hl 4 rfl) ?_
        refine lv_iconst (v := nI 1) hx hb dL_build_34 (by decide) ?_
        refine lv_iload hx hb dL_build_35 (lv_at hl 0 rfl) ?_
        refine lv_bipush (v := nI 15) hx hb dL_build_37 (by decide) ?_
        refine n_irem hx hb dL_build_39 (by decide) (pk_rem (by omega) (by decide) (by decide)) ?_
        refine n_iadd hx hb dL_build_40 (nI_add _ _) ?_
        refine w_call (w_runS (n := 2) (As := [.ref ((gT g).1), .int (nI (1 + (k % 15)))]) (rest := [.ref q_1, .ref (Λ 0 0)]) hx hb hml hown hX (c_L_cell l g ν H.size (by omega)) kw513 kw0 kw511 kw512 wn_L_cell rfl ⟨Nat.le_of_ble_eq_true rfl, Nat.le_of_ble_eq_true rfl⟩ hl.1 rfl (Nat.le_of_ble_eq_true rfl) dL_build_41 ⟨(show 3 + 8 * k + 0 ≤ 340 by omega), (show 5 + 80 * k + 0 ≤ 3300 by omega)⟩) hX (fun r_23 μ_21 H locs q_22 hX hz => ?_)
        obtain ⟨v_20, rfl, e_24⟩ := q_22
        rw [e_24] at hX
        refine W.eq (g2 := F0 m 44 ls [.int v_20, .ref q_1, .ref (Λ 0 0)]) rfl ?_
        refine lv_iload hx hb dL_build_44 (lv_at hl 0 rfl) ?_
        refine lv_bipush (v := nI 15) hx hb dL_build_46 (by decide) ?_
        refine n_idiv hx hb dL_build_48 (by decide) (pk_div (by omega) (by decide) (by decide)) ?_
        refine lv_iconst (v := nI 3) hx hb dL_build_49 (by decide) ?_
        refine n_imul hx hb dL_build_50 (pk_mul _ _) ?_
        refine lv_ishr hx hb dL_build_51 ?_
        refine lv_topi (fun y_25 _ => ?_)
        refine lv_bipush (v := nI 41) hx hb dL_build_52 (by decide) ?_
        refine lv_iload hx hb dL_build_54 (lv_at hl 0 rfl) ?_
        refine n_imul hx hb dL_build_56 (pk_mul _ _) ?_
        refine n_iadd hx hb dL_build_57 rfl ?_
        refine lv_topi (fun y_26 _ => ?_)
        refine w_call (w_runS (n := 3) (As := [.ref (Λ 0 0), .ref q_1, .int y_26]) (rest := []) hx hb hml hown hX (c_L_act l g ν H.size hW (by omega)) kw517 kw0 kw515 kw516 wn_L_act rfl ⟨Nat.le_of_ble_eq_true rfl, Nat.le_of_ble_eq_true rfl⟩ hl.1 rfl (Nat.le_of_ble_eq_true rfl) dL_build_58 ⟨(show 3 + 8 * k + 0 + 8 ≤ 340 by omega), (show 5 + 80 * k + 0 + 80 ≤ 3300 by omega)⟩) hX (fun r_29 μ_27 H locs q_28 hX hz => ?_)
        obtain ⟨rfl, hW2⟩ := q_28
        refine W.eq (g2 := F0 m 61 ls [.int (nI 1)]) rfl ?_
        refine n_if_ne (tgt := 66) hx hb (by omega) dL_build_61 (by decide) (fun _ => ?_) (fun h => absurd h (by omega))
        refine lv_iinc (v := nI (k + 1)) (lv' := [(4, .int (nI (k + 1))), (3, .int (nI (6 + b_14))), (2, .ref q_1), (0, .ref (Λ 0 0)), (1, .ref ((gT g).1))]) hx hb dL_build_66 hl (k := 0) rfl (nI_inc _) (by decide) rfl (fun ls hl => ?_)
        refine lv_goto (tgt := 25) hx hb dL_build_69 (by decide) ?_
        refine W.widen (k := 3 + 8 * (k + 1)) (n := 5 + 80 * (k + 1)) (by omega) (by omega) ?_
        refine ih (k + 1) _ H locs ls (by omega) (by omega) hW2 hX ?_
        exact lv_sub hl [0, 1, 2, 3, 4] rfl
  exact hloop (6 + b_14 + 1) 0 _ H _ _ (by omega) (by omega) hW hX hl

