theorem dfX3 : ∀ j, j < 5 → defaultValue (tyX3 j) = vp_V [.null, .null, .int 0, .int 0, .int 0] j := by
  intro j hj
  rcases j with _ | _ | _ | _ | _ | j
  all_goals first | rfl | omega
set_option maxHeartbeats 4000000 in
set_option maxRecDepth 100000 in
/-- whether it is its birthday -/
theorem c_X3_isBirthday (l : Launch) (g : wG) (μ : wMu) (zz : Nat) {Ω σ : sSt} {τ : Nat → Nat} (hS : sD g Ω τ σ μ) (hO : sOk σ) {j : Nat} (hj : j < σ 4 0) : wMet l yX3_isBirthday cX3_isBirthday 2 (some .boolean) 0 0 0 0 g [.ref (Ω 0 0), .int (nI j)] μ zz (fun r μ' => ((r = some (.int (nI 1)) ∧ σ 0 0 / 24 % 30 = σ 9 j) ∨ (r = some (.int (nI 0)) ∧ σ 0 0 / 24 % 30 ≠ σ 9 j)) ∧ μ' = μ) := by
  refine wMet.of (by decide) (Nat.le_of_ble_eq_true rfl) ?_
  intro p e s m below meth c ls hx hb hr hml hown hlocks hin hl hsz hX
  have hl : lv_has ls 2 [(0, .ref (Ω 0 0)), (1, .int (nI j))] := hl
  obtain ⟨s1, ⟨fw, s2, s2'⟩, ⟨fc, s3, s3'⟩, s4, s5, s6, s7⟩ := id hS
  obtain ⟨o1, o2, o3, o4, o5, o6, o7⟩ := id hO
  refine lv_aload_n hx hb dX3_isBirthday_0 rfl (lv_at hl 0 rfl) ?_
  refine gX3_2 hx hb hX hown s1 kw631 dX3_isBirthday_1 ?_
  refine lv_bipush (v := nI 24) hx hb dX3_isBirthday_4 (by decide) ?_
  refine n_idiv hx hb dX3_isBirthday_6 (by decide) (pk_div (by omega) (by decide) (by decide)) ?_
  refine lv_bipush (v := nI 30) hx hb dX3_isBirthday_7 (by decide) ?_
  refine n_irem hx hb dX3_isBirthday_9 (by decide) (pk_rem (by omega) (by decide) (by decide)) ?_
  refine lv_aload_n hx hb dX3_isBirthday_10 rfl (lv_at hl 0 rfl) ?_
  refine gX3_1 hx hb hX hown s1 kw629 dX3_isBirthday_11 ?_
  have ocb := o4 j hj
  refine lv_iload_n hx hb dX3_isBirthday_14 rfl (lv_at hl 1 rfl) ?_
  refine n_aaldRv hx hb hX s3 (by omega) (by omega) dX3_isBirthday_15 (s3' j (by omega)) ?_
  obtain ⟨h_2, kr_1, r_3⟩ := s5 j (by omega)
  refine lv_iconst (v := nI 1) hx hb dX3_isBirthday_16 (by decide) ?_
  refine n_ialdv hx hb hX kr_1 (by omega) (by omega) dX3_isBirthday_17 r_3.2.1 ?_
  refine n_ne (tgt := 25) hx hb (by omega) (by omega) dX3_isBirthday_18 (by decide) (fun c_4 => ?_) (fun c_4 => ?_)
  · skip
    refine lv_iconst (v := nI 0) hx hb dX3_isBirthday_25 (by decide) ?_
    exact w_zret hx hb hr hlocks hX (by first | rfl | decide) ⟨Or.inr ⟨rfl, c_4⟩, rfl⟩ ⟨Nat.le_of_ble_eq_true rfl, Nat.le_of_ble_eq_true rfl⟩ dX3_isBirthday_26
  · skip
    refine lv_iconst (v := nI 1) hx hb dX3_isBirthday_21 (by decide) ?_
    refine lv_goto (tgt := 26) hx hb dX3_isBirthday_22 (by decide) ?_
    exact w_zret hx hb hr hlocks hX (by first | rfl | decide) ⟨Or.inl ⟨rfl, c_4⟩, rfl⟩ ⟨Nat.le_of_ble_eq_true rfl, Nat.le_of_ble_eq_true rfl⟩ dX3_isBirthday_26

set_option maxHeartbeats 4000000 in
set_option maxRecDepth 100000 in
/-- whether it would be granted -/
theorem c_X3_can (l : Launch) (g : wG) (μ : wMu) (zz : Nat) {Ω σ : sSt} {τ : Nat → Nat} (hS : sD g Ω τ σ μ) (hO : sOk σ) {j sz : Nat} (hj : j < σ 4 0) (h2 : sz ≤ 21) : wMet l yX3_can cX3_can 3 (some .boolean) 0 0 0 0 g [.ref (Ω 0 0), .int (nI j), .int (nI sz)] μ zz (fun r μ' => ((r = some (.int (nI 1)) ∧ okW σ j sz) ∨ (r = some (.int (nI 0)) ∧ ¬ okW σ j sz)) ∧ μ' = μ) := by
  refine wMet.of (by decide) (Nat.le_of_ble_eq_true rfl) ?_
  intro p e s m below meth c ls hx hb hr hml hown hlocks hin hl hsz hX
  have hl : lv_has ls 3 [(0, .ref (Ω 0 0)), (1, .int (nI j)), (2, .int (nI sz))] := hl
  obtain ⟨s1, ⟨fw, s2, s2'⟩, ⟨fc, s3, s3'⟩, s4, s5, s6, s7⟩ := id hS
  obtain ⟨o1, o2, o3, o4, o5, o6, o7⟩ := id hO
  refine lv_aload_n hx hb dX3_can_0 rfl (lv_at hl 0 rfl) ?_
  have ocb := o4 j hj
  have owb := o3 _ ocb.1
  refine gX3_1 hx hb hX hown s1 kw629 dX3_can_1 ?_
  refine lv_iload_n hx hb dX3_can_4 rfl (lv_at hl 1 rfl) ?_
  refine n_aaldRv hx hb hX s3 (by omega) (by omega) dX3_can_5 (s3' j (by omega)) ?_
  obtain ⟨h_2, kr_1, r_3⟩ := s5 j (by omega)
  refine lv_iconst (v := nI 3) hx hb dX3_can_6 (by decide) ?_
  refine n_ialdv hx hb hX kr_1 (by omega) (by omega) dX3_can_7 r_3.2.2.2.1 ?_
  refine n_if_ne (tgt := 43) hx hb (by omega) dX3_can_8 (by decide) (fun c_4 => ?_) (fun c_4 => ?_)
  · skip
    refine lv_iconst (v := nI 0) hx hb dX3_can_43 (by decide) ?_
    exact w_zret hx hb hr hlocks hX (by first | rfl | decide) ⟨Or.inr ⟨rfl, fun z => by omega⟩, rfl⟩ ⟨Nat.le_of_ble_eq_true rfl, Nat.le_of_ble_eq_true rfl⟩ dX3_can_44
  · skip
    refine lv_aload_n hx hb dX3_can_11 rfl (lv_at hl 0 rfl) ?_
    refine gX3_1 hx hb hX hown s1 kw629 dX3_can_12 ?_
    refine lv_iload_n hx hb dX3_can_15 rfl (lv_at hl 1 rfl) ?_
    refine n_aaldRv hx hb hX s3 (by omega) (by omega) dX3_can_16 (s3' j (by omega)) ?_
    refine lv_iconst (v := nI 2) hx hb dX3_can_17 (by decide) ?_
    refine n_ialdv hx hb hX kr_1 (by omega) (by omega) dX3_can_18 r_3.2.2.1 ?_
    refine lv_aload_n hx hb dX3_can_19 rfl (lv_at hl 0 rfl) ?_
    refine gX3_0 hx hb hX hown s1 kw627 dX3_can_20 ?_
    refine lv_aload_n hx hb dX3_can_23 rfl (lv_at hl 0 rfl) ?_
    refine gX3_1 hx hb hX hown s1 kw629 dX3_can_24 ?_
    refine lv_iload_n hx hb dX3_can_27 rfl (lv_at hl 1 rfl) ?_
    refine n_aaldRv hx hb hX s3 (by omega) (by omega) dX3_can_28 (s3' j (by omega)) ?_
    refine lv_iconst (v := nI 0) hx hb dX3_can_29 (by decide) ?_
    refine n_ialdv hx hb hX kr_1 (by omega) (by omega) dX3_can_30 r_3.1 ?_
    refine n_aaldRv hx hb hX s2 (by omega) (by omega) dX3_can_31 (s2' (σ 8 j) (by omega)) ?_
    obtain ⟨h_6, kr_5, r_7⟩ := s4 (σ 8 j) (by omega)
    refine lv_iconst (v := nI 2) hx hb dX3_can_32 (by decide) ?_
    refine n_ialdv hx hb hX kr_5 (by omega) (by omega) dX3_can_33 r_7.2.2 ?_
    refine n_iadd hx hb dX3_can_34 (nI_add _ _) ?_
    refine lv_iload_n hx hb dX3_can_35 rfl (lv_at hl 2 rfl) ?_
    refine n_lt (tgt := 43) hx hb (by omega) (by omega) dX3_can_36 (by decide) (fun c_8 => ?_) (fun c_8 => ?_)
    · skip
      refine lv_iconst (v := nI 0) hx hb dX3_can_43 (by decide) ?_
      exact w_zret hx hb hr hlocks hX (by first | rfl | decide) ⟨Or.inr ⟨rfl, fun z => by omega⟩, rfl⟩ ⟨Nat.le_of_ble_eq_true rfl, Nat.le_of_ble_eq_true rfl⟩ dX3_can_44
    · skip
      refine lv_iconst (v := nI 1) hx hb dX3_can_39 (by decide) ?_
      refine lv_goto (tgt := 44) hx hb dX3_can_40 (by decide) ?_
      exact w_zret hx hb hr hlocks hX (by first | rfl | decide) ⟨Or.inl ⟨rfl, by omega⟩, rfl⟩ ⟨Nat.le_of_ble_eq_true rfl, Nat.le_of_ble_eq_true rfl⟩ dX3_can_44

theorem nxt_pw : ∀ k, nxt k = 4 ∨ nxt k = 8 ∨ nxt k = 16 ∨ nxt k = 32
  | 0 => Or.inl rfl
  | k + 1 => by
    have := nxt_pw k
    simp only [nxt]
    omega
theorem nxt_dbl (k : Nat) : nxt k < 32 → nxt k * 2 ≤ 32 := fun h => by
  have := nxt_pw k
  omega
set_option maxHeartbeats 4000000 in
set_option maxRecDepth 100000 in
/-- for how long the next time -/
theorem c_X3_next (l : Launch) (g : wG) (μ : wMu) (zz : Nat) {Ω σ : sSt} {τ : Nat → Nat} (hS : sD g Ω τ σ μ) (hO : sOk σ) (hT : sT τ σ) {j : Nat} (hj : j < σ 4 0) : wMet l yX3_next cX3_next 4 (some .int) 0 0 0 0 g [.ref (Ω 0 0), .int (nI j)] μ zz (fun r μ' => r = some (.int (nI (σ 13 j))) ∧ μ' = μ) := by
  refine wMet.of (by decide) (Nat.le_of_ble_eq_true rfl) ?_
  intro p e s m below meth c ls hx hb hr hml hown hlocks hin hl hsz hX
  have hl : lv_has ls 4 [(0, .ref (Ω 0 0)), (1, .int (nI j))] := hl
  obtain ⟨s1, ⟨fw, s2, s2'⟩, ⟨fc, s3, s3'⟩, s4, s5, s6, s7⟩ := id hS
  obtain ⟨o1, o2, o3, o4, o5, o6, o7⟩ := id hO
  refine lv_iconst (v := nI 4) hx hb dX3_next_0 (by decide) ?_
  refine lv_istore_n (lv' := [(2, .int (nI 4)), (0, .ref (Ω 0 0)), (1, .int (nI j))]) hx hb dX3_next_1 rfl hl (by decide) rfl (fun ls hl => ?_)
  refine lv_iconst (v := nI 0) hx hb dX3_next_2 (by decide) ?_
  refine lv_istore_n (lv' := [(3, .int (nI 0)), (2, .int (nI 4)), (0, .ref (Ω 0 0)), (1, .int (nI j))]) hx hb dX3_next_3 rfl hl (by decide) rfl (fun ls hl => ?_)
  have htb := hT j hj
  obtain ⟨h_2, kr_1, r_3⟩ := s5 j (by omega)
  have hloop : ∀ (n : Nat) (k : Nat) (H : Heap) (locs : List Loc) (ls : Array Slot), τ j < k + n → k ≤ τ j → wX g (wA μ zz) s H locs μ → lv_has ls 4 [(3, .int (nI k)), (2, .int (nI (nxt k))), (0, .ref (Ω 0 0)), (1, .int (nI j))] → W p l e ({ frames := 0, cells := 0, slots := 0, locals := 0 } : Room) s m ([.ref (Ω 0 0), .int (nI j)] : List Value).toArray below meth c H locs 0 0 (MQ below (wQc g μ zz (fun r μ' => r = some (.int (nI (σ 13 j))) ∧ μ' = μ)) ([.ref (Ω 0 0), .int (nI j)] : List Value).toArray s 0 0 (wA μ zz)) (F0 m 4 ls []) := by
    intro n
    induction n with
    | zero => intro k H locs ls hn hk hX hl; exact absurd hn (by omega)
    | succ n ih =>
      intro k H locs ls hn hk hX hl
      have hnk := nxt_le k
      refine lv_iload_n hx hb dX3_next_4 rfl (lv_at hl 0 rfl) ?_
      refine lv_aload_n hx hb dX3_next_5 rfl (lv_at hl 2 rfl) ?_
      refine gX3_1 hx hb hX hown s1 kw629 dX3_next_6 ?_
      refine lv_iload_n hx hb dX3_next_9 rfl (lv_at hl 3 rfl) ?_
      refine n_aaldRv hx hb hX s3 (by omega) (by omega) dX3_next_10 (s3' j (by omega)) ?_
      refine lv_iconst (v := nI 5) hx hb dX3_next_11 (by decide) ?_
      refine n_ialdv hx hb hX kr_1 (by omega) (by omega) dX3_next_12 r_3.2.2.2.2.2 ?_
      refine n_ge (tgt := 32) hx hb (by omega) (by omega) dX3_next_13 (by decide) (fun c_4 => ?_) (fun c_4 => ?_)
      · skip
        refine lv_iload_n hx hb dX3_next_32 rfl (lv_at hl 1 rfl) ?_
        exact w_iret hx hb hr hlocks hX ⟨by rw [show k = τ j by omega, ← htb.1], rfl⟩ ⟨Nat.le_of_ble_eq_true rfl, Nat.le_of_ble_eq_true rfl⟩ dX3_next_33
      · skip
        refine lv_iload_n hx hb dX3_next_16 rfl (lv_at hl 1 rfl) ?_
        refine lv_bipush (v := nI 32) hx hb dX3_next_17 (by decide) ?_
        refine n_ge (tgt := 32) hx hb (by omega) (by omega) dX3_next_19 (by decide) (fun c_5 => ?_) (fun c_5 => ?_)
        · skip
          refine lv_iload_n hx hb dX3_next_32 rfl (lv_at hl 1 rfl) ?_
          exact w_iret hx hb hr hlocks hX ⟨by rw [htb.1, nxt_top c_5 hk, show nxt k = 32 by omega], rfl⟩ ⟨Nat.le_of_ble_eq_true rfl, Nat.le_of_ble_eq_true rfl⟩ dX3_next_33
        · skip
          refine lv_iload_n hx hb dX3_next_22 rfl (lv_at hl 1 rfl) ?_
          refine lv_iconst (v := nI 2) hx hb dX3_next_23 (by decide) ?_
          refine n_imul hx hb dX3_next_24 (pk_mul _ _) ?_
          refine lv_istore_n (lv' := [(2, .int (nI ((nxt k) * 2))), (3, .int (nI k)), (0, .ref (Ω 0 0)), (1, .int (nI j))]) hx hb dX3_next_25 rfl hl (by decide) rfl (fun ls hl => ?_)
          refine lv_iinc (v := nI (k + 1)) (lv' := [(3, .int (nI (k + 1))), (2, .int (nI ((nxt k) * 2))), (0, .ref (Ω 0 0)), (1, .int (nI j))]) hx hb dX3_next_26 hl (k := 1) rfl (nI_inc _) (by decide) rfl (fun ls hl => ?_)
          refine lv_goto (tgt := 4) hx hb dX3_next_29 (by decide) ?_
          rw [show nxt k * 2 = nxt (k + 1) by simp only [nxt]; rw [Nat.min_eq_right]; have h9 := nxt_dbl k; omega] at hl
          refine ih (k + 1) H locs ls (by omega) (by omega) hX ?_
          exact lv_sub hl [0, 1, 2, 3] rfl
  exact hloop (τ j + 1) 0 s.heap [] _ (by omega) (by omega) hX hl

