set_option maxHeartbeats 4000000 in
set_option maxRecDepth 100000 in
/-- how many are punished -/
theorem c_X2_punished (l : Launch) (g : wG) (μ : wMu) (zz : Nat) {Λ σ : sSt} {xv : Option Int64} (hF : fD g Λ xv σ μ) (hO : sOk σ)  : wMet l yX2_punished cX2_punished 3 (some .int) 3 0 0 64 g [.ref (Λ 0 0)] μ zz (fun r μ' => r = some (.int (nI (cHel σ (σ 4 0)))) ∧ μ' = μ) := by
  refine wMet.of (by decide) (Nat.le_of_ble_eq_true rfl) ?_
  intro p e s m below meth c ls hx hb hr hml hown hlocks hin hl hsz hX
  have hl : lv_has ls 3 [(0, .ref (Λ 0 0))] := hl
  obtain ⟨f1, ⟨m1, f2⟩, ⟨m2, f3⟩, f4, f5, f6, f7, ⟨t1, t2, t3, t4, f8⟩, ⟨u1, u2, u3, u4, u5, f9⟩, f10, f11⟩ := id hF
  obtain ⟨o1, o2, o3, o4, o5, o6, o7⟩ := id hO
  refine lv_iconst (v := nI 0) hx hb dX2_punished_0 (by decide) ?_
  refine lv_istore_n (lv' := [(1, .int (nI 0)), (0, .ref (Λ 0 0))]) hx hb dX2_punished_1 rfl hl (by decide) rfl (fun ls hl => ?_)
  refine lv_iconst (v := nI 0) hx hb dX2_punished_2 (by decide) ?_
  refine lv_istore_n (lv' := [(2, .int (nI 0)), (1, .int (nI 0)), (0, .ref (Λ 0 0))]) hx hb dX2_punished_3 rfl hl (by decide) rfl (fun ls hl => ?_)
  have hloop : ∀ (n : Nat) (i : Nat) (H : Heap) (locs : List Loc) (ls : Array Slot), σ 4 0 < i + n → i ≤ σ 4 0 → cHel σ i ≤ i → wX g (wA μ zz) s H locs μ → lv_has ls 3 [(2, .int (nI i)), (1, .int (nI (cHel σ i))), (0, .ref (Λ 0 0))] → W p l e ({ frames := 3, cells := 0, slots := 0, locals := 64 } : Room) s m ([.ref (Λ 0 0)] : List Value).toArray below meth c H locs 0 0 (MQ below (wQc g μ zz (fun r μ' => r = some (.int (nI (cHel σ (σ 4 0)))) ∧ μ' = μ)) ([.ref (Λ 0 0)] : List Value).toArray s 0 0 (wA μ zz)) (F0 m 4 ls []) := by
    intro n
    induction n with
    | zero => intro i H locs ls hn hi hcn hX hl; exact absurd hn (by omega)
    | succ n ih =>
      intro i H locs ls hn hi hcn hX hl
      refine lv_iload_n hx hb dX2_punished_4 rfl (lv_at hl 0 rfl) ?_
      refine lv_aload_n hx hb dX2_punished_5 rfl (lv_at hl 2 rfl) ?_
      refine gX2_1 hx hb hX hown f1 kw109 dX2_punished_6 ?_
      refine w_call (w_runV (n := 0) (As := []) (rest := [.int (nI i)]) hx hb hml hown hX (c_Jx4a65c_size_8abf5 l g μ H.size f3) kw141 kw4 kw138 kw139 kw140 wn_Jx4a65c_size_8abf5 rfl f3 rfl ⟨Nat.le_of_ble_eq_true rfl, Nat.le_of_ble_eq_true rfl⟩ hl.1 rfl (Nat.le_of_ble_eq_true rfl) dX2_punished_9 ⟨Nat.le_of_ble_eq_true rfl, Nat.le_of_ble_eq_true rfl⟩) hX (fun r_3 μ_1 H locs q_2 hX hz => ?_)
      obtain ⟨rfl, e_4⟩ := q_2
      rw [e_4] at hX
      refine W.eq (g2 := F0 m 12 ls [.int (nI (σ 4 0)), .int (nI i)]) rfl ?_
      refine n_ge (tgt := 41) hx hb (by omega) (by omega) dX2_punished_12 (by decide) (fun c_5 => ?_) (fun c_5 => ?_)
      · skip
        refine lv_iload_n hx hb dX2_punished_41 rfl (lv_at hl 1 rfl) ?_
        exact w_iret hx hb hr hlocks hX ⟨by rw [show i = σ 4 0 by omega], rfl⟩ ⟨Nat.le_of_ble_eq_true rfl, Nat.le_of_ble_eq_true rfl⟩ dX2_punished_42
      · skip
        refine lv_aload_n hx hb dX2_punished_15 rfl (lv_at hl 2 rfl) ?_
        refine gX2_1 hx hb hX hown f1 kw109 dX2_punished_16 ?_
        refine lv_iload_n hx hb dX2_punished_19 rfl (lv_at hl 0 rfl) ?_
        obtain ⟨fa, fa1, fa2⟩ := f5.pos (by omega)
        refine w_call (w_runV (n := 1) (As := [.int (nI i)]) (rest := []) hx hb hml hown hX (c_Jx4a65c_get_915e3 l g μ H.size f3 fa1 (by omega) (by omega) (fa2 i (by omega))) kw213 kw4 kw210 kw211 kw212 wn_Jx4a65c_get_915e3 rfl f3 rfl ⟨Nat.le_of_ble_eq_true rfl, Nat.le_of_ble_eq_true rfl⟩ hl.1 rfl (Nat.le_of_ble_eq_true rfl) dX2_punished_20 ⟨Nat.le_of_ble_eq_true rfl, Nat.le_of_ble_eq_true rfl⟩) hX (fun r_8 μ_6 H locs q_7 hX hz => ?_)
        obtain ⟨rfl, e_9⟩ := q_7
        rw [e_9] at hX
        refine W.eq (g2 := F0 m 23 ls [.ref (Λ 8 i)]) rfl ?_
        have hj : i < σ 4 0 := by omega
        have kc_10 := f7 i hj
        have kc_10b := o4 i hj
        have kw_11 := f6 (σ 8 i) kc_10b.1
        have kw_11b := o3 (σ 8 i) kc_10b.1
        refine w_cast hx hb hX hown kw77 kc_10 rfl dX2_punished_23 ?_
        refine w_call (w_runVN (n := 0) (As := []) (rest := []) hx hb hml hown hX (c_X0_isPunished l g μ H.size kc_10 (by omega)) kw261 kw6 kw329 kw260 kp5 wn_X0_isPunished rfl kc_10 rfl ⟨Nat.le_of_ble_eq_true rfl, Nat.le_of_ble_eq_true rfl⟩ hl.1 rfl (Nat.le_of_ble_eq_true rfl) dX2_punished_26 ⟨Nat.le_of_ble_eq_true rfl, Nat.le_of_ble_eq_true rfl⟩) hX (fun r_14 μ_12 H locs q_13 hX hz => ?_)
        obtain ⟨q_16, e_15⟩ := q_13
        rw [e_15] at hX
        obtain ⟨rfl, p_17⟩ | ⟨rfl, p_18⟩ := q_16
        · skip
          refine W.eq (g2 := F0 m 29 ls [.int (nI 1)]) rfl ?_
          refine n_if_eq (tgt := 35) hx hb (by omega) dX2_punished_29 (by decide) (fun h => absurd h (by omega)) (fun _ => ?_)
          refine lv_iinc (v := nI (cHel σ i + 1)) (lv' := [(1, .int (nI (cHel σ i + 1))), (2, .int (nI i)), (0, .ref (Λ 0 0))]) hx hb dX2_punished_32 hl (k := 1) rfl (nI_inc _) (by decide) rfl (fun ls hl => ?_)
          refine lv_iinc (v := nI (i + 1)) (lv' := [(2, .int (nI (i + 1))), (1, .int (nI (cHel σ i + 1))), (0, .ref (Λ 0 0))]) hx hb dX2_punished_35 hl (k := 1) rfl (nI_inc _) (by decide) rfl (fun ls hl => ?_)
          refine lv_goto (tgt := 4) hx hb dX2_punished_38 (by decide) ?_
          refine ih (i + 1) H locs ls (by omega) (by omega) (by simp only [cHel]; split <;> omega) hX ?_
          rw [show cHel σ (i + 1) = cHel σ i + 1 from by simp only [cHel, if_pos p_17]]
          exact lv_sub hl [0, 1, 2] rfl
        · skip
          refine W.eq (g2 := F0 m 29 ls [.int (nI 0)]) rfl ?_
          refine n_if_eq (tgt := 35) hx hb (by omega) dX2_punished_29 (by decide) (fun _ => ?_) (fun h => absurd h (by omega))
          refine lv_iinc (v := nI (i + 1)) (lv' := [(2, .int (nI (i + 1))), (1, .int (nI (cHel σ i))), (0, .ref (Λ 0 0))]) hx hb dX2_punished_35 hl (k := 0) rfl (nI_inc _) (by decide) rfl (fun ls hl => ?_)
          refine lv_goto (tgt := 4) hx hb dX2_punished_38 (by decide) ?_
          refine ih (i + 1) H locs ls (by omega) (by omega) (by simp only [cHel]; split <;> omega) hX ?_
          rw [show cHel σ (i + 1) = cHel σ i from by simp only [cHel, if_neg (show ¬ 0 < σ 11 i by omega), Nat.add_zero]]
          exact lv_sub hl [0, 1, 2] rfl
  exact hloop (σ 4 0 + 1) 0 s.heap _ ls (by omega) (by omega) (Nat.le_refl 0) hX hl

set_option maxHeartbeats 4000000 in
set_option maxRecDepth 100000 in
/-- how many use it, or thrown -/
theorem c_X2_users (l : Launch) (hlt : l.stackTraces = false) (g : wG) (μ : wMu) (zz : Nat) {Λ σ : sSt} {xv : Option Int64} (hF : fD g Λ xv σ μ) (hO : sOk σ) {x : Int32} : wMetX l yX2_users cX2_users 5 (some .int) 7 1 6 111 g [.ref (Λ 0 0), .int x] μ zz (fun r μ' => ∃ i, i < σ 3 0 ∧ x = nI i ∧ r = some (.int (nI (cUsr σ i (σ 4 0)))) ∧ μ' = μ) (fun E => E = xIOB ∧ ¬ isX x (σ 3 0)) := by
  refine wMetX.of (by decide) (Nat.le_of_ble_eq_true rfl) ?_
  intro p e s m below meth c ls hx hb hr hml hown hlocks hin hl hsz hX hxt
  have hl : lv_has ls 5 [(0, .ref (Λ 0 0)), (1, .int x)] := hl
  obtain ⟨f1, ⟨m1, f2⟩, ⟨m2, f3⟩, f4, f5, f6, f7, ⟨t1, t2, t3, t4, f8⟩, ⟨u1, u2, u3, u4, u5, f9⟩, f10, f11⟩ := id hF
  obtain ⟨o1, o2, o3, o4, o5, o6, o7⟩ := id hO
  refine lv_aload_n hx hb dX2_users_0 rfl (lv_at hl 0 rfl) ?_
  refine lv_iload_n hx hb dX2_users_1 rfl (lv_at hl 1 rfl) ?_
  refine w_callX (w_runVX (n := 1) (As := [.int x]) (rest := []) hx hb hml hown hX (c_X2_wandAt l hlt g μ s.heap.size hF hO) kw337 kw1 kw334 kw336 kp13 wn_X2_wandAt rfl f1 rfl ⟨Nat.le_of_ble_eq_true rfl, Nat.le_of_ble_eq_true rfl⟩ hl.1 rfl (Nat.le_of_ble_eq_true rfl) dX2_users_2 ⟨Nat.le_of_ble_eq_true rfl, Nat.le_of_ble_eq_true rfl⟩) hX (fun E ce q9 H locs hE hX hce hcv hcl => ?_) (fun r_3 μ_1 H locs q_2 hX hz => ?_)
  · skip
    exact w_out hxt hlocks hX (by first | exact hE | exact Or.inl hE | simp_all) hce hcv hcl ⟨Nat.le_of_ble_eq_true rfl, Nat.le_of_ble_eq_true rfl⟩
  obtain ⟨i, hi, hxe, rfl, e_4⟩ := q_2
  rw [e_4] at hX
  refine W.eq (g2 := F0 m 5 ls [.ref (Λ 7 i)]) rfl ?_
  have kw_5 := f6 i hi
  have kw_5b := o3 i hi
  refine gnX1_0 hx hb hX hown kw_5 kw61 dX2_users_5 ?_
  refine lv_istore_n (lv' := [(2, .int (nI i)), (0, .ref (Λ 0 0)), (1, .int x)]) hx hb dX2_users_8 rfl hl (by decide) rfl (fun ls hl => ?_)
  refine lv_iconst (v := nI 0) hx hb dX2_users_9 (by decide) ?_
  refine lv_istore_n (lv' := [(3, .int (nI 0)), (2, .int (nI i)), (0, .ref (Λ 0 0)), (1, .int x)]) hx hb dX2_users_10 rfl hl (by decide) rfl (fun ls hl => ?_)
  refine lv_iconst (v := nI 0) hx hb dX2_users_11 (by decide) ?_
  refine lv_istore (lv' := [(4, .int (nI 0)), (3, .int (nI 0)), (2, .int (nI i)), (0, .ref (Λ 0 0)), (1, .int x)]) hx hb dX2_users_12 hl (by decide) rfl (fun ls hl => ?_)
  have hloop : ∀ (n : Nat) (k : Nat) (H : Heap) (locs : List Loc) (ls : Array Slot), σ 4 0 < k + n → k ≤ σ 4 0 → cUsr σ i k ≤ k → wX g (wA μ zz) s H locs μ → lv_has ls 5 [(4, .int (nI k)), (3, .int (nI (cUsr σ i k))), (2, .int (nI i)), (0, .ref (Λ 0 0)), (1, .int x)] → W p l e ({ frames := 7, cells := 1, slots := 6, locals := 111 } : Room) s m ([.ref (Λ 0 0), .int x] : List Value).toArray below meth c H locs 1 6 (vx_MQ below (wQc g μ zz (fun r μ' => ∃ i, i < σ 3 0 ∧ x = nI i ∧ r = some (.int (nI (cUsr σ i (σ 4 0)))) ∧ μ' = μ)) (wXc g μ zz (fun E => E = xIOB ∧ ¬ isX x (σ 3 0))) ([.ref (Λ 0 0), .int x] : List Value).toArray s 1 6 (wA μ zz)) (F0 m 14 ls []) := by
    intro n
    induction n with
    | zero => intro k H locs ls hn hk hcn hX hl; exact absurd hn (by omega)
    | succ n ih =>
      intro k H locs ls hn hk hcn hX hl
      refine lv_iload hx hb dX2_users_14 (lv_at hl 0 rfl) ?_
      refine lv_aload_n hx hb dX2_users_16 rfl (lv_at hl 3 rfl) ?_
      refine gX2_1 hx hb hX hown f1 kw109 dX2_users_17 ?_
      refine w_call (w_runV (n := 0) (As := []) (rest := [.int (nI k)]) hx hb hml hown hX (c_Jx4a65c_size_8abf5 l g μ H.size f3) kw141 kw4 kw138 kw139 kw140 wn_Jx4a65c_size_8abf5 rfl f3 rfl ⟨Nat.le_of_ble_eq_true rfl, Nat.le_of_ble_eq_true rfl⟩ hl.1 rfl (Nat.le_of_ble_eq_true rfl) dX2_users_20 ⟨Nat.le_of_ble_eq_true rfl, Nat.le_of_ble_eq_true rfl⟩) hX (fun r_8 μ_6 H locs q_7 hX hz => ?_)
      obtain ⟨rfl, e_9⟩ := q_7
      rw [e_9] at hX
      refine W.eq (g2 := F0 m 23 ls [.int (nI (σ 4 0)), .int (nI k)]) rfl ?_
      refine n_ge (tgt := 57) hx hb (by omega) (by omega) dX2_users_23 (by decide) (fun c_10 => ?_) (fun c_10 => ?_)
      · skip
        refine lv_iload_n hx hb dX2_users_57 rfl (lv_at hl 1 rfl) ?_
        exact vx_ret (w_iret hx hb hr hlocks hX ⟨i, hi, hxe, by rw [show k = σ 4 0 by omega], rfl⟩ ⟨Nat.le_of_ble_eq_true rfl, Nat.le_of_ble_eq_true rfl⟩ dX2_users_58)
      · skip
        refine lv_aload_n hx hb dX2_users_26 rfl (lv_at hl 3 rfl) ?_
        refine gX2_1 hx hb hX hown f1 kw109 dX2_users_27 ?_
        refine lv_iload hx hb dX2_users_30 (lv_at hl 0 rfl) ?_
        obtain ⟨fa, fa1, fa2⟩ := f5.pos (by omega)
        refine w_call (w_runV (n := 1) (As := [.int (nI k)]) (rest := []) hx hb hml hown hX (c_Jx4a65c_get_915e3 l g μ H.size f3 fa1 (by omega) (by omega) (fa2 k (by omega))) kw213 kw4 kw210 kw211 kw212 wn_Jx4a65c_get_915e3 rfl f3 rfl ⟨Nat.le_of_ble_eq_true rfl, Nat.le_of_ble_eq_true rfl⟩ hl.1 rfl (Nat.le_of_ble_eq_true rfl) dX2_users_32 ⟨Nat.le_of_ble_eq_true rfl, Nat.le_of_ble_eq_true rfl⟩) hX (fun r_13 μ_11 H locs q_12 hX hz => ?_)
        obtain ⟨rfl, e_14⟩ := q_12
        rw [e_14] at hX
        refine W.eq (g2 := F0 m 35 ls [.ref (Λ 8 k)]) rfl ?_
        have hj : k < σ 4 0 := by omega
        have kc_15 := f7 k hj
        have kc_15b := o4 k hj
        have kw_16 := f6 (σ 8 k) kc_15b.1
        have kw_16b := o3 (σ 8 k) kc_15b.1
        refine w_cast hx hb hX hown kw77 kc_15 rfl dX2_users_35 ?_
        refine gnX0_0 hx hb hX hown kc_15 kw84 dX2_users_38 ?_
        refine gnX1_0 hx hb hX hown kw_16 kw61 dX2_users_41 ?_
        refine lv_iload_n hx hb dX2_users_44 rfl (lv_at hl 2 rfl) ?_
        refine n_ne (tgt := 51) hx hb (by omega) (by omega) dX2_users_45 (by decide) (fun c_17 => ?_) (fun c_17 => ?_)
        · skip
          refine lv_iinc (v := nI (k + 1)) (lv' := [(4, .int (nI (k + 1))), (3, .int (nI (cUsr σ i k))), (2, .int (nI i)), (0, .ref (Λ 0 0)), (1, .int x)]) hx hb dX2_users_51 hl (k := 0) rfl (nI_inc _) (by decide) rfl (fun ls hl => ?_)
          refine lv_goto (tgt := 14) hx hb dX2_users_54 (by decide) ?_
          refine ih (k + 1) H locs ls (by omega) (by omega) (by simp only [cUsr]; split <;> omega) hX ?_
          rw [show cUsr σ i (k + 1) = cUsr σ i k from by simp only [cUsr, if_neg c_17, Nat.add_zero]]
          exact lv_sub hl [0, 1, 2, 3, 4] rfl
        · skip
          refine lv_iinc (v := nI (cUsr σ i k + 1)) (lv' := [(3, .int (nI (cUsr σ i k + 1))), (4, .int (nI k)), (2, .int (nI i)), (0, .ref (Λ 0 0)), (1, .int x)]) hx hb dX2_users_48 hl (k := 1) rfl (nI_inc _) (by decide) rfl (fun ls hl => ?_)
          refine lv_iinc (v := nI (k + 1)) (lv' := [(4, .int (nI (k + 1))), (3, .int (nI (cUsr σ i k + 1))), (2, .int (nI i)), (0, .ref (Λ 0 0)), (1, .int x)]) hx hb dX2_users_51 hl (k := 1) rfl (nI_inc _) (by decide) rfl (fun ls hl => ?_)
          refine lv_goto (tgt := 14) hx hb dX2_users_54 (by decide) ?_
          refine ih (k + 1) H locs ls (by omega) (by omega) (by simp only [cUsr]; split <;> omega) hX ?_
          rw [show cUsr σ i (k + 1) = cUsr σ i k + 1 from by simp only [cUsr, if_pos c_17]]
          exact lv_sub hl [0, 1, 2, 3, 4] rfl
  exact hloop (σ 4 0 + 1) 0 H _ ls (by omega) (by omega) (Nat.le_refl 0) hX hl

set_option maxHeartbeats 4000000 in
set_option maxRecDepth 100000 in
/-- how many use it -/
theorem c_X2_users_g (l : Launch) (g : wG) (μ : wMu) (zz : Nat) {Λ σ : sSt} {xv : Option Int64} (hF : fD g Λ xv σ μ) (hO : sOk σ) {i : Nat} (hi : i < σ 3 0) : wMet l yX2_users cX2_users 5 (some .int) 4 0 0 85 g [.ref (Λ 0 0), .int (nI i)] μ zz (fun r μ' => r = some (.int (nI (cUsr σ i (σ 4 0)))) ∧ μ' = μ) := by
  refine wMet.of (by decide) (Nat.le_of_ble_eq_true rfl) ?_
  intro p e s m below meth c ls hx hb hr hml hown hlocks hin hl hsz hX
  have hl : lv_has ls 5 [(0, .ref (Λ 0 0)), (1, .int (nI i))] := hl
  obtain ⟨f1, ⟨m1, f2⟩, ⟨m2, f3⟩, f4, f5, f6, f7, ⟨t1, t2, t3, t4, f8⟩, ⟨u1, u2, u3, u4, u5, f9⟩, f10, f11⟩ := id hF
  obtain ⟨o1, o2, o3, o4, o5, o6, o7⟩ := id hO
  refine lv_aload_n hx hb dX2_users_0 rfl (lv_at hl 0 rfl) ?_
  refine lv_iload_n hx hb dX2_users_1 rfl (lv_at hl 1 rfl) ?_
  refine w_call (w_runV (n := 1) (As := [.int (nI i)]) (rest := []) hx hb hml hown hX (c_X2_wandAt_g l g μ s.heap.size hF hO hi) kw337 kw1 kw334 kw336 kp13 wn_X2_wandAt rfl f1 rfl ⟨Nat.le_of_ble_eq_true rfl, Nat.le_of_ble_eq_true rfl⟩ hl.1 rfl (Nat.le_of_ble_eq_true rfl) dX2_users_2 ⟨Nat.le_of_ble_eq_true rfl, Nat.le_of_ble_eq_true rfl⟩) hX (fun r_3 μ_1 H locs q_2 hX hz => ?_)
  obtain ⟨rfl, e_4⟩ := q_2
  rw [e_4] at hX
  refine W.eq (g2 := F0 m 5 ls [.ref (Λ 7 i)]) rfl ?_
  have kw_5 := f6 i hi
  have kw_5b := o3 i hi
  refine gnX1_0 hx hb hX hown kw_5 kw61 dX2_users_5 ?_
  refine lv_istore_n (lv' := [(2, .int (nI i)), (0, .ref (Λ 0 0)), (1, .int (nI i))]) hx hb dX2_users_8 rfl hl (by decide) rfl (fun ls hl => ?_)
  refine lv_iconst (v := nI 0) hx hb dX2_users_9 (by decide) ?_
  refine lv_istore_n (lv' := [(3, .int (nI 0)), (2, .int (nI i)), (0, .ref (Λ 0 0)), (1, .int (nI i))]) hx hb dX2_users_10 rfl hl (by decide) rfl (fun ls hl => ?_)
  refine lv_iconst (v := nI 0) hx hb dX2_users_11 (by decide) ?_
  refine lv_istore (lv' := [(4, .int (nI 0)), (3, .int (nI 0)), (2, .int (nI i)), (0, .ref (Λ 0 0)), (1, .int (nI i))]) hx hb dX2_users_12 hl (by decide) rfl (fun ls hl => ?_)
  have hloop : ∀ (n : Nat) (k : Nat) (H : Heap) (locs : List Loc) (ls : Array Slot), σ 4 0 < k + n → k ≤ σ 4 0 → cUsr σ i k ≤ k → wX g (wA μ zz) s H locs μ → lv_has ls 5 [(4, .int (nI k)), (3, .int (nI (cUsr σ i k))), (2, .int (nI i)), (0, .ref (Λ 0 0)), (1, .int (nI i))] → W p l e ({ frames := 4, cells := 0, slots := 0, locals := 85 } : Room) s m ([.ref (Λ 0 0), .int (nI i)] : List Value).toArray below meth c H locs 0 0 (MQ below (wQc g μ zz (fun r μ' => r = some (.int (nI (cUsr σ i (σ 4 0)))) ∧ μ' = μ)) ([.ref (Λ 0 0), .int (nI i)] : List Value).toArray s 0 0 (wA μ zz)) (F0 m 14 ls []) := by
    intro n
    induction n with
    | zero => intro k H locs ls hn hk hcn hX hl; exact absurd hn (by omega)
    | succ n ih =>
      intro k H locs ls hn hk hcn hX hl
      refine lv_iload hx hb dX2_users_14 (lv_at hl 0 rfl) ?_
      refine lv_aload_n hx hb dX2_users_16 rfl (lv_at hl 3 rfl) ?_
      refine gX2_1 hx hb hX hown f1 kw109 dX2_users_17 ?_
      refine w_call (w_runV (n := 0) (As := []) (rest := [.int (nI k)]) hx hb hml hown hX (c_Jx4a65c_size_8abf5 l g μ H.size f3) kw141 kw4 kw138 kw139 kw140 wn_Jx4a65c_size_8abf5 rfl f3 rfl ⟨Nat.le_of_ble_eq_true rfl, Nat.le_of_ble_eq_true rfl⟩ hl.1 rfl (Nat.le_of_ble_eq_true rfl) dX2_users_20 ⟨Nat.le_of_ble_eq_true rfl, Nat.le_of_ble_eq_true rfl⟩) hX (fun r_8 μ_6 H locs q_7 hX hz => ?_)
      obtain ⟨rfl, e_9⟩ := q_7
      rw [e_9] at hX
      refine W.eq (g2 := F0 m 23 ls [.int (nI (σ 4 0)), .int (nI k)]) rfl ?_
      refine n_ge (tgt := 57) hx hb (by omega) (by omega) dX2_users_23 (by decide) (fun c_10 => ?_) (fun c_10 => ?_)
      · skip
        refine lv_iload_n hx hb dX2_users_57 rfl (lv_at hl 1 rfl) ?_
        exact w_iret hx hb hr hlocks hX ⟨by rw [show k = σ 4 0 by omega], rfl⟩ ⟨Nat.le_of_ble_eq_true rfl, Nat.le_of_ble_eq_true rfl⟩ dX2_users_58
      · skip
        refine lv_aload_n hx hb dX2_users_26 rfl (lv_at hl 3 rfl) ?_
        refine gX2_1 hx hb hX hown f1 kw109 dX2_users_27 ?_
        refine lv_iload hx hb dX2_users_30 (lv_at hl 0 rfl) ?_
        obtain ⟨fa, fa1, fa2⟩ := f5.pos (by omega)
        refine w_call (w_runV (n := 1) (As := [.int (nI k)]) (rest := []) hx hb hml hown hX (c_Jx4a65c_get_915e3 l g μ H.size f3 fa1 (by omega) (by omega) (fa2 k (by omega))) kw213 kw4 kw210 kw211 kw212 wn_Jx4a65c_get_915e3 rfl f3 rfl ⟨Nat.le_of_ble_eq_true rfl, Nat.le_of_ble_eq_true rfl⟩ hl.1 rfl (Nat.le_of_ble_eq_true rfl) dX2_users_32 ⟨Nat.le_of_ble_eq_true rfl, Nat.le_of_ble_eq_true rfl⟩) hX (fun r_13 μ_11 H locs q_12 hX hz => ?_)
        obtain ⟨rfl, e_14⟩ := q_12
        rw [e_14] at hX
        refine W.eq (g2 := F0 m 35 ls [.ref (Λ 8 k)]) rfl ?_
        have hj : k < σ 4 0 := by omega
        have kc_15 := f7 k hj
        have kc_15b := o4 k hj
        have kw_16 := f6 (σ 8 k) kc_15b.1
        have kw_16b := o3 (σ 8 k) kc_15b.1
        refine w_cast hx hb hX hown kw77 kc_15 rfl dX2_users_35 ?_
        refine gnX0_0 hx hb hX hown kc_15 kw84 dX2_users_38 ?_
        refine gnX1_0 hx hb hX hown kw_16 kw61 dX2_users_41 ?_
        refine lv_iload_n hx hb dX2_users_44 rfl (lv_at hl 2 rfl) ?_
        refine n_ne (tgt := 51) hx hb (by omega) (by omega) dX2_users_45 (by decide) (fun c_17 => ?_) (fun c_17 => ?_)
        · skip
          refine lv_iinc (v := nI (k + 1)) (lv' := [(4, .int (nI (k + 1))), (3, .int (nI (cUsr σ i k))), (2, .int (nI i)), (0, .ref (Λ 0 0)), (1, .int (nI i))]) hx hb dX2_users_51 hl (k := 0) rfl (nI_inc _) (by decide) rfl (fun ls hl => ?_)
          refine lv_goto (tgt := 14) hx hb dX2_users_54 (by decide) ?_
          refine ih (k + 1) H locs ls (by omega) (by omega) (by simp only [cUsr]; split <;> omega) hX ?_
          rw [show cUsr σ i (k + 1) = cUsr σ i k from by simp only [cUsr, if_neg c_17, Nat.add_zero]]
          exact lv_sub hl [0, 1, 2, 3, 4] rfl
        · skip
          refine lv_iinc (v := nI (cUsr σ i k + 1)) (lv' := [(3, .int (nI (cUsr σ i k + 1))), (4, .int (nI k)), (2, .int (nI i)), (0, .ref (Λ 0 0)), (1, .int (nI i))]) hx hb dX2_users_48 hl (k := 1) rfl (nI_inc _) (by decide) rfl (fun ls hl => ?_)
          refine lv_iinc (v := nI (k + 1)) (lv' := [(4, .int (nI (k + 1))), (3, .int (nI (cUsr σ i k + 1))), (2, .int (nI i)), (0, .ref (Λ 0 0)), (1, .int (nI i))]) hx hb dX2_users_51 hl (k := 1) rfl (nI_inc _) (by decide) rfl (fun ls hl => ?_)
          refine lv_goto (tgt := 14) hx hb dX2_users_54 (by decide) ?_
          refine ih (k + 1) H locs ls (by omega) (by omega) (by simp only [cUsr]; split <;> omega) hX ?_
          rw [show cUsr σ i (k + 1) = cUsr σ i k + 1 from by simp only [cUsr, if_pos c_17]]
          exact lv_sub hl [0, 1, 2, 3, 4] rfl
  exact hloop (σ 4 0 + 1) 0 H _ ls (by omega) (by omega) (Nat.le_refl 0) hX hl

set_option maxHeartbeats 4000000 in
set_option maxRecDepth 100000 in
/-- when it is full, or thrown -/
theorem c_X2_hoursUntilFull (l : Launch) (hlt : l.stackTraces = false) (g : wG) (μ : wMu) (zz : Nat) {Λ σ : sSt} {xv : Option Int64} (hF : fD g Λ xv σ μ) (hO : sOk σ) {x : Int32} : wMetX l yX2_hoursUntilFull cX2_hoursUntilFull 4 (some .int) 7 1 6 111 g [.ref (Λ 0 0), .int x] μ zz (fun r μ' => ∃ i, i < σ 3 0 ∧ x = nI i ∧ r = some (.int (vFul σ i)) ∧ μ' = μ) (fun E => E = xIOB ∧ ¬ isX x (σ 3 0)) := by
  refine wMetX.of (by decide) (Nat.le_of_ble_eq_true rfl) ?_
  intro p e s m below meth c ls hx hb hr hml hown hlocks hin hl hsz hX hxt
  have hl : lv_has ls 4 [(0, .ref (Λ 0 0)), (1, .int x)] := hl
  obtain ⟨f1, ⟨m1, f2⟩, ⟨m2, f3⟩, f4, f5, f6, f7, ⟨t1, t2, t3, t4, f8⟩, ⟨u1, u2, u3, u4, u5, f9⟩, f10, f11⟩ := id hF
  obtain ⟨o1, o2, o3, o4, o5, o6, o7⟩ := id hO
  refine lv_aload_n hx hb dX2_hoursUntilFull_0 rfl (lv_at hl 0 rfl) ?_
  refine lv_iload_n hx hb dX2_hoursUntilFull_1 rfl (lv_at hl 1 rfl) ?_
  refine w_callX (w_runVX (n := 1) (As := [.int x]) (rest := []) hx hb hml hown hX (c_X2_wandAt l hlt g μ s.heap.size hF hO) kw337 kw1 kw334 kw336 kp13 wn_X2_wandAt rfl f1 rfl ⟨Nat.le_of_ble_eq_true rfl, Nat.le_of_ble_eq_true rfl⟩ hl.1 rfl (Nat.le_of_ble_eq_true rfl) dX2_hoursUntilFull_2 ⟨Nat.le_of_ble_eq_true rfl, Nat.le_of_ble_eq_true rfl⟩) hX (fun E ce q9 H locs hE hX hce hcv hcl => ?_) (fun r_3 μ_1 H locs q_2 hX hz => ?_)
  · skip
    exact w_out hxt hlocks hX (by first | exact hE | exact Or.inl hE | simp_all) hce hcv hcl ⟨Nat.le_of_ble_eq_true rfl, Nat.le_of_ble_eq_true rfl⟩
  obtain ⟨i, hi, hxe, rfl, e_4⟩ := q_2
  rw [e_4] at hX
  refine W.eq (g2 := F0 m 5 ls [.ref (Λ 7 i)]) rfl ?_
  have kw_5 := f6 i hi
  have kw_5b := o3 i hi
  refine lv_astore_n (lv' := [(2, .ref (Λ 7 i)), (0, .ref (Λ 0 0)), (1, .int x)]) hx hb dX2_hoursUntilFull_5 rfl hl (by decide) rfl (fun ls hl => ?_)
  refine lv_iconst (v := nI 0) hx hb dX2_hoursUntilFull_6 (by decide) ?_
  refine lv_istore_n (lv' := [(3, .int (nI 0)), (2, .ref (Λ 7 i)), (0, .ref (Λ 0 0)), (1, .int x)]) hx hb dX2_hoursUntilFull_7 rfl hl (by decide) rfl (fun ls hl => ?_)
  have hloop : ∀ (n : Nat) (k : Nat) (H : Heap) (locs : List Loc) (ls : Array Slot), 101 < k + n → k ≤ 101 → ufl (σ 5 i - σ 7 i) (σ 6 i) (101 - k) k = vFul σ i → wX g (wA μ zz) s H locs μ → lv_has ls 4 [(3, .int (nI k)), (2, .ref (Λ 7 i)), (0, .ref (Λ 0 0)), (1, .int x)] → W p l e ({ frames := 7, cells := 1, slots := 6, locals := 111 } : Room) s m ([.ref (Λ 0 0), .int x] : List Value).toArray below meth c H locs 1 6 (vx_MQ below (wQc g μ zz (fun r μ' => ∃ i, i < σ 3 0 ∧ x = nI i ∧ r = some (.int (vFul σ i)) ∧ μ' = μ)) (wXc g μ zz (fun E => E = xIOB ∧ ¬ isX x (σ 3 0))) ([.ref (Λ 0 0), .int x] : List Value).toArray s 1 6 (wA μ zz)) (F0 m 8 ls []) := by
    intro n
    induction n with
    | zero => intro k H locs ls hn hk hv hX hl; exact absurd hn (by omega)
    | succ n ih =>
      intro k H locs ls hn hk hv hX hl
      refine lv_iload_n hx hb dX2_hoursUntilFull_8 rfl (lv_at hl 0 rfl) ?_
      refine lv_bipush (v := nI 100) hx hb dX2_hoursUntilFull_9 (by decide) ?_
      refine n_gt (tgt := 30) hx hb (by omega) (by omega) dX2_hoursUntilFull_11 (by decide) (fun c_6 => ?_) (fun c_6 => ?_)
      · skip
        refine lv_iconst (v := (-1 : Int32)) hx hb dX2_hoursUntilFull_30 (by decide) ?_
        exact vx_ret (w_iret hx hb hr hlocks hX ⟨i, hi, hxe, by rw [← hv, show k = 101 by omega]; rfl, rfl⟩ ⟨Nat.le_of_ble_eq_true rfl, Nat.le_of_ble_eq_true rfl⟩ dX2_hoursUntilFull_31)
      · skip
        refine lv_aload_n hx hb dX2_hoursUntilFull_14 rfl (lv_at hl 1 rfl) ?_
        refine lv_iload_n hx hb dX2_hoursUntilFull_15 rfl (lv_at hl 0 rfl) ?_
        have hm : σ 6 i * k ≤ 9 * 100 := Nat.mul_le_mul (by omega) (by omega)
        refine w_call (w_runVN (n := 1) (As := [.int (nI k)]) (rest := []) hx hb hml hown hX (c_X1_isFullAfter l g μ H.size kw_5 (by omega) (by omega)) kw413 kw5 kw410 kw412 kp19 wn_X1_isFullAfter rfl kw_5 rfl ⟨Nat.le_of_ble_eq_true rfl, Nat.le_of_ble_eq_true rfl⟩ hl.1 rfl (Nat.le_of_ble_eq_true rfl) dX2_hoursUntilFull_16 ⟨Nat.le_of_ble_eq_true rfl, Nat.le_of_ble_eq_true rfl⟩) hX (fun r_9 μ_7 H locs q_8 hX hz => ?_)
        obtain ⟨q_11, e_10⟩ := q_8
        rw [e_10] at hX
        obtain ⟨rfl, p_12⟩ | ⟨rfl, p_13⟩ := q_11
        · skip
          refine W.eq (g2 := F0 m 19 ls [.int (nI 1)]) rfl ?_
          refine n_if_eq (tgt := 24) hx hb (by omega) dX2_hoursUntilFull_19 (by decide) (fun h => absurd h (by omega)) (fun _ => ?_)
          refine lv_iload_n hx hb dX2_hoursUntilFull_22 rfl (lv_at hl 0 rfl) ?_
          exact vx_ret (w_iret hx hb hr hlocks hX ⟨i, hi, hxe, by rw [← hv, show 101 - k = (100 - k) + 1 by omega]; simp only [ufl, if_pos (show σ 5 i - σ 7 i ≤ σ 6 i * k by omega)], rfl⟩ ⟨Nat.le_of_ble_eq_true rfl, Nat.le_of_ble_eq_true rfl⟩ dX2_hoursUntilFull_23)
        · skip
          refine W.eq (g2 := F0 m 19 ls [.int (nI 0)]) rfl ?_
          refine n_if_eq (tgt := 24) hx hb (by omega) dX2_hoursUntilFull_19 (by decide) (fun _ => ?_) (fun h => absurd h (by omega))
          refine lv_iinc (v := nI (k + 1)) (lv' := [(3, .int (nI (k + 1))), (2, .ref (Λ 7 i)), (0, .ref (Λ 0 0)), (1, .int x)]) hx hb dX2_hoursUntilFull_24 hl (k := 0) rfl (nI_inc _) (by decide) rfl (fun ls hl => ?_)
          refine lv_goto (tgt := 8) hx hb dX2_hoursUntilFull_27 (by decide) ?_
          refine ih (k + 1) H locs ls (by omega) (by omega) (by rw [← hv, show 101 - k = (101 - (k + 1)) + 1 by omega]; simp only [ufl, if_neg (show ¬ σ 5 i - σ 7 i ≤ σ 6 i * k by omega)]) hX ?_
          exact lv_sub hl [0, 1, 2, 3] rfl
  exact hloop 102 0 H _ ls (by omega) (by omega) rfl hX hl

set_option maxHeartbeats 4000000 in
set_option maxRecDepth 100000 in
/-- when it is full -/
theorem c_X2_hoursUntilFull_g (l : Launch) (g : wG) (μ : wMu) (zz : Nat) {Λ σ : sSt} {xv : Option Int64} (hF : fD g Λ xv σ μ) (hO : sOk σ) {i : Nat} (hi : i < σ 3 0) : wMet l yX2_hoursUntilFull cX2_hoursUntilFull 4 (some .int) 4 0 0 85 g [.ref (Λ 0 0), .int (nI i)] μ zz (fun r μ' => r = some (.int (vFul σ i)) ∧ μ' = μ) := by
  refine wMet.of (by decide) (Nat.le_of_ble_eq_true rfl) ?_
  intro p e s m below meth c ls hx hb hr hml hown hlocks hin hl hsz hX
  have hl : lv_has ls 4 [(0, .ref (Λ 0 0)), (1, .int (nI i))] := hl
  obtain ⟨f1, ⟨m1, f2⟩, ⟨m2, f3⟩, f4, f5, f6, f7, ⟨t1, t2, t3, t4, f8⟩, ⟨u1, u2, u3, u4, u5, f9⟩, f10, f11⟩ := id hF
  obtain ⟨o1, o2, o3, o4, o5, o6, o7⟩ := id hO
  refine lv_aload_n hx hb dX2_hoursUntilFull_0 rfl (lv_at hl 0 rfl) ?_
  refine lv_iload_n hx hb dX2_hoursUntilFull_1 rfl (lv_at hl 1 rfl) ?_
  refine w_call (w_runV (n := 1) (As := [.int (nI i)]) (rest := []) hx hb hml hown hX (c_X2_wandAt_g l g μ s.heap.size hF hO hi) kw337 kw1 kw334 kw336 kp13 wn_X2_wandAt rfl f1 rfl ⟨Nat.le_of_ble_eq_true rfl, Nat.le_of_ble_eq_true rfl⟩ hl.1 rfl (Nat.le_of_ble_eq_true rfl) dX2_hoursUntilFull_2 ⟨Nat.le_of_ble_eq_true rfl, Nat.le_of_ble_eq_true rfl⟩) hX (fun r_3 μ_1 H locs q_2 hX hz => ?_)
  obtain ⟨rfl, e_4⟩ := q_2
  rw [e_4] at hX
  refine W.eq (g2 := F0 m 5 ls [.ref (Λ 7 i)]) rfl ?_
  have kw_5 := f6 i hi
  have kw_5b := o3 i hi
  refine lv_astore_n (lv' := [(2, .ref (Λ 7 i)), (0, .ref (Λ 0 0)), (1, .int (nI i))]) hx hb dX2_hoursUntilFull_5 rfl hl (by decide) rfl (fun ls hl => ?_)
  refine lv_iconst (v := nI 0) hx hb dX2_hoursUntilFull_6 (by decide) ?_
  refine lv_istore_n (lv' := [(3, .int (nI 0)), (2, .ref (Λ 7 i)), (0, .ref (Λ 0 0)), (1, .int (nI i))]) hx hb dX2_hoursUntilFull_7 rfl hl (by decide) rfl (fun ls hl => ?_)
  have hloop : ∀ (n : Nat) (k : Nat) (H : Heap) (locs : List Loc) (ls : Array Slot), 101 < k + n → k ≤ 101 → ufl (σ 5 i - σ 7 i) (σ 6 i) (101 - k) k = vFul σ i → wX g (wA μ zz) s H locs μ → lv_has ls 4 [(3, .int (nI k)), (2, .ref (Λ 7 i)), (0, .ref (Λ 0 0)), (1, .int (nI i))] → W p l e ({ frames := 4, cells := 0, slots := 0, locals := 85 } : Room) s m ([.ref (Λ 0 0), .int (nI i)] : List Value).toArray below meth c H locs 0 0 (MQ below (wQc g μ zz (fun r μ' => r = some (.int (vFul σ i)) ∧ μ' = μ)) ([.ref (Λ 0 0), .int (nI i)] : List Value).toArray s 0 0 (wA μ zz)) (F0 m 8 ls []) := by
    intro n
    induction n with
    | zero => intro k H locs ls hn hk hv hX hl; exact absurd hn (by omega)
    | succ n ih =>
      intro k H locs ls hn hk hv hX hl
      refine lv_iload_n hx hb dX2_hoursUntilFull_8 rfl (lv_at hl 0 rfl) ?_
      refine lv_bipush (v := nI 100) hx hb dX2_hoursUntilFull_9 (by decide) ?_
      refine n_gt (tgt := 30) hx hb (by omega) (by omega) dX2_hoursUntilFull_11 (by decide) (fun c_6 => ?_) (fun c_6 => ?_)
      · skip
        refine lv_iconst (v := (-1 : Int32)) hx hb dX2_hoursUntilFull_30 (by decide) ?_
        exact w_iret hx hb hr hlocks hX ⟨by rw [← hv, show k = 101 by omega]; rfl, rfl⟩ ⟨Nat.le_of_ble_eq_true rfl, Nat.le_of_ble_eq_true rfl⟩ dX2_hoursUntilFull_31
      · skip
        refine lv_aload_n hx hb dX2_hoursUntilFull_14 rfl (lv_at hl 1 rfl) ?_
        refine lv_iload_n hx hb dX2_hoursUntilFull_15 rfl (lv_at hl 0 rfl) ?_
        have hm : σ 6 i * k ≤ 9 * 100 := Nat.mul_le_mul (by omega) (by omega)
        refine w_call (w_runVN (n := 1) (As := [.int (nI k)]) (rest := []) hx hb hml hown hX (c_X1_isFullAfter l g μ H.size kw_5 (by omega) (by omega)) kw413 kw5 kw410 kw412 kp19 wn_X1_isFullAfter rfl kw_5 rfl ⟨Nat.le_of_ble_eq_true rfl, Nat.le_of_ble_eq_true rfl⟩ hl.1 rfl (Nat.le_of_ble_eq_true rfl) dX2_hoursUntilFull_16 ⟨Nat.le_of_ble_eq_true rfl, Nat.le_of_ble_eq_true rfl⟩) hX (fun r_9 μ_7 H locs q_8 hX hz => ?_)
        obtain ⟨q_11, e_10⟩ := q_8
        rw [e_10] at hX
        obtain ⟨rfl, p_12⟩ | ⟨rfl, p_13⟩ := q_11
        · skip
          refine W.eq (g2 := F0 m 19 ls [.int (nI 1)]) rfl ?_
          refine n_if_eq (tgt := 24) hx hb (by omega) dX2_hoursUntilFull_19 (by decide) (fun h => absurd h (by omega)) (fun _ => ?_)
          refine lv_iload_n hx hb dX2_hoursUntilFull_22 rfl (lv_at hl 0 rfl) ?_
          exact w_iret hx hb hr hlocks hX ⟨by rw [← hv, show 101 - k = (100 - k) + 1 by omega]; simp only [ufl, if_pos (show σ 5 i - σ 7 i ≤ σ 6 i * k by omega)], rfl⟩ ⟨Nat.le_of_ble_eq_true rfl, Nat.le_of_ble_eq_true rfl⟩ dX2_hoursUntilFull_23
        · skip
          refine W.eq (g2 := F0 m 19 ls [.int (nI 0)]) rfl ?_
          refine n_if_eq (tgt := 24) hx hb (by omega) dX2_hoursUntilFull_19 (by decide) (fun _ => ?_) (fun h => absurd h (by omega))
          refine lv_iinc (v := nI (k + 1)) (lv' := [(3, .int (nI (k + 1))), (2, .ref (Λ 7 i)), (0, .ref (Λ 0 0)), (1, .int (nI i))]) hx hb dX2_hoursUntilFull_24 hl (k := 0) rfl (nI_inc _) (by decide) rfl (fun ls hl => ?_)
          refine lv_goto (tgt := 8) hx hb dX2_hoursUntilFull_27 (by decide) ?_
          refine ih (k + 1) H locs ls (by omega) (by omega) (by rw [← hv, show 101 - k = (101 - (k + 1)) + 1 by omega]; simp only [ufl, if_neg (show ¬ σ 5 i - σ 7 i ≤ σ 6 i * k by omega)]) hX ?_
          exact lv_sub hl [0, 1, 2, 3] rfl
  exact hloop 102 0 H _ ls (by omega) (by omega) rfl hX hl

def bV (σ : sSt) (sz n : Nat) : Int32 := if bstC σ sz n = 0 then -1 else nI (bstC σ sz n - 1)
def mV (σ : sSt) (sz n : Nat) : Int32 := if bstC σ sz n = 0 then -1 else nI (lft σ (bstC σ sz n - 1) sz)
theorem bstC_le (σ : sSt) (sz : Nat) : ∀ n, bstC σ sz n ≤ n
  | 0 => Nat.le_refl 0
  | n + 1 => by
    have h := bstC_le σ sz n
    simp only [bstC]
    split <;> omega
theorem mV_le {σ : sSt} (hO : sOk σ) {sz n a : Nat} (hn : n ≤ σ 4 0) (ha : a < 2 ^ 31) : nI a ≤ mV σ sz n ↔ ¬ (bstC σ sz n = 0 ∨ lft σ (bstC σ sz n - 1) sz < a) := by
  have h1 := bstC_le σ sz n
  unfold mV
  by_cases h : bstC σ sz n = 0
  · rw [if_pos h, Int32.le_iff_toInt_le, nI_toInt ha, show (-1 : Int32).toInt = -1 by decide]
    constructor
    · intro z; omega
    · intro z; exact absurd (Or.inl h) z
  · have h2 := (hO.2.2.2.1 (bstC σ sz n - 1) (by omega)).1
    have h3 := hO.2.2.1 _ h2
    have h4 : lft σ (bstC σ sz n - 1) sz ≤ 60 := by unfold lft; omega
    rw [if_neg h, nI_leI ha (by omega)]
    constructor
    · intro z w; rcases w with w | w
      · exact h w
      · omega
    · intro z
      exact Nat.le_of_not_lt fun w => z (Or.inr w)
set_option maxHeartbeats 4000000 in
set_option maxRecDepth 100000 in
/-- the best one, or thrown -/
theorem c_X2_bestChild (l : Launch) (hlt : l.stackTraces = false) (g : wG) (μ : wMu) (zz : Nat) {Λ σ : sSt} {xv : Option Int64} (hF : fD g Λ xv σ μ) (hO : sOk σ) {x : Int32} : wMetX l yX2_bestChild cX2_bestChild 6 (some .int) 8 1 6 132 g [.ref (Λ 0 0), .int x] μ zz (fun r μ' => ∃ sz, 1 ≤ sz ∧ sz ≤ 20 ∧ x = nI sz ∧ r = some (.int (vBst σ sz)) ∧ μ' = μ) (fun E => E = xIAE ∧ ¬ isI x 1 20) := by
  refine wMetX.of (by decide) (Nat.le_of_ble_eq_true rfl) ?_
  intro p e s m below meth c ls hx hb hr hml hown hlocks hin hl hsz hX hxt
  have hl : lv_has ls 6 [(0, .ref (Λ 0 0)), (1, .int x)] := hl
  obtain ⟨f1, ⟨m1, f2⟩, ⟨m2, f3⟩, f4, f5, f6, f7, ⟨t1, t2, t3, t4, f8⟩, ⟨u1, u2, u3, u4, u5, f9⟩, f10, f11⟩ := id hF
  obtain ⟨o1, o2, o3, o4, o5, o6, o7⟩ := id hO
  refine lv_iload_n hx hb dX2_bestChild_0 rfl (lv_at hl 1 rfl) ?_
  refine w_callX (w_runSX (n := 1) (As := [.int x]) (rest := []) hx hb hml hown hX (c_X2_needSize l hlt g μ s.heap.size) kw226 kw1 kw224 kw225 wn_X2_needSize rfl ⟨Nat.le_of_ble_eq_true rfl, Nat.le_of_ble_eq_true rfl⟩ hl.1 rfl (Nat.le_of_ble_eq_true rfl) dX2_bestChild_1 ⟨Nat.le_of_ble_eq_true rfl, Nat.le_of_ble_eq_true rfl⟩) hX (fun E ce q9 H locs hE hX hce hcv hcl => ?_) (fun r_3 μ_1 H locs q_2 hX hz => ?_)
  · skip
    exact w_out hxt hlocks hX (by first | exact hE | exact Or.inl hE | simp_all) hce hcv hcl ⟨Nat.le_of_ble_eq_true rfl, Nat.le_of_ble_eq_true rfl⟩
  obtain ⟨sz, h1, h2, hxe, rfl, e_4⟩ := q_2
  rw [e_4] at hX
  refine W.eq (g2 := F0 m 4 ls []) rfl ?_
  rw [hxe] at hl
  refine lv_iconst (v := (-1 : Int32)) hx hb dX2_bestChild_4 (by decide) ?_
  refine lv_istore_n (lv' := [(2, .int (-1 : Int32)), (0, .ref (Λ 0 0)), (1, .int (nI sz))]) hx hb dX2_bestChild_5 rfl hl (by decide) rfl (fun ls hl => ?_)
  refine lv_iconst (v := (-1 : Int32)) hx hb dX2_bestChild_6 (by decide) ?_
  refine lv_istore_n (lv' := [(3, .int (-1 : Int32)), (2, .int (-1 : Int32)), (0, .ref (Λ 0 0)), (1, .int (nI sz))]) hx hb dX2_bestChild_7 rfl hl (by decide) rfl (fun ls hl => ?_)
  refine lv_iconst (v := nI 0) hx hb dX2_bestChild_8 (by decide) ?_
  refine lv_istore (lv' := [(4, .int (nI 0)), (3, .int (-1 : Int32)), (2, .int (-1 : Int32)), (0, .ref (Λ 0 0)), (1, .int (nI sz))]) hx hb dX2_bestChild_9 hl (by decide) rfl (fun ls hl => ?_)
  have hloop : ∀ (n : Nat) (i : Nat) (H : Heap) (locs : List Loc) (ls : Array Slot), σ 4 0 < i + n → i ≤ σ 4 0 → wX g (wA μ zz) s H locs μ → lv_has ls 6 [(4, .int (nI i)), (3, .int (mV σ sz i)), (2, .int (bV σ sz i)), (0, .ref (Λ 0 0)), (1, .int (nI sz))] → W p l e ({ frames := 8, cells := 1, slots := 6, locals := 132 } : Room) s m ([.ref (Λ 0 0), .int x] : List Value).toArray below meth c H locs 1 6 (vx_MQ below (wQc g μ zz (fun r μ' => ∃ sz, 1 ≤ sz ∧ sz ≤ 20 ∧ x = nI sz ∧ r = some (.int (vBst σ sz)) ∧ μ' = μ)) (wXc g μ zz (fun E => E = xIAE ∧ ¬ isI x 1 20)) ([.ref (Λ 0 0), .int x] : List Value).toArray s 1 6 (wA μ zz)) (F0 m 11 ls []) := by
    intro n
    induction n with
    | zero => intro i H locs ls hn hi hX hl; exact absurd hn (by omega)
    | succ n ih =>
      intro i H locs ls hn hi hX hl
      refine lv_iload hx hb dX2_bestChild_11 (lv_at hl 0 rfl) ?_
      refine lv_aload_n hx hb dX2_bestChild_13 rfl (lv_at hl 3 rfl) ?_
      refine gX2_1 hx hb hX hown f1 kw109 dX2_bestChild_14 ?_
      refine w_call (w_runV (n := 0) (As := []) (rest := [.int (nI i)]) hx hb hml hown hX (c_Jx4a65c_size_8abf5 l g μ H.size f3) kw141 kw4 kw138 kw139 kw140 wn_Jx4a65c_size_8abf5 rfl f3 rfl ⟨Nat.le_of_ble_eq_true rfl, Nat.le_of_ble_eq_true rfl⟩ hl.1 rfl (Nat.le_of_ble_eq_true rfl) dX2_bestChild_17 ⟨Nat.le_of_ble_eq_true rfl, Nat.le_of_ble_eq_true rfl⟩) hX (fun r_7 μ_5 H locs q_6 hX hz => ?_)
      obtain ⟨rfl, e_8⟩ := q_6
      rw [e_8] at hX
      refine W.eq (g2 := F0 m 20 ls [.int (nI (σ 4 0)), .int (nI i)]) rfl ?_
      refine n_ge (tgt := 72) hx hb (by omega) (by omega) dX2_bestChild_20 (by decide) (fun c_9 => ?_) (fun c_9 => ?_)
      · skip
        refine lv_iload_n hx hb dX2_bestChild_72 rfl (lv_at hl 2 rfl) ?_
        exact vx_ret (w_iret hx hb hr hlocks hX ⟨sz, h1, h2, hxe, by rw [show i = σ 4 0 by omega]; rfl, rfl⟩ ⟨Nat.le_of_ble_eq_true rfl, Nat.le_of_ble_eq_true rfl⟩ dX2_bestChild_73)
      · skip
        refine lv_aload_n hx hb dX2_bestChild_23 rfl (lv_at hl 3 rfl) ?_
        refine gX2_1 hx hb hX hown f1 kw109 dX2_bestChild_24 ?_
        refine lv_iload hx hb dX2_bestChild_27 (lv_at hl 0 rfl) ?_
        obtain ⟨fa, fa1, fa2⟩ := f5.pos (by omega)
        refine w_call (w_runV (n := 1) (As := [.int (nI i)]) (rest := []) hx hb hml hown hX (c_Jx4a65c_get_915e3 l g μ H.size f3 fa1 (by omega) (by omega) (fa2 i (by omega))) kw213 kw4 kw210 kw211 kw212 wn_Jx4a65c_get_915e3 rfl f3 rfl ⟨Nat.le_of_ble_eq_true rfl, Nat.le_of_ble_eq_true rfl⟩ hl.1 rfl (Nat.le_of_ble_eq_true rfl) dX2_bestChild_29 ⟨Nat.le_of_ble_eq_true rfl, Nat.le_of_ble_eq_true rfl⟩) hX (fun r_12 μ_10 H locs q_11 hX hz => ?_)
        obtain ⟨rfl, e_13⟩ := q_11
        rw [e_13] at hX
        refine W.eq (g2 := F0 m 32 ls [.ref (Λ 8 i)]) rfl ?_
        have hj : i < σ 4 0 := by omega
        have kc_14 := f7 i hj
        have kc_14b := o4 i hj
        have kw_15 := f6 (σ 8 i) kc_14b.1
        have kw_15b := o3 (σ 8 i) kc_14b.1
        refine w_cast hx hb hX hown kw77 kc_14 rfl dX2_bestChild_32 ?_
        refine lv_astore (lv' := [(5, .ref (Λ 8 i)), (4, .int (nI i)), (3, .int (mV σ sz i)), (2, .int (bV σ sz i)), (0, .ref (Λ 0 0)), (1, .int (nI sz))]) hx hb dX2_bestChild_35 hl (by decide) rfl (fun ls hl => ?_)
        refine lv_aload hx hb dX2_bestChild_37 (lv_at hl 0 rfl) ?_
        refine lv_iload_n hx hb dX2_bestChild_39 rfl (lv_at hl 5 rfl) ?_
        refine w_call (w_runVN (n := 1) (As := [.int (nI sz)]) (rest := []) hx hb hml hown hX (c_X0_canHave l g μ H.size kc_14 kw_15 (by omega) (by omega) (by omega) h1 h2) kw253 kw6 kw393 kw252 kp3 wn_X0_canHave rfl kc_14 rfl ⟨Nat.le_of_ble_eq_true rfl, Nat.le_of_ble_eq_true rfl⟩ hl.1 rfl (Nat.le_of_ble_eq_true rfl) dX2_bestChild_40 ⟨Nat.le_of_ble_eq_true rfl, Nat.le_of_ble_eq_true rfl⟩) hX (fun r_18 μ_16 H locs q_17 hX hz => ?_)
        obtain ⟨q_20, e_19⟩ := q_17
        rw [e_19] at hX
        obtain ⟨rfl, p_21⟩ | ⟨rfl, p_22⟩ := q_20
        · skip
          refine W.eq (g2 := F0 m 43 ls [.int (nI 1)]) rfl ?_
          refine n_if_eq (tgt := 66) hx hb (by omega) dX2_bestChild_43 (by decide) (fun h => absurd h (by omega)) (fun _ => ?_)
          refine lv_aload hx hb dX2_bestChild_46 (lv_at hl 0 rfl) ?_
          refine lv_iload_n hx hb dX2_bestChild_48 rfl (lv_at hl 5 rfl) ?_
          refine w_call (w_runVN (n := 1) (As := [.int (nI sz)]) (rest := []) hx hb hml hown hX (c_X0_dustLeftAfter l g μ H.size kc_14 kw_15 (by omega) (by omega) h2 p_21.2) kw269 kw6 kw418 kw268 kp7 wn_X0_dustLeftAfter rfl kc_14 rfl ⟨Nat.le_of_ble_eq_true rfl, Nat.le_of_ble_eq_true rfl⟩ hl.1 rfl (Nat.le_of_ble_eq_true rfl) dX2_bestChild_49 ⟨Nat.le_of_ble_eq_true rfl, Nat.le_of_ble_eq_true rfl⟩) hX (fun r_25 μ_23 H locs q_24 hX hz => ?_)
          obtain ⟨rfl, e_26⟩ := q_24
          rw [e_26] at hX
          refine W.eq (g2 := F0 m 52 ls [.int (nI (lft σ i sz))]) rfl ?_
          refine lv_iload_n hx hb dX2_bestChild_52 rfl (lv_at hl 2 rfl) ?_
          refine lv_icmp_le (tgt := 66) hx hb dX2_bestChild_53 (by decide) (fun c_27 => ?_) (fun c_27 => ?_)
          · skip
            have hlf : lft σ i sz ≤ 60 := by unfold lft; omega
            rw [mV_le hO (by omega) (by omega)] at c_27
            refine lv_iinc (v := nI (i + 1)) (lv' := [(4, .int (nI (i + 1))), (5, .ref (Λ 8 i)), (3, .int (mV σ sz i)), (2, .int (bV σ sz i)), (0, .ref (Λ 0 0)), (1, .int (nI sz))]) hx hb dX2_bestChild_66 hl (k := 1) rfl (nI_inc _) (by decide) rfl (fun ls hl => ?_)
            refine lv_goto (tgt := 11) hx hb dX2_bestChild_69 (by decide) ?_
            have hb1 : bstC σ sz (i + 1) = bstC σ sz i := by simp only [bstC]; exact if_neg (fun z => c_27 z.2)
            refine ih (i + 1) H locs ls (by omega) (by omega) hX ?_
            rw [show mV σ sz (i + 1) = mV σ sz i by simp only [mV, hb1], show bV σ sz (i + 1) = bV σ sz i by simp only [bV, hb1]]
            exact lv_sub hl [0, 2, 3, 4, 5] rfl
          · skip
            have hlf : lft σ i sz ≤ 60 := by unfold lft; omega
            rw [mV_le hO (by omega) (by omega)] at c_27
            refine lv_iload hx hb dX2_bestChild_56 (lv_at hl 1 rfl) ?_
            refine lv_istore_n (lv' := [(2, .int (nI i)), (5, .ref (Λ 8 i)), (4, .int (nI i)), (3, .int (mV σ sz i)), (0, .ref (Λ 0 0)), (1, .int (nI sz))]) hx hb dX2_bestChild_58 rfl hl (by decide) rfl (fun ls hl => ?_)
            refine lv_aload hx hb dX2_bestChild_59 (lv_at hl 1 rfl) ?_
            refine lv_iload_n hx hb dX2_bestChild_61 rfl (lv_at hl 5 rfl) ?_
            refine w_call (w_runVN (n := 1) (As := [.int (nI sz)]) (rest := []) hx hb hml hown hX (c_X0_dustLeftAfter l g μ H.size kc_14 kw_15 (by omega) (by omega) h2 p_21.2) kw269 kw6 kw418 kw268 kp7 wn_X0_dustLeftAfter rfl kc_14 rfl ⟨Nat.le_of_ble_eq_true rfl, Nat.le_of_ble_eq_true rfl⟩ hl.1 rfl (Nat.le_of_ble_eq_true rfl) dX2_bestChild_62 ⟨Nat.le_of_ble_eq_true rfl, Nat.le_of_ble_eq_true rfl⟩) hX (fun r_30 μ_28 H locs q_29 hX hz => ?_)
            obtain ⟨rfl, e_31⟩ := q_29
            rw [e_31] at hX
            refine W.eq (g2 := F0 m 65 ls [.int (nI (lft σ i sz))]) rfl ?_
            refine lv_istore_n (lv' := [(3, .int (nI (lft σ i sz))), (2, .int (nI i)), (5, .ref (Λ 8 i)), (4, .int (nI i)), (0, .ref (Λ 0 0)), (1, .int (nI sz))]) hx hb dX2_bestChild_65 rfl hl (by decide) rfl (fun ls hl => ?_)
            refine lv_iinc (v := nI (i + 1)) (lv' := [(4, .int (nI (i + 1))), (3, .int (nI (lft σ i sz))), (2, .int (nI i)), (5, .ref (Λ 8 i)), (0, .ref (Λ 0 0)), (1, .int (nI sz))]) hx hb dX2_bestChild_66 hl (k := 3) rfl (nI_inc _) (by decide) rfl (fun ls hl => ?_)
            refine lv_goto (tgt := 11) hx hb dX2_bestChild_69 (by decide) ?_
            have hb1 : bstC σ sz (i + 1) = i + 1 := by simp only [bstC]; exact if_pos ⟨p_21, Classical.byContradiction c_27⟩
            refine ih (i + 1) H locs ls (by omega) (by omega) hX ?_
            rw [show mV σ sz (i + 1) = nI (lft σ i sz) by simp only [mV, hb1]; rw [if_neg (by omega), Nat.add_sub_cancel], show bV σ sz (i + 1) = nI i by simp only [bV, hb1]; rw [if_neg (by omega), Nat.add_sub_cancel]]
            exact lv_sub hl [0, 1, 2, 4, 5] rfl
        · skip
          refine W.eq (g2 := F0 m 43 ls [.int (nI 0)]) rfl ?_
          refine n_if_eq (tgt := 66) hx hb (by omega) dX2_bestChild_43 (by decide) (fun _ => ?_) (fun h => absurd h (by omega))
          refine lv_iinc (v := nI (i + 1)) (lv' := [(4, .int (nI (i + 1))), (5, .ref (Λ 8 i)), (3, .int (mV σ sz i)), (2, .int (bV σ sz i)), (0, .ref (Λ 0 0)), (1, .int (nI sz))]) hx hb dX2_bestChild_66 hl (k := 1) rfl (nI_inc _) (by decide) rfl (fun ls hl => ?_)
          refine lv_goto (tgt := 11) hx hb dX2_bestChild_69 (by decide) ?_
          have hb1 : bstC σ sz (i + 1) = bstC σ sz i := by simp only [bstC]; exact if_neg (fun z => p_22 z.1)
          refine ih (i + 1) H locs ls (by omega) (by omega) hX ?_
          rw [show mV σ sz (i + 1) = mV σ sz i by simp only [mV, hb1], show bV σ sz (i + 1) = bV σ sz i by simp only [bV, hb1]]
          exact lv_sub hl [0, 2, 3, 4, 5] rfl
  exact hloop (σ 4 0 + 1) 0 H _ ls (by omega) (by omega) hX hl

set_option maxHeartbeats 4000000 in
set_option maxRecDepth 100000 in
/-- the best one -/
theorem c_X2_bestChild_g (l : Launch) (g : wG) (μ : wMu) (zz : Nat) {Λ σ : sSt} {xv : Option Int64} (hF : fD g Λ xv σ μ) (hO : sOk σ) {sz : Nat} (h1 : 1 ≤ sz) (h2 : sz ≤ 20) : wMet l yX2_bestChild cX2_bestChild 6 (some .int) 3 0 0 64 g [.ref (Λ 0 0), .int (nI sz)] μ zz (fun r μ' => r = some (.int (vBst σ sz)) ∧ μ' = μ) := by
  refine wMet.of (by decide) (Nat.le_of_ble_eq_true rfl) ?_
  intro p e s m below meth c ls hx hb hr hml hown hlocks hin hl hsz hX
  have hl : lv_has ls 6 [(0, .ref (Λ 0 0)), (1, .int (nI sz))] := hl
  obtain ⟨f1, ⟨m1, f2⟩, ⟨m2, f3⟩, f4, f5, f6, f7, ⟨t1, t2, t3, t4, f8⟩, ⟨u1, u2, u3, u4, u5, f9⟩, f10, f11⟩ := id hF
  obtain ⟨o1, o2, o3, o4, o5, o6, o7⟩ := id hO
  refine lv_iload_n hx hb dX2_bestChild_0 rfl (lv_at hl 1 rfl) ?_
  refine w_call (w_runS (n := 1) (As := [.int (nI sz)]) (rest := []) hx hb hml hown hX (c_X2_needSize_g l g μ s.heap.size h1 h2) kw226 kw1 kw224 kw225 wn_X2_needSize rfl ⟨Nat.le_of_ble_eq_true rfl, Nat.le_of_ble_eq_true rfl⟩ hl.1 rfl (Nat.le_of_ble_eq_true rfl) dX2_bestChild_1 ⟨Nat.le_of_ble_eq_true rfl, Nat.le_of_ble_eq_true rfl⟩) hX (fun r_3 μ_1 H locs q_2 hX hz => ?_)
  obtain ⟨rfl, e_4⟩ := q_2
  rw [e_4] at hX
  refine W.eq (g2 := F0 m 4 ls []) rfl ?_
  refine lv_iconst (v := (-1 : Int32)) hx hb dX2_bestChild_4 (by decide) ?_
  refine lv_istore_n (lv' := [(2, .int (-1 : Int32)), (0, .ref (Λ 0 0)), (1, .int (nI sz))]) hx hb dX2_bestChild_5 rfl hl (by decide) rfl (fun ls hl => ?_)
  refine lv_iconst (v := (-1 : Int32)) hx hb dX2_bestChild_6 (by decide) ?_
  refine lv_istore_n (lv' := [(3, .int (-1 : Int32)), (2, .int (-1 : Int32)), (0, .ref (Λ 0 0)), (1, .int (nI sz))]) hx hb dX2_bestChild_7 rfl hl (by decide) rfl (fun ls hl => ?_)
  refine lv_iconst (v := nI 0) hx hb dX2_bestChild_8 (by decide) ?_
  refine lv_istore (lv' := [(4, .int (nI 0)), (3, .int (-1 : Int32)), (2, .int (-1 : Int32)), (0, .ref (Λ 0 0)), (1, .int (nI sz))]) hx hb dX2_bestChild_9 hl (by decide) rfl (fun ls hl => ?_)
  have hloop : ∀ (n : Nat) (i : Nat) (H : Heap) (locs : List Loc) (ls : Array Slot), σ 4 0 < i + n → i ≤ σ 4 0 → wX g (wA μ zz) s H locs μ → lv_has ls 6 [(4, .int (nI i)), (3, .int (mV σ sz i)), (2, .int (bV σ sz i)), (0, .ref (Λ 0 0)), (1, .int (nI sz))] → W p l e ({ frames := 3, cells := 0, slots := 0, locals := 64 } : Room) s m ([.ref (Λ 0 0), .int (nI sz)] : List Value).toArray below meth c H locs 0 0 (MQ below (wQc g μ zz (fun r μ' => r = some (.int (vBst σ sz)) ∧ μ' = μ)) ([.ref (Λ 0 0), .int (nI sz)] : List Value).toArray s 0 0 (wA μ zz)) (F0 m 11 ls []) := by
    intro n
    induction n with
    | zero => intro i H locs ls hn hi hX hl; exact absurd hn (by omega)
    | succ n ih =>
      intro i H locs ls hn hi hX hl
      refine lv_iload hx hb dX2_bestChild_11 (lv_at hl 0 rfl) ?_
      refine lv_aload_n hx hb dX2_bestChild_13 rfl (lv_at hl 3 rfl) ?_
      refine gX2_1 hx hb hX hown f1 kw109 dX2_bestChild_14 ?_
      refine w_call (w_runV (n := 0) (As := []) (rest := [.int (nI i)]) hx hb hml hown hX (c_Jx4a65c_size_8abf5 l g μ H.size f3) kw141 kw4 kw138 kw139 kw140 wn_Jx4a65c_size_8abf5 rfl f3 rfl ⟨Nat.le_of_ble_eq_true rfl, Nat.le_of_ble_eq_true rfl⟩ hl.1 rfl (Nat.le_of_ble_eq_true rfl) dX2_bestChild_17 ⟨Nat.le_of_ble_eq_true rfl, Nat.le_of_ble_eq_true rfl⟩) hX (fun r_7 μ_5 H locs q_6 hX hz => ?_)
      obtain ⟨rfl, e_8⟩ := q_6
      rw [e_8] at hX
      refine W.eq (g2 := F0 m 20 ls [.int (nI (σ 4 0)), .int (nI i)]) rfl ?_
      refine n_ge (tgt := 72) hx hb (by omega) (by omega) dX2_bestChild_20 (by decide) (fun c_9 => ?_) (fun c_9 => ?_)
      · skip
        refine lv_iload_n hx hb dX2_bestChild_72 rfl (lv_at hl 2 rfl) ?_
        exact w_iret hx hb hr hlocks hX ⟨by rw [show i = σ 4 0 by omega]; rfl, rfl⟩ ⟨Nat.le_of_ble_eq_true rfl, Nat.le_of_ble_eq_true rfl⟩ dX2_bestChild_73
      · skip
        refine lv_aload_n hx hb dX2_bestChild_23 rfl (lv_at hl 3 rfl) ?_
        refine gX2_1 hx hb hX hown f1 kw109 dX2_bestChild_24 ?_
        refine lv_iload hx hb dX2_bestChild_27 (lv_at hl 0 rfl) ?_
        obtain ⟨fa, fa1, fa2⟩ := f5.pos (by omega)
        refine w_call (w_runV (n := 1) (As := [.int (nI i)]) (rest := []) hx hb hml hown hX (c_Jx4a65c_get_915e3 l g μ H.size f3 fa1 (by omega) (by omega) (fa2 i (by omega))) kw213 kw4 kw210 kw211 kw212 wn_Jx4a65c_get_915e3 rfl f3 rfl ⟨Nat.le_of_ble_eq_true rfl, Nat.le_of_ble_eq_true rfl⟩ hl.1 rfl (Nat.le_of_ble_eq_true rfl) dX2_bestChild_29 ⟨Nat.le_of_ble_eq_true rfl, Nat.le_of_ble_eq_true rfl⟩) hX (fun r_12 μ_10 H locs q_11 hX hz => ?_)
        obtain ⟨rfl, e_13⟩ := q_11
        rw [e_13] at hX
        refine W.eq (g2 := F0 m 32 ls [.ref (Λ 8 i)]) rfl ?_
        have hj : i < σ 4 0 := by omega
        have kc_14 := f7 i hj
        have kc_14b := o4 i hj
        have kw_15 := f6 (σ 8 i) kc_14b.1
        have kw_15b := o3 (σ 8 i) kc_14b.1
        refine w_cast hx hb hX hown kw77 kc_14 rfl dX2_bestChild_32 ?_
        refine lv_astore (lv' := [(5, .ref (Λ 8 i)), (4, .int (nI i)), (3, .int (mV σ sz i)), (2, .int (bV σ sz i)), (0, .ref (Λ 0 0)), (1, .int (nI sz))]) hx hb dX2_bestChild_35 hl (by decide) rfl (fun ls hl => ?_)
        refine lv_aload hx hb dX2_bestChild_37 (lv_at hl 0 rfl) ?_
        refine lv_iload_n hx hb dX2_bestChild_39 rfl (lv_at hl 5 rfl) ?_
        refine w_call (w_runVN (n := 1) (As := [.int (nI sz)]) (rest := []) hx hb hml hown hX (c_X0_canHave l g μ H.size kc_14 kw_15 (by omega) (by omega) (by omega) h1 h2) kw253 kw6 kw393 kw252 kp3 wn_X0_canHave rfl kc_14 rfl ⟨Nat.le_of_ble_eq_true rfl, Nat.le_of_ble_eq_true rfl⟩ hl.1 rfl (Nat.le_of_ble_eq_true rfl) dX2_bestChild_40 ⟨Nat.le_of_ble_eq_true rfl, Nat.le_of_ble_eq_true rfl⟩) hX (fun r_18 μ_16 H locs q_17 hX hz => ?_)
        obtain ⟨q_20, e_19⟩ := q_17
        rw [e_19] at hX
        obtain ⟨rfl, p_21⟩ | ⟨rfl, p_22⟩ := q_20
        · skip
          refine W.eq (g2 := F0 m 43 ls [.int (nI 1)]) rfl ?_
          refine n_if_eq (tgt := 66) hx hb (by omega) dX2_bestChild_43 (by decide) (fun h => absurd h (by omega)) (fun _ => ?_)
          refine lv_aload hx hb dX2_bestChild_46 (lv_at hl 0 rfl) ?_
          refine lv_iload_n hx hb dX2_bestChild_48 rfl (lv_at hl 5 rfl) ?_
          refine w_call (w_runVN (n := 1) (As := [.int (nI sz)]) (rest := []) hx hb hml hown hX (c_X0_dustLeftAfter l g μ H.size kc_14 kw_15 (by omega) (by omega) h2 p_21.2) kw269 kw6 kw418 kw268 kp7 wn_X0_dustLeftAfter rfl kc_14 rfl ⟨Nat.le_of_ble_eq_true rfl, Nat.le_of_ble_eq_true rfl⟩ hl.1 rfl (Nat.le_of_ble_eq_true rfl) dX2_bestChild_49 ⟨Nat.le_of_ble_eq_true rfl, Nat.le_of_ble_eq_true rfl⟩) hX (fun r_25 μ_23 H locs q_24 hX hz => ?_)
          obtain ⟨rfl, e_26⟩ := q_24
          rw [e_26] at hX
          refine W.eq (g2 := F0 m 52 ls [.int (nI (lft σ i sz))]) rfl ?_
          refine lv_iload_n hx hb dX2_bestChild_52 rfl (lv_at hl 2 rfl) ?_
          refine lv_icmp_le (tgt := 66) hx hb dX2_bestChild_53 (by decide) (fun c_27 => ?_) (fun c_27 => ?_)
          · skip
            have hlf : lft σ i sz ≤ 60 := by unfold lft; omega
            rw [mV_le hO (by omega) (by omega)] at c_27
            refine lv_iinc (v := nI (i + 1)) (lv' := [(4, .int (nI (i + 1))), (5, .ref (Λ 8 i)), (3, .int (mV σ sz i)), (2, .int (bV σ sz i)), (0, .ref (Λ 0 0)), (1, .int (nI sz))]) hx hb dX2_bestChild_66 hl (k := 1) rfl (nI_inc _) (by decide) rfl (fun ls hl => ?_)
            refine lv_goto (tgt := 11) hx hb dX2_bestChild_69 (by decide) ?_
            have hb1 : bstC σ sz (i + 1) = bstC σ sz i := by simp only [bstC]; exact if_neg (fun z => c_27 z.2)
            refine ih (i + 1) H locs ls (by omega) (by omega) hX ?_
            rw [show mV σ sz (i + 1) = mV σ sz i by simp only [mV, hb1], show bV σ sz (i + 1) = bV σ sz i by simp only [bV, hb1]]
            exact lv_sub hl [0, 2, 3, 4, 5] rfl
          · skip
            have hlf : lft σ i sz ≤ 60 := by unfold lft; omega
            rw [mV_le hO (by omega) (by omega)] at c_27
            refine lv_iload hx hb dX2_bestChild_56 (lv_at hl 1 rfl) ?_
            refine lv_istore_n (lv' := [(2, .int (nI i)), (5, .ref (Λ 8 i)), (4, .int (nI i)), (3, .int (mV σ sz i)), (0, .ref (Λ 0 0)), (1, .int (nI sz))]) hx hb dX2_bestChild_58 rfl hl (by decide) rfl (fun ls hl => ?_)
            refine lv_aload hx hb dX2_bestChild_59 (lv_at hl 1 rfl) ?_
            refine lv_iload_n hx hb dX2_bestChild_61 rfl (lv_at hl 5 rfl) ?_
            refine w_call (w_runVN (n := 1) (As := [.int (nI sz)]) (rest := []) hx hb hml hown hX (c_X0_dustLeftAfter l g μ H.size kc_14 kw_15 (by omega) (by omega) h2 p_21.2) kw269 kw6 kw418 kw268 kp7 wn_X0_dustLeftAfter rfl kc_14 rfl ⟨Nat.le_of_ble_eq_true rfl, Nat.le_of_ble_eq_true rfl⟩ hl.1 rfl (Nat.le_of_ble_eq_true rfl) dX2_bestChild_62 ⟨Nat.le_of_ble_eq_true rfl, Nat.le_of_ble_eq_true rfl⟩) hX (fun r_30 μ_28 H locs q_29 hX hz => ?_)
            obtain ⟨rfl, e_31⟩ := q_29
            rw [e_31] at hX
            refine W.eq (g2 := F0 m 65 ls [.int (nI (lft σ i sz))]) rfl ?_
            refine lv_istore_n (lv' := [(3, .int (nI (lft σ i sz))), (2, .int (nI i)), (5, .ref (Λ 8 i)), (4, .int (nI i)), (0, .ref (Λ 0 0)), (1, .int (nI sz))]) hx hb dX2_bestChild_65 rfl hl (by decide) rfl (fun ls hl => ?_)
            refine lv_iinc (v := nI (i + 1)) (lv' := [(4, .int (nI (i + 1))), (3, .int (nI (lft σ i sz))), (2, .int (nI i)), (5, .ref (Λ 8 i)), (0, .ref (Λ 0 0)), (1, .int (nI sz))]) hx hb dX2_bestChild_66 hl (k := 3) rfl (nI_inc _) (by decide) rfl (fun ls hl => ?_)
            refine lv_goto (tgt := 11) hx hb dX2_bestChild_69 (by decide) ?_
            have hb1 : bstC σ sz (i + 1) = i + 1 := by simp only [bstC]; exact if_pos ⟨p_21, Classical.byContradiction c_27⟩
            refine ih (i + 1) H locs ls (by omega) (by omega) hX ?_
            rw [show mV σ sz (i + 1) = nI (lft σ i sz) by simp only [mV, hb1]; rw [if_neg (by omega), Nat.add_sub_cancel], show bV σ sz (i + 1) = nI i by simp only [bV, hb1]; rw [if_neg (by omega), Nat.add_sub_cancel]]
            exact lv_sub hl [0, 1, 2, 4, 5] rfl
        · skip
          refine W.eq (g2 := F0 m 43 ls [.int (nI 0)]) rfl ?_
          refine n_if_eq (tgt := 66) hx hb (by omega) dX2_bestChild_43 (by decide) (fun _ => ?_) (fun h => absurd h (by omega))
          refine lv_iinc (v := nI (i + 1)) (lv' := [(4, .int (nI (i + 1))), (5, .ref (Λ 8 i)), (3, .int (mV σ sz i)), (2, .int (bV σ sz i)), (0, .ref (Λ 0 0)), (1, .int (nI sz))]) hx hb dX2_bestChild_66 hl (k := 1) rfl (nI_inc _) (by decide) rfl (fun ls hl => ?_)
          refine lv_goto (tgt := 11) hx hb dX2_bestChild_69 (by decide) ?_
          have hb1 : bstC σ sz (i + 1) = bstC σ sz i := by simp only [bstC]; exact if_neg (fun z => p_22 z.1)
          refine ih (i + 1) H locs ls (by omega) (by omega) hX ?_
          rw [show mV σ sz (i + 1) = mV σ sz i by simp only [mV, hb1], show bV σ sz (i + 1) = bV σ sz i by simp only [bV, hb1]]
          exact lv_sub hl [0, 2, 3, 4, 5] rfl
  exact hloop (σ 4 0 + 1) 0 H _ ls (by omega) (by omega) hX hl

