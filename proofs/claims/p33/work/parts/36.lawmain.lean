set_option maxHeartbeats 4000000 in
set_option maxRecDepth 100000 in
/-- three things done to both -/
theorem sl_acts {p : Program} {l : Launch} {e : Env} {s : State} {m : MethodId} {args : Array Value} {below : List Frame} {meth : Method} {c : Code} {Q : State → Prop} {A : Nat → Prop} {g : wG} {H : Heap} {locs : List Loc} {ls : Array Slot} {cells slots : Nat} {κ : wMu} (hx : p.tables.exec = Jvm.exec) (hb : c.code = cL_law) (hml : c.maxLocals = 25) (hown : s.vm.findClass yL_law.cls = some m.cls)  {o1 o2 i t : Nat} (hW : bW g o1 o2 i κ) (hi : i ≤ 390) (ht : t ≤ 7) (hc : cells ≤ 500000) (hs : slots ≤ 7000000) (hX : wX g A s H locs κ) (hl : lv_has ls 25 [(3, .int (nI t)), (2, .ref o2), (1, .ref o1), (0, .ref ((gT g).1))]) (kk : ∀ (x : Int32) (κ : wMu) (H : Heap) (locs : List Loc) (ls : Array Slot), bW g o1 o2 (i + 3) κ → wX g A s H locs κ → lv_has ls 25 [(4, .int x), (3, .int (nI t)), (2, .ref o2), (1, .ref o1), (0, .ref (gT g).1)] → W p l e room_1 s m args below meth c H locs (cells + 8 * 3) (slots + 80 * 3) Q (F0 m 82 ls [])) : W p l e room_1 s m args below meth c H locs cells slots Q (F0 m 28 ls []) := by
  refine lv_aload_n hx hb dL_law_28 rfl (lv_at hl 3 rfl) ?_
  refine lv_iload_n hx hb dL_law_29 rfl (lv_at hl 0 rfl) ?_
  refine lv_iconst (v := nI 1) hx hb dL_law_30 (by decide) ?_
  refine n_iadd hx hb dL_law_31 (nI_add _ _) ?_
  refine w_call (w_runS (n := 2) (As := [.ref ((gT g).1), .int (nI (t + 1))]) (rest := []) hx hb hml hown hX (c_L_cell l g κ H.size (by omega)) kw513 kw0 kw511 kw512 wn_L_cell rfl ⟨Nat.le_of_ble_eq_true rfl, Nat.le_of_ble_eq_true rfl⟩ hl.1 rfl (Nat.le_of_ble_eq_true rfl) dL_law_32 ⟨(show cells + 0 ≤ 600130 by omega), (show slots + 0 ≤ 7301080 by omega)⟩) hX (fun r_4 μ_2 H locs q_3 hX hz => ?_)
  obtain ⟨v_1, rfl, e_5⟩ := q_3
  rw [e_5] at hX
  refine W.eq (g2 := F0 m 35 ls [.int v_1]) rfl ?_
  refine lv_iconst (v := nI 2) hx hb dL_law_35 (by decide) ?_
  refine lv_ishr hx hb dL_law_36 ?_
  refine lv_topi (fun y_6 _ => ?_)
  refine lv_bipush (v := nI 53) hx hb dL_law_37 (by decide) ?_
  refine lv_iload_n hx hb dL_law_39 rfl (lv_at hl 0 rfl) ?_
  refine n_imul hx hb dL_law_40 (pk_mul _ _) ?_
  refine n_iadd hx hb dL_law_41 rfl ?_
  refine lv_topi (fun y_7 _ => ?_)
  refine lv_istore (lv' := [(4, .int y_7), (3, .int (nI t)), (2, .ref o2), (1, .ref o1), (0, .ref ((gT g).1))]) hx hb dL_law_42 hl (by decide) rfl (fun ls hl => ?_)
  refine lv_iconst (v := nI 0) hx hb dL_law_44 (by decide) ?_
  refine lv_istore (lv' := [(5, .int (nI 0)), (4, .int y_7), (3, .int (nI t)), (2, .ref o2), (1, .ref o1), (0, .ref ((gT g).1))]) hx hb dL_law_45 hl (by decide) rfl (fun ls hl => ?_)
  have hloop : ∀ (n : Nat) (k : Nat) (ν : wMu) (H : Heap) (locs : List Loc) (ls : Array Slot), 3 < k + n → k ≤ 3 → bW g o1 o2 (i + k) ν → wX g A s H locs ν → lv_has ls 25 [(5, .int (nI k)), (4, .int y_7), (3, .int (nI t)), (2, .ref o2), (1, .ref o1), (0, .ref ((gT g).1))] → W p l e room_1 s m args below meth c H locs (cells + 8 * k) (slots + 80 * k) Q (F0 m 47 ls []) := by
    intro n
    induction n with
    | zero => intro k ν H locs ls hn hk hW hX hl; exact absurd hn (by omega)
    | succ n ih =>
      intro k ν H locs ls hn hk hW hX hl
      refine lv_iload hx hb dL_law_47 (lv_at hl 0 rfl) ?_
      refine lv_iconst (v := nI 3) hx hb dL_law_49 (by decide) ?_
      refine n_ge (tgt := 82) hx hb (by omega) (by omega) dL_law_50 (by decide) (fun c_8 => ?_) (fun c_8 => ?_)
      · skip
        obtain rfl : k = 3 := by omega
        exact kk _ _ _ _ _ hW hX (lv_sub hl [1, 2, 3, 4, 5] rfl)
      · skip
        refine lv_aload_n hx hb dL_law_53 rfl (lv_at hl 4 rfl) ?_
        refine lv_aload_n hx hb dL_law_54 rfl (lv_at hl 3 rfl) ?_
        refine lv_iload hx hb dL_law_55 (lv_at hl 1 rfl) ?_
        refine lv_iconst (v := nI 3) hx hb dL_law_57 (by decide) ?_
        refine lv_iload hx hb dL_law_58 (lv_at hl 0 rfl) ?_
        refine n_imul hx hb dL_law_60 (pk_mul _ _) ?_
        refine lv_ishr hx hb dL_law_61 ?_
        refine lv_topi (fun y_9 _ => ?_)
        refine lv_bipush (v := nI 29) hx hb dL_law_62 (by decide) ?_
        refine lv_iload hx hb dL_law_64 (lv_at hl 0 rfl) ?_
        refine n_imul hx hb dL_law_66 (pk_mul _ _) ?_
        refine n_iadd hx hb dL_law_67 rfl ?_
        refine lv_topi (fun y_10 _ => ?_)
        refine w_call (w_runS (n := 3) (As := [.ref o1, .ref o2, .int y_10]) (rest := []) hx hb hml hown hX (c_L_act l g ν H.size hW (by omega)) kw517 kw0 kw515 kw516 wn_L_act rfl ⟨Nat.le_of_ble_eq_true rfl, Nat.le_of_ble_eq_true rfl⟩ hl.1 rfl (Nat.le_of_ble_eq_true rfl) dL_law_68 ⟨(show cells + 8 * k + 8 ≤ 600130 by omega), (show slots + 80 * k + 80 ≤ 7301080 by omega)⟩) hX (fun r_13 μ_11 H locs q_12 hX hz => ?_)
        obtain ⟨rfl, hW2⟩ := q_12
        refine W.eq (g2 := F0 m 71 ls [.int (nI 1)]) rfl ?_
        refine n_if_ne (tgt := 76) hx hb (by omega) dL_law_71 (by decide) (fun _ => ?_) (fun h => absurd h (by omega))
        refine lv_iinc (v := nI (k + 1)) (lv' := [(5, .int (nI (k + 1))), (4, .int y_7), (3, .int (nI t)), (2, .ref o2), (1, .ref o1), (0, .ref ((gT g).1))]) hx hb dL_law_76 hl (k := 0) rfl (nI_inc _) (by decide) rfl (fun ls hl => ?_)
        refine lv_goto (tgt := 47) hx hb dL_law_79 (by decide) ?_
        refine W.widen (k := cells + 8 * (k + 1)) (n := slots + 80 * (k + 1)) (by omega) (by omega) ?_
        refine ih (k + 1) _ H locs ls (by omega) (by omega) hW2 hX ?_
        exact lv_sub hl [0, 1, 2, 3, 4, 5] rfl
  exact hloop 4 0 _ _ _ _ (by omega) (by omega) hW hX hl

set_option maxHeartbeats 4000000 in
set_option maxRecDepth 100000 in
/-- seven times -/
theorem sl_main {p : Program} {l : Launch} {e : Env} {s : State} {m : MethodId} {args : Array Value} {below : List Frame} {meth : Method} {c : Code} {Q : State → Prop} {A : Nat → Prop} {g : wG} {o1 o2 : Nat} (hx : p.tables.exec = Jvm.exec) (hb : c.code = cL_law) (hml : c.maxLocals = 25) (hown : s.vm.findClass yL_law.cls = some m.cls)
    (kend : ∀ (i t : Nat) (κ : wMu) (H : Heap) (locs : List Loc) (ls : Array Slot) (cells slots : Nat), i ≤ 400 → cells ≤ 500000 → slots ≤ 7000000 → bW g o1 o2 i κ → wX g A s H locs κ → lv_has ls 25 [(3, .int (nI t)), (2, .ref o2), (1, .ref o1), (0, .ref (gT g).1)] → W p l e room_1 s m args below meth c H locs cells slots Q (F0 m 944 ls [])) :
    ∀ (n t i : Nat) (κ : wMu) (H : Heap) (locs : List Loc) (ls : Array Slot) (cells slots : Nat), 7 < t + n → t ≤ 7 → i ≤ 41 + 43 * t → cells ≤ 1000 + 24 * t → slots ≤ 10000 + 240 * t → bW g o1 o2 i κ → wX g A s H locs κ → lv_has ls 25 [(3, .int (nI t)), (2, .ref o2), (1, .ref o1), (0, .ref (gT g).1)] → W p l e room_1 s m args below meth c H locs cells slots Q (F0 m 22 ls []) := by
  intro n
  induction n with
  | zero => intro t i κ H locs ls cells slots hn ht hi hc hs hW hX hl; exact absurd hn (by omega)
  | succ n ih =>
    intro t i κ H locs ls cells slots hn ht hi hc hs hW hX hl
    refine lv_iload_n hx hb dL_law_22 rfl (lv_at hl 0 rfl) ?_
    refine lv_bipush (v := nI 7) hx hb dL_law_23 (by decide) ?_
    refine n_ge (tgt := 944) hx hb (by omega) (by omega) dL_law_25 (by decide) (fun c1 => ?_) (fun c1 => ?_)
    · exact kend i t κ H locs ls cells slots (by omega) (by omega) (by omega) hW hX hl
    · refine sl_acts hx hb hml hown hW (by omega) ht (by omega) (by omega) hX hl (fun x κ H locs ls hW hX hl => ?_)
      obtain ⟨Λ, Ω, σ, τ, μ, ν, hκ, hd, hF, hS, rfl, rfl, hg⟩ := hW
      refine sl_wands hx hb hml hown (by omega) (by omega) hF hS hd hg (i9 := i + 3 + 40) (by omega) (by omega) (hX.cast hκ) hl (fun κ H locs ls hW hX hl => ?_)
      refine lv_iinc (v := nI (t + 1)) (lv' := [(3, .int (nI (t + 1))), (2, .ref (Ω 0 0)), (1, .ref (Λ 0 0)), (0, .ref (gT g).1)]) hx hb dL_law_938 hl (k := 0) rfl (nI_inc _) (by decide) rfl (fun ls hl => ?_)
      refine lv_goto (tgt := 22) hx hb dL_law_941 (by decide) ?_
      exact ih (t + 1) _ κ H locs ls _ _ (by omega) (by omega) (by omega) (by omega) (by omega) hW hX hl

