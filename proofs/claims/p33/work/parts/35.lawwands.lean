set_option maxHeartbeats 4000000 in
set_option maxRecDepth 100000 in
/-- what is told of the children -/
theorem sl_children {p : Program} {l : Launch} {e : Env} {s : State} {m : MethodId} {args : Array Value} {below : List Frame} {meth : Method} {c : Code} {Q : State → Prop} {A : Nat → Prop} {g : wG} {H : Heap} {locs : List Loc} {ls : Array Slot} {cells slots : Nat} (hx : p.tables.exec = Jvm.exec) (hb : c.code = cL_law) (hml : c.maxLocals = 25) (hown : s.vm.findClass yL_law.cls = some m.cls) (hc : cells ≤ 600000) (hs : slots ≤ 7300000) {μ ν : wMu} {Λ Ω σ : sSt} {τ : Nat → Nat} {i i9 : Nat} (hF : fD g Λ none σ μ) (hS : sD g Ω τ σ ν) (hd : dj μ ν) (hg : pG τ σ i) (hi : i + 40 ≤ i9) (hi9 : i9 ≤ 500) {t : Nat} {x : Int32} (hX : wX g A s H locs (mU μ ν)) (hl : lv_has ls 25 [(9, .int (nI (uSm σ (σ 4 0) (σ 3 0)))), (7, .int (nI (σ 4 0))), (5, .long (vDig σ)), (4, .int x), (3, .int (nI t)), (2, .ref (Ω 0 0)), (1, .ref (Λ 0 0)), (0, .ref ((gT g).1))]) (kk : ∀ (κ : wMu) (H : Heap) (locs : List Loc) (ls : Array Slot), bW g (Λ 0 0) (Ω 0 0) i9 κ → wX g A s H locs κ → lv_has ls 25 [(3, .int (nI t)), (2, .ref (Ω 0 0)), (1, .ref (Λ 0 0)), (0, .ref (gT g).1)] → W p l e room_1 s m args below meth c H locs cells slots Q (F0 m 938 ls [])) : W p l e room_1 s m args below meth c H locs cells slots Q (F0 m 199 ls []) := by
  have hO := hg.O
  have hT := hg.T
  obtain ⟨⟨-, gh, gc⟩, -⟩ := id hg
  obtain ⟨o1, o2, o3, o4, o5, o6, o7⟩ := id hO
  refine lv_iconst (v := nI 0) hx hb dL_law_199 (by decide) ?_
  refine lv_istore (lv' := [(10, .int (nI 0)), (9, .int (nI (uSm σ (σ 4 0) (σ 3 0)))), (7, .int (nI (σ 4 0))), (5, .long (vDig σ)), (4, .int x), (3, .int (nI t)), (2, .ref (Ω 0 0)), (1, .ref (Λ 0 0)), (0, .ref ((gT g).1))]) hx hb dL_law_200 hl (by decide) rfl (fun ls hl => ?_)
  refine lv_iconst (v := nI 0) hx hb dL_law_202 (by decide) ?_
  refine lv_istore (lv' := [(11, .int (nI 0)), (10, .int (nI 0)), (9, .int (nI (uSm σ (σ 4 0) (σ 3 0)))), (7, .int (nI (σ 4 0))), (5, .long (vDig σ)), (4, .int x), (3, .int (nI t)), (2, .ref (Ω 0 0)), (1, .ref (Λ 0 0)), (0, .ref ((gT g).1))]) hx hb dL_law_203 hl (by decide) rfl (fun ls hl => ?_)
  have hloop : ∀ (n : Nat) (j : Nat) (α : wMu) (H : Heap) (locs : List Loc) (ls : Array Slot), σ 4 0 < j + n → j ≤ σ 4 0 → fD g Λ none σ α → dj α ν → wX g A s H locs (mU α ν) → lv_has ls 25 [(11, .int (nI j)), (10, .int (nI (cHel σ j))), (9, .int (nI (uSm σ (σ 4 0) (σ 3 0)))), (7, .int (nI (σ 4 0))), (5, .long (vDig σ)), (4, .int x), (3, .int (nI t)), (2, .ref (Ω 0 0)), (1, .ref (Λ 0 0)), (0, .ref ((gT g).1))] → W p l e room_1 s m args below meth c H locs cells slots Q (F0 m 205 ls []) := by
    intro n
    induction n with
    | zero => intro j α H locs ls hn hj hF hd hX hl; exact absurd hn (by omega)
    | succ n ih =>
      intro j α H locs ls hn hj hF hd hX hl
      refine lv_iload hx hb dL_law_205 (lv_at hl 0 rfl) ?_
      refine lv_iload hx hb dL_law_207 (lv_at hl 3 rfl) ?_
      refine n_ge (tgt := 456) hx hb (by omega) (by omega) dL_law_209 (by decide) (fun c_1 => ?_) (fun c_1 => ?_)
      · skip
        obtain rfl : j = σ 4 0 := by omega
        exact sl_sums hx hb hml hown hc hs hF hS hd hg hi hi9 hX (lv_sub hl [1, 2, 3, 4, 5, 6, 7, 8, 9] rfl) kk
      · skip
        refine sl_child hx hb hml hown hc hs hF hS hd hg (by omega) (by omega) hX (lv_sub hl [0, 1, 2, 3, 4, 5, 6, 7, 8, 9] rfl) (fun α H locs ls hF hd hX hl => ?_)
        refine lv_iinc (v := nI (j + 1)) (lv' := [(11, .int (nI (j + 1))), (10, .int (nI (cHel σ (j + 1)))), (9, .int (nI (uSm σ (σ 4 0) (σ 3 0)))), (7, .int (nI (σ 4 0))), (5, .long (vDig σ)), (4, .int x), (3, .int (nI t)), (2, .ref (Ω 0 0)), (1, .ref (Λ 0 0)), (0, .ref ((gT g).1))]) hx hb dL_law_450 hl (k := 0) rfl (nI_inc _) (by decide) rfl (fun ls hl => ?_)
        refine lv_goto (tgt := 205) hx hb dL_law_453 (by decide) ?_
        refine ih (j + 1) _ H locs ls (by omega) (by omega) hF hd hX ?_
        exact lv_sub hl [0, 1, 2, 3, 4, 5, 6, 7, 8, 9] rfl
  exact hloop (σ 4 0 + 1) 0 _ _ _ _ (by omega) (by omega) hF hd hX hl

set_option maxHeartbeats 4000000 in
set_option maxRecDepth 100000 in
/-- the checksum, and what is told of the wands -/
theorem sl_wands {p : Program} {l : Launch} {e : Env} {s : State} {m : MethodId} {args : Array Value} {below : List Frame} {meth : Method} {c : Code} {Q : State → Prop} {A : Nat → Prop} {g : wG} {H : Heap} {locs : List Loc} {ls : Array Slot} {cells slots : Nat} (hx : p.tables.exec = Jvm.exec) (hb : c.code = cL_law) (hml : c.maxLocals = 25) (hown : s.vm.findClass yL_law.cls = some m.cls) (hc : cells ≤ 600000) (hs : slots ≤ 7300000) {μ ν : wMu} {Λ Ω σ : sSt} {τ : Nat → Nat} {i i9 : Nat} (hF : fD g Λ none σ μ) (hS : sD g Ω τ σ ν) (hd : dj μ ν) (hg : pG τ σ i) (hi : i + 40 ≤ i9) (hi9 : i9 ≤ 500) {t : Nat} {x : Int32} (hX : wX g A s H locs (mU μ ν)) (hl : lv_has ls 25 [(4, .int x), (3, .int (nI t)), (2, .ref (Ω 0 0)), (1, .ref (Λ 0 0)), (0, .ref ((gT g).1))]) (kk : ∀ (κ : wMu) (H : Heap) (locs : List Loc) (ls : Array Slot), bW g (Λ 0 0) (Ω 0 0) i9 κ → wX g A s H locs κ → lv_has ls 25 [(3, .int (nI t)), (2, .ref (Ω 0 0)), (1, .ref (Λ 0 0)), (0, .ref (gT g).1)] → W p l e room_1 s m args below meth c H locs cells slots Q (F0 m 938 ls [])) : W p l e room_1 s m args below meth c H locs cells slots Q (F0 m 82 ls []) := by
  have hO := hg.O
  have hT := hg.T
  obtain ⟨⟨-, gh, gc⟩, -⟩ := id hg
  obtain ⟨o1, o2, o3, o4, o5, o6, o7⟩ := id hO
  refine lv_aload_n hx hb dL_law_82 rfl (lv_at hl 3 rfl) ?_
  refine w_callL (w_runV (n := 0) (As := []) (rest := []) hx hb hml hown (hX.l hd) (c_X2_digest l g μ H.size hF hO) kw422 kw1 kw419 kw420 kw421 wn_X2_digest rfl hF.1 rfl ⟨Nat.le_of_ble_eq_true rfl, Nat.le_of_ble_eq_true rfl⟩ hl.1 rfl (Nat.le_of_ble_eq_true rfl) dL_law_83 ⟨(show cells + 0 ≤ 600130 by omega), (show slots + 0 ≤ 7301080 by omega)⟩) hX hd (fun r_3 μ_1 H locs q_2 hd hX hz => ?_)
  obtain ⟨rfl, hF⟩ := q_2
  refine W.eq (g2 := F0 m 86 ls [.long (vDig σ)]) rfl ?_
  refine lv_lstore (lv' := [(5, .long (vDig σ)), (4, .int x), (3, .int (nI t)), (2, .ref (Ω 0 0)), (1, .ref (Λ 0 0)), (0, .ref ((gT g).1))]) hx hb dL_law_86 hl (by decide) rfl (fun ls hl => ?_)
  refine lv_aload_n hx hb dL_law_88 rfl (lv_at hl 4 rfl) ?_
  refine w_callL (w_runV (n := 0) (As := []) (rest := []) hx hb hml hown (hX.l hd) (c_X2_children l g μ_1 H.size hF hO) kw316 kw1 kw313 kw314 kw315 wn_X2_children rfl hF.1 rfl ⟨Nat.le_of_ble_eq_true rfl, Nat.le_of_ble_eq_true rfl⟩ hl.1 rfl (Nat.le_of_ble_eq_true rfl) dL_law_89 ⟨(show cells + 0 ≤ 600130 by omega), (show slots + 0 ≤ 7301080 by omega)⟩) hX hd (fun r_6 μ_4 H locs q_5 hd hX hz => ?_)
  obtain ⟨rfl, e_7⟩ := q_5
  rw [e_7] at hX hd
  refine W.eq (g2 := F0 m 92 ls [.int (nI (σ 4 0))]) rfl ?_
  refine lv_istore (lv' := [(7, .int (nI (σ 4 0))), (5, .long (vDig σ)), (4, .int x), (3, .int (nI t)), (2, .ref (Ω 0 0)), (1, .ref (Λ 0 0)), (0, .ref ((gT g).1))]) hx hb dL_law_92 hl (by decide) rfl (fun ls hl => ?_)
  refine lv_aload_n hx hb dL_law_94 rfl (lv_at hl 5 rfl) ?_
  refine w_callL (w_runV (n := 0) (As := []) (rest := []) hx hb hml hown (hX.l hd) (c_X2_wands l g μ_1 H.size hF hO) kw312 kw1 kw309 kw310 kw311 wn_X2_wands rfl hF.1 rfl ⟨Nat.le_of_ble_eq_true rfl, Nat.le_of_ble_eq_true rfl⟩ hl.1 rfl (Nat.le_of_ble_eq_true rfl) dL_law_95 ⟨(show cells + 0 ≤ 600130 by omega), (show slots + 0 ≤ 7301080 by omega)⟩) hX hd (fun r_10 μ_8 H locs q_9 hd hX hz => ?_)
  obtain ⟨rfl, e_11⟩ := q_9
  rw [e_11] at hX hd
  refine W.eq (g2 := F0 m 98 ls [.int (nI (σ 3 0))]) rfl ?_
  refine lv_istore (lv' := [(8, .int (nI (σ 3 0))), (7, .int (nI (σ 4 0))), (5, .long (vDig σ)), (4, .int x), (3, .int (nI t)), (2, .ref (Ω 0 0)), (1, .ref (Λ 0 0)), (0, .ref ((gT g).1))]) hx hb dL_law_98 hl (by decide) rfl (fun ls hl => ?_)
  refine lv_iconst (v := nI 0) hx hb dL_law_100 (by decide) ?_
  refine lv_istore (lv' := [(9, .int (nI 0)), (8, .int (nI (σ 3 0))), (7, .int (nI (σ 4 0))), (5, .long (vDig σ)), (4, .int x), (3, .int (nI t)), (2, .ref (Ω 0 0)), (1, .ref (Λ 0 0)), (0, .ref ((gT g).1))]) hx hb dL_law_101 hl (by decide) rfl (fun ls hl => ?_)
  refine lv_iconst (v := nI 0) hx hb dL_law_103 (by decide) ?_
  refine lv_istore (lv' := [(10, .int (nI 0)), (9, .int (nI 0)), (8, .int (nI (σ 3 0))), (7, .int (nI (σ 4 0))), (5, .long (vDig σ)), (4, .int x), (3, .int (nI t)), (2, .ref (Ω 0 0)), (1, .ref (Λ 0 0)), (0, .ref ((gT g).1))]) hx hb dL_law_104 hl (by decide) rfl (fun ls hl => ?_)
  obtain ⟨s1, ⟨fw, s2, s2'⟩, ⟨fc, s3, s3'⟩, s4, s5, s6, s7⟩ := id hS
  have hloop : ∀ (n : Nat) (v : Nat) (H : Heap) (locs : List Loc) (ls : Array Slot), σ 3 0 < v + n → v ≤ σ 3 0 → wX g A s H locs (mU μ_1 ν) → lv_has ls 25 [(10, .int (nI v)), (9, .int (nI (uSm σ (σ 4 0) v))), (8, .int (nI (σ 3 0))), (7, .int (nI (σ 4 0))), (5, .long (vDig σ)), (4, .int x), (3, .int (nI t)), (2, .ref (Ω 0 0)), (1, .ref (Λ 0 0)), (0, .ref ((gT g).1))] → W p l e room_1 s m args below meth c H locs cells slots Q (F0 m 106 ls []) := by
    intro n
    induction n with
    | zero => intro v H locs ls hn hv hX hl; exact absurd hn (by omega)
    | succ n ih =>
      intro v H locs ls hn hv hX hl
      refine lv_iload hx hb dL_law_106 (lv_at hl 0 rfl) ?_
      refine lv_iload hx hb dL_law_108 (lv_at hl 2 rfl) ?_
      refine n_ge (tgt := 199) hx hb (by omega) (by omega) dL_law_110 (by decide) (fun c_12 => ?_) (fun c_12 => ?_)
      · skip
        obtain rfl : v = σ 3 0 := by omega
        exact sl_children hx hb hml hown hc hs hF hS hd hg hi hi9 hX (lv_sub hl [1, 3, 4, 5, 6, 7, 8, 9] rfl) kk
      · skip
        have ovb := o3 v (by omega)
        refine lv_iload hx hb dL_law_113 (lv_at hl 1 rfl) ?_
        refine lv_aload_n hx hb dL_law_115 rfl (lv_at hl 8 rfl) ?_
        refine lv_iload hx hb dL_law_116 (lv_at hl 0 rfl) ?_
        refine w_callL (w_runV (n := 1) (As := [.int (nI v)]) (rest := [.int (nI (uSm σ (σ 4 0) v))]) hx hb hml hown (hX.l hd) (c_X2_users_g l g μ_1 H.size hF hO (by omega)) kw342 kw1 kw339 kw340 kw341 wn_X2_users rfl hF.1 rfl ⟨Nat.le_of_ble_eq_true rfl, Nat.le_of_ble_eq_true rfl⟩ hl.1 rfl (Nat.le_of_ble_eq_true rfl) dL_law_118 ⟨(show cells + 0 ≤ 600130 by omega), (show slots + 0 ≤ 7301080 by omega)⟩) hX hd (fun r_15 μ_13 H locs q_14 hd hX hz => ?_)
        obtain ⟨rfl, e_16⟩ := q_14
        rw [e_16] at hX hd
        refine W.eq (g2 := F0 m 121 ls [.int (nI (cUsr σ v (σ 4 0))), .int (nI (uSm σ (σ 4 0) v))]) rfl ?_
        refine n_iadd hx hb dL_law_121 (nI_add _ _) ?_
        refine lv_istore (lv' := [(9, .int (nI ((uSm σ (σ 4 0) v) + (cUsr σ v (σ 4 0))))), (10, .int (nI v)), (8, .int (nI (σ 3 0))), (7, .int (nI (σ 4 0))), (5, .long (vDig σ)), (4, .int x), (3, .int (nI t)), (2, .ref (Ω 0 0)), (1, .ref (Λ 0 0)), (0, .ref ((gT g).1))]) hx hb dL_law_122 hl (by decide) rfl (fun ls hl => ?_)
        refine lv_aload_n hx hb dL_law_124 rfl (lv_at hl 8 rfl) ?_
        refine lv_iload hx hb dL_law_125 (lv_at hl 1 rfl) ?_
        refine w_callL (w_runV (n := 1) (As := [.int (nI v)]) (rest := []) hx hb hml hown (hX.l hd) (c_X2_dustIn_g l g μ_1 H.size hF hO (by omega)) kw333 kw1 kw330 kw331 kw332 wn_X2_dustIn rfl hF.1 rfl ⟨Nat.le_of_ble_eq_true rfl, Nat.le_of_ble_eq_true rfl⟩ hl.1 rfl (Nat.le_of_ble_eq_true rfl) dL_law_127 ⟨(show cells + 0 ≤ 600130 by omega), (show slots + 0 ≤ 7301080 by omega)⟩) hX hd (fun r_19 μ_17 H locs q_18 hd hX hz => ?_)
        obtain ⟨rfl, e_20⟩ := q_18
        rw [e_20] at hX hd
        refine W.eq (g2 := F0 m 130 ls [.int (nI (σ 7 v))]) rfl ?_
        refine lv_if_lt (tgt := 191) hx hb dL_law_130 (by decide) (fun h => absurd h (nI_pos (by omega))) (fun _ => ?_)
        refine lv_aload_n hx hb dL_law_133 rfl (lv_at hl 8 rfl) ?_
        refine lv_iload hx hb dL_law_134 (lv_at hl 1 rfl) ?_
        refine w_callL (w_runV (n := 1) (As := [.int (nI v)]) (rest := []) hx hb hml hown (hX.l hd) (c_X2_dustIn_g l g μ_1 H.size hF hO (by omega)) kw333 kw1 kw330 kw331 kw332 wn_X2_dustIn rfl hF.1 rfl ⟨Nat.le_of_ble_eq_true rfl, Nat.le_of_ble_eq_true rfl⟩ hl.1 rfl (Nat.le_of_ble_eq_true rfl) dL_law_136 ⟨(show cells + 0 ≤ 600130 by omega), (show slots + 0 ≤ 7301080 by omega)⟩) hX hd (fun r_23 μ_21 H locs q_22 hd hX hz => ?_)
        obtain ⟨rfl, e_24⟩ := q_22
        rw [e_24] at hX hd
        refine W.eq (g2 := F0 m 139 ls [.int (nI (σ 7 v))]) rfl ?_
        refine lv_aload_n hx hb dL_law_139 rfl (lv_at hl 7 rfl) ?_
        refine gX3_0 hx hb hX hown (mU_r s1) kw628 dL_law_140 ?_
        refine lv_iload hx hb dL_law_143 (lv_at hl 1 rfl) ?_
        refine n_aaldRv hx hb hX (mU_r s2) (by omega) (by omega) dL_law_145 (s2' v (by omega)) ?_
        obtain ⟨h_26, kr_25, r_27⟩ := s4 v (by omega)
        refine lv_iconst (v := nI 0) hx hb dL_law_146 (by decide) ?_
        refine n_ialdv hx hb hX (mU_r kr_25) (by omega) (by omega) dL_law_147 r_27.1 ?_
        refine n_gt (tgt := 191) hx hb (by omega) (by omega) dL_law_148 (by decide) (fun c_28 => ?_) (fun c_28 => ?_)
        · skip
          exfalso; omega
        · skip
          refine lv_aload_n hx hb dL_law_151 rfl (lv_at hl 8 rfl) ?_
          refine lv_iload hx hb dL_law_152 (lv_at hl 1 rfl) ?_
          refine w_callL (w_runV (n := 1) (As := [.int (nI v)]) (rest := []) hx hb hml hown (hX.l hd) (c_X2_hoursUntilFull_g l g μ_1 H.size hF hO (by omega)) kw409 kw1 kw406 kw407 kw408 wn_X2_hoursUntilFull rfl hF.1 rfl ⟨Nat.le_of_ble_eq_true rfl, Nat.le_of_ble_eq_true rfl⟩ hl.1 rfl (Nat.le_of_ble_eq_true rfl) dL_law_154 ⟨(show cells + 0 ≤ 600130 by omega), (show slots + 0 ≤ 7301080 by omega)⟩) hX hd (fun r_31 μ_29 H locs q_30 hd hX hz => ?_)
          obtain ⟨rfl, e_32⟩ := q_30
          rw [e_32] at hX hd
          refine W.eq (g2 := F0 m 157 ls [.int (vFul σ v)]) rfl ?_
          refine lv_if_ne (tgt := 164) hx hb dL_law_157 (by decide) (fun c_33 => ?_) (fun c_33 => ?_)
          · skip
            have h3 : ¬ σ 7 v = σ 5 v := fun z => c_33 (((vFul_0 ovb.2.2.2).mpr z).trans nI_0)
            refine lv_iconst (v := nI 0) hx hb dL_law_164 (by decide) ?_
            refine lv_aload_n hx hb dL_law_165 rfl (lv_at hl 8 rfl) ?_
            refine lv_iload hx hb dL_law_166 (lv_at hl 1 rfl) ?_
            refine w_callL (w_runV (n := 1) (As := [.int (nI v)]) (rest := [.int (nI 0)]) hx hb hml hown (hX.l hd) (c_X2_dustIn_g l g μ_1 H.size hF hO (by omega)) kw333 kw1 kw330 kw331 kw332 wn_X2_dustIn rfl hF.1 rfl ⟨Nat.le_of_ble_eq_true rfl, Nat.le_of_ble_eq_true rfl⟩ hl.1 rfl (Nat.le_of_ble_eq_true rfl) dL_law_168 ⟨(show cells + 0 ≤ 600130 by omega), (show slots + 0 ≤ 7301080 by omega)⟩) hX hd (fun r_36 μ_34 H locs q_35 hd hX hz => ?_)
            obtain ⟨rfl, e_37⟩ := q_35
            rw [e_37] at hX hd
            refine W.eq (g2 := F0 m 171 ls [.int (nI (σ 7 v)), .int (nI 0)]) rfl ?_
            refine lv_aload_n hx hb dL_law_171 rfl (lv_at hl 7 rfl) ?_
            refine gX3_0 hx hb hX hown (mU_r s1) kw628 dL_law_172 ?_
            refine lv_iload hx hb dL_law_175 (lv_at hl 1 rfl) ?_
            refine n_aaldRv hx hb hX (mU_r s2) (by omega) (by omega) dL_law_177 (s2' v (by omega)) ?_
            refine lv_iconst (v := nI 0) hx hb dL_law_178 (by decide) ?_
            refine n_ialdv hx hb hX (mU_r kr_25) (by omega) (by omega) dL_law_179 r_27.1 ?_
            refine n_ne (tgt := 187) hx hb (by omega) (by omega) dL_law_180 (by decide) (fun c_38 => ?_) (fun c_38 => ?_)
            · skip
              refine lv_iconst (v := nI 0) hx hb dL_law_187 (by decide) ?_
              refine n_eq (tgt := 193) hx hb (by omega) (by omega) dL_law_188 (by decide) (fun _ => ?_) (fun h => absurd h (by omega))
              refine lv_iinc (v := nI (v + 1)) (lv' := [(10, .int (nI (v + 1))), (9, .int (nI ((uSm σ (σ 4 0) v) + (cUsr σ v (σ 4 0))))), (8, .int (nI (σ 3 0))), (7, .int (nI (σ 4 0))), (5, .long (vDig σ)), (4, .int x), (3, .int (nI t)), (2, .ref (Ω 0 0)), (1, .ref (Λ 0 0)), (0, .ref ((gT g).1))]) hx hb dL_law_193 hl (k := 1) rfl (nI_inc _) (by decide) rfl (fun ls hl => ?_)
              refine lv_goto (tgt := 106) hx hb dL_law_196 (by decide) ?_
              refine ih (v + 1) H locs ls (by omega) (by omega) hX ?_
              exact lv_sub hl [0, 1, 2, 3, 4, 5, 6, 7, 8, 9] rfl
            · skip
              refine lv_iconst (v := nI 1) hx hb dL_law_183 (by decide) ?_
              refine lv_goto (tgt := 188) hx hb dL_law_184 (by decide) ?_
              refine n_eq (tgt := 193) hx hb (by omega) (by omega) dL_law_188 (by decide) (fun h => absurd h (by omega)) (fun _ => ?_)
              exfalso; omega
          · skip
            have h3 : σ 7 v = σ 5 v := (vFul_0 ovb.2.2.2).mp (c_33.trans nI_0.symm)
            refine lv_iconst (v := nI 1) hx hb dL_law_160 (by decide) ?_
            refine lv_goto (tgt := 165) hx hb dL_law_161 (by decide) ?_
            refine lv_aload_n hx hb dL_law_165 rfl (lv_at hl 8 rfl) ?_
            refine lv_iload hx hb dL_law_166 (lv_at hl 1 rfl) ?_
            refine w_callL (w_runV (n := 1) (As := [.int (nI v)]) (rest := [.int (nI 1)]) hx hb hml hown (hX.l hd) (c_X2_dustIn_g l g μ_1 H.size hF hO (by omega)) kw333 kw1 kw330 kw331 kw332 wn_X2_dustIn rfl hF.1 rfl ⟨Nat.le_of_ble_eq_true rfl, Nat.le_of_ble_eq_true rfl⟩ hl.1 rfl (Nat.le_of_ble_eq_true rfl) dL_law_168 ⟨(show cells + 0 ≤ 600130 by omega), (show slots + 0 ≤ 7301080 by omega)⟩) hX hd (fun r_41 μ_39 H locs q_40 hd hX hz => ?_)
            obtain ⟨rfl, e_42⟩ := q_40
            rw [e_42] at hX hd
            refine W.eq (g2 := F0 m 171 ls [.int (nI (σ 7 v)), .int (nI 1)]) rfl ?_
            refine lv_aload_n hx hb dL_law_171 rfl (lv_at hl 7 rfl) ?_
            refine gX3_0 hx hb hX hown (mU_r s1) kw628 dL_law_172 ?_
            refine lv_iload hx hb dL_law_175 (lv_at hl 1 rfl) ?_
            refine n_aaldRv hx hb hX (mU_r s2) (by omega) (by omega) dL_law_177 (s2' v (by omega)) ?_
            refine lv_iconst (v := nI 0) hx hb dL_law_178 (by decide) ?_
            refine n_ialdv hx hb hX (mU_r kr_25) (by omega) (by omega) dL_law_179 r_27.1 ?_
            refine n_ne (tgt := 187) hx hb (by omega) (by omega) dL_law_180 (by decide) (fun c_43 => ?_) (fun c_43 => ?_)
            · skip
              refine lv_iconst (v := nI 0) hx hb dL_law_187 (by decide) ?_
              refine n_eq (tgt := 193) hx hb (by omega) (by omega) dL_law_188 (by decide) (fun h => absurd h (by omega)) (fun _ => ?_)
              exfalso; omega
            · skip
              refine lv_iconst (v := nI 1) hx hb dL_law_183 (by decide) ?_
              refine lv_goto (tgt := 188) hx hb dL_law_184 (by decide) ?_
              refine n_eq (tgt := 193) hx hb (by omega) (by omega) dL_law_188 (by decide) (fun _ => ?_) (fun h => absurd h (by omega))
              refine lv_iinc (v := nI (v + 1)) (lv' := [(10, .int (nI (v + 1))), (9, .int (nI ((uSm σ (σ 4 0) v) + (cUsr σ v (σ 4 0))))), (8, .int (nI (σ 3 0))), (7, .int (nI (σ 4 0))), (5, .long (vDig σ)), (4, .int x), (3, .int (nI t)), (2, .ref (Ω 0 0)), (1, .ref (Λ 0 0)), (0, .ref ((gT g).1))]) hx hb dL_law_193 hl (k := 1) rfl (nI_inc _) (by decide) rfl (fun ls hl => ?_)
              refine lv_goto (tgt := 106) hx hb dL_law_196 (by decide) ?_
              refine ih (v + 1) H locs ls (by omega) (by omega) hX ?_
              exact lv_sub hl [0, 1, 2, 3, 4, 5, 6, 7, 8, 9] rfl
  exact hloop (σ 3 0 + 1) 0 _ _ _ (by omega) (by omega) hX hl

