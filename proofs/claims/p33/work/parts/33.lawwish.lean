set_option maxHeartbeats 4000000 in
set_option maxRecDepth 100000 in
/-- the wish itself -/
theorem sl_wish {p : Program} {l : Launch} {e : Env} {s : State} {m : MethodId} {args : Array Value} {below : List Frame} {meth : Method} {c : Code} {Q : State → Prop} {A : Nat → Prop} {g : wG} {H : Heap} {locs : List Loc} {ls : Array Slot} {cells slots : Nat} (hx : p.tables.exec = Jvm.exec) (hb : c.code = cL_law) (hml : c.maxLocals = 25) (hown : s.vm.findClass yL_law.cls = some m.cls) (hc : cells ≤ 600000) (hs : slots ≤ 7300000) {μ ν : wMu} {Λ Ω σ : sSt} {τ : Nat → Nat} {i i9 : Nat} (hF : fD g Λ none σ μ) (hS : sD g Ω τ σ ν) (hd : dj μ ν) (hg : pG τ σ i) (hi : i + 40 ≤ i9) (hi9 : i9 ≤ 500) {t j sz : Nat} (hj : j < σ 4 0) (h1 : 1 ≤ sz) (h2 : sz ≤ 20) (hX : wX g A s H locs (mU μ ν)) (hl : lv_has ls 25 [(19, .int (nI (fwG sz (σ 7 (σ 8 j)) (σ 10 j) (σ 11 j)))), (18, .int (nI (σ 2 0))), (17, .int (nI (σ 1 0))), (16, .int (nI (σ 12 j))), (15, .int (nI (σ 10 j))), (14, .int (nI (σ 7 (σ 8 j)))), (13, .int (nI (σ 8 j))), (12, .int (nI sz)), (11, .int (nI j)), (3, .int (nI t)), (2, .ref (Ω 0 0)), (1, .ref (Λ 0 0)), (0, .ref ((gT g).1))]) (kk : ∀ (κ : wMu) (H : Heap) (locs : List Loc) (ls : Array Slot), bW g (Λ 0 0) (Ω 0 0) i9 κ → wX g A s H locs κ → lv_has ls 25 [(3, .int (nI t)), (2, .ref (Ω 0 0)), (1, .ref (Λ 0 0)), (0, .ref (gT g).1)] → W p l e room_1 s m args below meth c H locs cells slots Q (F0 m 938 ls [])) : W p l e room_1 s m args below meth c H locs cells slots Q (F0 m 649 ls []) := by
  have hO := hg.O
  have hT := hg.T
  obtain ⟨⟨-, gh, gc⟩, -⟩ := id hg
  obtain ⟨o1, o2, o3, o4, o5, o6, o7⟩ := id hO
  have ojb := o4 j hj
  have owb := o3 _ ojb.1
  obtain ⟨a1, a2, a3, a4, a5, a6, a7, a8, a9, a10, a11, a12⟩ := nWis_at σ j sz
  have hcs : (fwG sz (σ 7 (σ 8 j)) (σ 10 j) (σ 11 j) = 1 ∧ sz ≤ σ 10 j + σ 7 (σ 8 j) ∧ fwD sz (σ 7 (σ 8 j)) (σ 10 j) (σ 11 j) = σ 7 (σ 8 j) - (sz - σ 10 j) ∧ fwB sz (σ 7 (σ 8 j)) (σ 10 j) (σ 11 j) = σ 10 j - sz ∧ fwM sz (σ 7 (σ 8 j)) (σ 10 j) (σ 11 j) (σ 12 j) = σ 12 j - 1) ∨ (fwG sz (σ 7 (σ 8 j)) (σ 10 j) (σ 11 j) = 0 ∧ fwD sz (σ 7 (σ 8 j)) (σ 10 j) (σ 11 j) = σ 7 (σ 8 j) ∧ fwB sz (σ 7 (σ 8 j)) (σ 10 j) (σ 11 j) = σ 10 j) := by
    by_cases c1 : σ 11 j = 0 ∧ sz ≤ σ 10 j + σ 7 (σ 8 j)
    · obtain ⟨f1, f2, f3, f4, f5, f6⟩ := fw_y (mk := σ 12 j) (nx := σ 13 j) c1; exact Or.inl ⟨f1, c1.2, f2, f3, f5⟩
    · exact Or.inr ⟨if_neg c1, if_neg c1, if_neg c1⟩
  refine lv_aload_n hx hb dL_law_649 rfl (lv_at hl 11 rfl) ?_
  refine lv_iload hx hb dL_law_650 (lv_at hl 8 rfl) ?_
  refine lv_iload hx hb dL_law_652 (lv_at hl 7 rfl) ?_
  refine w_callL (w_runV (n := 2) (As := [.int (nI j), .int (nI sz)]) (rest := []) hx hb hml hown (hX.l hd) (c_X2_wish_g l g μ H.size hF hO hj h1 h2) kw133 kw1 kw130 kw131 kw132 wn_X2_wish rfl hF.1 rfl ⟨Nat.le_of_ble_eq_true rfl, Nat.le_of_ble_eq_true rfl⟩ hl.1 rfl (Nat.le_of_ble_eq_true rfl) dL_law_654 ⟨(show cells + 0 ≤ 600130 by omega), (show slots + 0 ≤ 7301080 by omega)⟩) hX hd (fun r_3 μ_1 H locs q_2 hd hX hz => ?_)
  obtain ⟨rfl, hF⟩ := q_2
  refine W.eq (g2 := F0 m 657 ls [.int (nI (fwG sz (σ 7 (σ 8 j)) (σ 10 j) (σ 11 j)))]) rfl ?_
  refine lv_iload hx hb dL_law_657 (lv_at hl 0 rfl) ?_
  refine n_ne (tgt := 675) hx hb (by omega) (by omega) dL_law_659 (by decide) (fun c_4 => ?_) (fun c_4 => ?_)
  · skip
    exfalso; omega
  · skip
    refine lv_aload_n hx hb dL_law_662 rfl (lv_at hl 10 rfl) ?_
    refine lv_iload hx hb dL_law_663 (lv_at hl 8 rfl) ?_
    refine lv_iload hx hb dL_law_665 (lv_at hl 7 rfl) ?_
    refine w_callR (w_runV (n := 2) (As := [.int (nI j), .int (nI sz)]) (rest := []) hx hb hml hown hX.r (c_X3_wish l g ν H.size hS hO hT (by omega) hj h1 h2) kw474 kw7 kw471 kw472 kw473 wn_X3_wish rfl hS.1 rfl ⟨Nat.le_of_ble_eq_true rfl, Nat.le_of_ble_eq_true rfl⟩ hl.1 rfl (Nat.le_of_ble_eq_true rfl) dL_law_667 ⟨(show cells + 0 ≤ 600130 by omega), (show slots + 0 ≤ 7301080 by omega)⟩) hX hd (fun r_7 μ_5 H locs q_6 hd hX hz => ?_)
    obtain ⟨rfl, hS⟩ := q_6
    refine W.eq (g2 := F0 m 670 ls [.int (nI (fwG sz (σ 7 (σ 8 j)) (σ 10 j) (σ 11 j)))]) rfl ?_
    have hg2 := hg.wis (sz := sz) hj (by omega)
    have hO2 := hg2.O
    have hw2 : σ 8 j < nWis σ j sz 3 0 := by rw [nWis_o σ j sz (by omega) (by omega) (by omega)]; exact (o4 j hj).1
    have hj2 : j < nWis σ j sz 4 0 := by rw [nWis_o σ j sz (by omega) (by omega) (by omega)]; exact hj
    refine lv_iload hx hb dL_law_670 (lv_at hl 0 rfl) ?_
    refine n_eq (tgt := 677) hx hb (by omega) (by omega) dL_law_672 (by decide) (fun c_8 => ?_) (fun c_8 => ?_)
    · skip
      refine lv_iload hx hb dL_law_677 (lv_at hl 5 rfl) ?_
      refine lv_aload_n hx hb dL_law_679 rfl (lv_at hl 11 rfl) ?_
      refine lv_iload hx hb dL_law_680 (lv_at hl 6 rfl) ?_
      refine w_callL (w_runV (n := 1) (As := [.int (nI (σ 8 j))]) (rest := [.int (nI (σ 7 (σ 8 j)))]) hx hb hml hown (hX.l hd) (c_X2_dustIn_g l g μ_1 H.size hF hO2 hw2) kw333 kw1 kw330 kw331 kw332 wn_X2_dustIn rfl hF.1 rfl ⟨Nat.le_of_ble_eq_true rfl, Nat.le_of_ble_eq_true rfl⟩ hl.1 rfl (Nat.le_of_ble_eq_true rfl) dL_law_682 ⟨(show cells + 0 ≤ 600130 by omega), (show slots + 0 ≤ 7301080 by omega)⟩) hX hd (fun r_11 μ_9 H locs q_10 hd hX hz => ?_)
      obtain ⟨rfl, e_12⟩ := q_10
      rw [e_12] at hX hd
      refine W.eq (g2 := F0 m 685 ls [.int (nI (nWis σ j sz 7 (σ 8 j))), .int (nI (σ 7 (σ 8 j)))]) rfl ?_
      refine n_isub hx hb dL_law_685 (pk_sub (by omega)) ?_
      refine lv_iload hx hb dL_law_686 (lv_at hl 4 rfl) ?_
      refine n_iadd hx hb dL_law_688 (nI_add _ _) ?_
      refine lv_aload_n hx hb dL_law_689 rfl (lv_at hl 11 rfl) ?_
      refine lv_iload hx hb dL_law_690 (lv_at hl 8 rfl) ?_
      refine w_callL (w_runV (n := 1) (As := [.int (nI j)]) (rest := [.int (nI (((σ 7 (σ 8 j)) - (nWis σ j sz 7 (σ 8 j))) + (σ 10 j)))]) hx hb hml hown (hX.l hd) (c_X2_burstOf_g l g μ_1 H.size hF hO2 hj2) kw350 kw1 kw347 kw348 kw349 wn_X2_burstOf rfl hF.1 rfl ⟨Nat.le_of_ble_eq_true rfl, Nat.le_of_ble_eq_true rfl⟩ hl.1 rfl (Nat.le_of_ble_eq_true rfl) dL_law_692 ⟨(show cells + 0 ≤ 600130 by omega), (show slots + 0 ≤ 7301080 by omega)⟩) hX hd (fun r_15 μ_13 H locs q_14 hd hX hz => ?_)
      obtain ⟨rfl, e_16⟩ := q_14
      rw [e_16] at hX hd
      refine W.eq (g2 := F0 m 695 ls [.int (nI (nWis σ j sz 10 j)), .int (nI (((σ 7 (σ 8 j)) - (nWis σ j sz 7 (σ 8 j))) + (σ 10 j)))]) rfl ?_
      refine n_isub hx hb dL_law_695 (pk_sub (by omega)) ?_
      refine lv_istore (lv' := [(21, .int (nI ((((σ 7 (σ 8 j)) - (nWis σ j sz 7 (σ 8 j))) + (σ 10 j)) - (nWis σ j sz 10 j)))), (19, .int (nI (fwG sz (σ 7 (σ 8 j)) (σ 10 j) (σ 11 j)))), (18, .int (nI (σ 2 0))), (17, .int (nI (σ 1 0))), (16, .int (nI (σ 12 j))), (15, .int (nI (σ 10 j))), (14, .int (nI (σ 7 (σ 8 j)))), (13, .int (nI (σ 8 j))), (12, .int (nI sz)), (11, .int (nI j)), (3, .int (nI t)), (2, .ref (Ω 0 0)), (1, .ref (Λ 0 0)), (0, .ref ((gT g).1))]) hx hb dL_law_696 hl (by decide) rfl (fun ls hl => ?_)
      refine lv_iload hx hb dL_law_698 (lv_at hl 0 rfl) ?_
      refine lv_iload hx hb dL_law_700 (lv_at hl 1 rfl) ?_
      refine n_if_eq (tgt := 710) hx hb (by omega) dL_law_702 (by decide) (fun c_17 => ?_) (fun c_17 => ?_)
      · skip
        refine lv_iconst (v := nI 0) hx hb dL_law_710 (by decide) ?_
        refine n_ne (tgt := 783) hx hb (by omega) (by omega) dL_law_711 (by decide) (fun c_18 => ?_) (fun c_18 => ?_)
        · skip
          exfalso; omega
        · skip
          refine lv_iload hx hb dL_law_714 (lv_at hl 1 rfl) ?_
          refine n_if_eq (tgt := 767) hx hb (by omega) dL_law_716 (by decide) (fun _ => ?_) (fun h => absurd h (by omega))
          refine lv_iload hx hb dL_law_767 (lv_at hl 1 rfl) ?_
          refine n_if_ne (tgt := 785) hx hb (by omega) dL_law_769 (by decide) (fun h => absurd h (by omega)) (fun _ => ?_)
          refine lv_aload_n hx hb dL_law_772 rfl (lv_at hl 12 rfl) ?_
          refine w_callL (w_runV (n := 0) (As := []) (rest := []) hx hb hml hown (hX.l hd) (c_X2_denied l g μ_1 H.size hF hO2) kw324 kw1 kw321 kw322 kw323 wn_X2_denied rfl hF.1 rfl ⟨Nat.le_of_ble_eq_true rfl, Nat.le_of_ble_eq_true rfl⟩ hl.1 rfl (Nat.le_of_ble_eq_true rfl) dL_law_773 ⟨(show cells + 0 ≤ 600130 by omega), (show slots + 0 ≤ 7301080 by omega)⟩) hX hd (fun r_21 μ_19 H locs q_20 hd hX hz => ?_)
          obtain ⟨rfl, e_22⟩ := q_20
          rw [e_22] at hX hd
          refine W.eq (g2 := F0 m 776 ls [.int (nI (nWis σ j sz 2 0))]) rfl ?_
          refine lv_iload hx hb dL_law_776 (lv_at hl 2 rfl) ?_
          refine lv_iconst (v := nI 1) hx hb dL_law_778 (by decide) ?_
          refine n_iadd hx hb dL_law_779 (nI_add _ _) ?_
          refine n_eq (tgt := 785) hx hb (by omega) (by omega) dL_law_780 (by decide) (fun c_23 => ?_) (fun c_23 => ?_)
          · skip
            exact sl_hours hx hb hml hown hc hs hF hS hd hg2 (by omega) hi9 hj2 hw2 h1 h2 hX (lv_sub hl [7, 8, 9, 10, 11, 12, 13] rfl) kk
          · skip
            exfalso; omega
      · skip
        refine lv_iload hx hb dL_law_705 (lv_at hl 8 rfl) ?_
        refine lv_goto (tgt := 711) hx hb dL_law_707 (by decide) ?_
        refine n_ne (tgt := 783) hx hb (by omega) (by omega) dL_law_711 (by decide) (fun c_24 => ?_) (fun c_24 => ?_)
        · skip
          exfalso; omega
        · skip
          refine lv_iload hx hb dL_law_714 (lv_at hl 1 rfl) ?_
          refine n_if_eq (tgt := 767) hx hb (by omega) dL_law_716 (by decide) (fun h => absurd h (by omega)) (fun _ => ?_)
          refine lv_aload_n hx hb dL_law_719 rfl (lv_at hl 12 rfl) ?_
          refine lv_iload hx hb dL_law_720 (lv_at hl 9 rfl) ?_
          refine w_callL (w_runV (n := 1) (As := [.int (nI j)]) (rest := []) hx hb hml hown (hX.l hd) (c_X2_marksOf_g l g μ_1 H.size hF hO2 hj2) kw358 kw1 kw355 kw356 kw357 wn_X2_marksOf rfl hF.1 rfl ⟨Nat.le_of_ble_eq_true rfl, Nat.le_of_ble_eq_true rfl⟩ hl.1 rfl (Nat.le_of_ble_eq_true rfl) dL_law_722 ⟨(show cells + 0 ≤ 600130 by omega), (show slots + 0 ≤ 7301080 by omega)⟩) hX hd (fun r_27 μ_25 H locs q_26 hd hX hz => ?_)
          obtain ⟨rfl, e_28⟩ := q_26
          rw [e_28] at hX hd
          refine W.eq (g2 := F0 m 725 ls [.int (nI (nWis σ j sz 12 j))]) rfl ?_
          refine lv_iconst (v := nI 0) hx hb dL_law_725 (by decide) ?_
          refine lv_iload hx hb dL_law_726 (lv_at hl 4 rfl) ?_
          refine lv_iconst (v := nI 1) hx hb dL_law_728 (by decide) ?_
          refine n_isub hx hb dL_law_729 rfl ?_
          refine n_mmax hx hb (hml.trans hl.1.symm) hX hown kw645 kStMax kInMath kCdMax ⟨Nat.le_of_ble_eq_true rfl, Nat.le_of_ble_eq_true rfl⟩ ⟨(show cells ≤ 600130 by omega), (show slots ≤ 7301080 by omega)⟩ dL_law_730 (nI_max0 (by omega) (by omega)) ?_
          refine n_ne (tgt := 783) hx hb (by omega) (by omega) dL_law_733 (by decide) (fun c_29 => ?_) (fun c_29 => ?_)
          · skip
            exfalso; omega
          · skip
            refine lv_aload_n hx hb dL_law_736 rfl (lv_at hl 12 rfl) ?_
            refine lv_iload hx hb dL_law_737 (lv_at hl 9 rfl) ?_
            refine w_callL (w_runV (n := 1) (As := [.int (nI j)]) (rest := []) hx hb hml hown (hX.l hd) (c_X2_burstOf_g l g μ_1 H.size hF hO2 hj2) kw350 kw1 kw347 kw348 kw349 wn_X2_burstOf rfl hF.1 rfl ⟨Nat.le_of_ble_eq_true rfl, Nat.le_of_ble_eq_true rfl⟩ hl.1 rfl (Nat.le_of_ble_eq_true rfl) dL_law_739 ⟨(show cells + 0 ≤ 600130 by omega), (show slots + 0 ≤ 7301080 by omega)⟩) hX hd (fun r_32 μ_30 H locs q_31 hd hX hz => ?_)
            obtain ⟨rfl, e_33⟩ := q_31
            rw [e_33] at hX hd
            refine W.eq (g2 := F0 m 742 ls [.int (nI (nWis σ j sz 10 j))]) rfl ?_
            refine n_if_le (tgt := 756) hx hb (by omega) dL_law_742 (by decide) (fun c_34 => ?_) (fun c_34 => ?_)
            · skip
              refine lv_aload_n hx hb dL_law_756 rfl (lv_at hl 12 rfl) ?_
              refine w_callL (w_runV (n := 0) (As := []) (rest := []) hx hb hml hown (hX.l hd) (c_X2_granted l g μ_1 H.size hF hO2) kw320 kw1 kw317 kw318 kw319 wn_X2_granted rfl hF.1 rfl ⟨Nat.le_of_ble_eq_true rfl, Nat.le_of_ble_eq_true rfl⟩ hl.1 rfl (Nat.le_of_ble_eq_true rfl) dL_law_757 ⟨(show cells + 0 ≤ 600130 by omega), (show slots + 0 ≤ 7301080 by omega)⟩) hX hd (fun r_37 μ_35 H locs q_36 hd hX hz => ?_)
              obtain ⟨rfl, e_38⟩ := q_36
              rw [e_38] at hX hd
              refine W.eq (g2 := F0 m 760 ls [.int (nI (nWis σ j sz 1 0))]) rfl ?_
              refine lv_iload hx hb dL_law_760 (lv_at hl 3 rfl) ?_
              refine lv_iconst (v := nI 1) hx hb dL_law_762 (by decide) ?_
              refine n_iadd hx hb dL_law_763 (nI_add _ _) ?_
              refine n_ne (tgt := 783) hx hb (by omega) (by omega) dL_law_764 (by decide) (fun c_39 => ?_) (fun c_39 => ?_)
              · skip
                exfalso; omega
              · skip
                refine lv_iload hx hb dL_law_767 (lv_at hl 1 rfl) ?_
                refine n_if_ne (tgt := 785) hx hb (by omega) dL_law_769 (by decide) (fun _ => ?_) (fun h => absurd h (by omega))
                exact sl_hours hx hb hml hown hc hs hF hS hd hg2 (by omega) hi9 hj2 hw2 h1 h2 hX (lv_sub hl [7, 8, 9, 10, 11, 12, 13] rfl) kk
            · skip
              refine lv_aload_n hx hb dL_law_745 rfl (lv_at hl 12 rfl) ?_
              refine lv_iload hx hb dL_law_746 (lv_at hl 7 rfl) ?_
              refine w_callL (w_runV (n := 1) (As := [.int (nI (σ 8 j))]) (rest := []) hx hb hml hown (hX.l hd) (c_X2_dustIn_g l g μ_1 H.size hF hO2 hw2) kw333 kw1 kw330 kw331 kw332 wn_X2_dustIn rfl hF.1 rfl ⟨Nat.le_of_ble_eq_true rfl, Nat.le_of_ble_eq_true rfl⟩ hl.1 rfl (Nat.le_of_ble_eq_true rfl) dL_law_748 ⟨(show cells + 0 ≤ 600130 by omega), (show slots + 0 ≤ 7301080 by omega)⟩) hX hd (fun r_42 μ_40 H locs q_41 hd hX hz => ?_)
              obtain ⟨rfl, e_43⟩ := q_41
              rw [e_43] at hX hd
              refine W.eq (g2 := F0 m 751 ls [.int (nI (nWis σ j sz 7 (σ 8 j)))]) rfl ?_
              refine lv_iload hx hb dL_law_751 (lv_at hl 6 rfl) ?_
              refine n_ne (tgt := 783) hx hb (by omega) (by omega) dL_law_753 (by decide) (fun c_44 => ?_) (fun c_44 => ?_)
              · skip
                exfalso; omega
              · skip
                refine lv_aload_n hx hb dL_law_756 rfl (lv_at hl 12 rfl) ?_
                refine w_callL (w_runV (n := 0) (As := []) (rest := []) hx hb hml hown (hX.l hd) (c_X2_granted l g μ_1 H.size hF hO2) kw320 kw1 kw317 kw318 kw319 wn_X2_granted rfl hF.1 rfl ⟨Nat.le_of_ble_eq_true rfl, Nat.le_of_ble_eq_true rfl⟩ hl.1 rfl (Nat.le_of_ble_eq_true rfl) dL_law_757 ⟨(show cells + 0 ≤ 600130 by omega), (show slots + 0 ≤ 7301080 by omega)⟩) hX hd (fun r_47 μ_45 H locs q_46 hd hX hz => ?_)
                obtain ⟨rfl, e_48⟩ := q_46
                rw [e_48] at hX hd
                refine W.eq (g2 := F0 m 760 ls [.int (nI (nWis σ j sz 1 0))]) rfl ?_
                refine lv_iload hx hb dL_law_760 (lv_at hl 3 rfl) ?_
                refine lv_iconst (v := nI 1) hx hb dL_law_762 (by decide) ?_
                refine n_iadd hx hb dL_law_763 (nI_add _ _) ?_
                refine n_ne (tgt := 783) hx hb (by omega) (by omega) dL_law_764 (by decide) (fun c_49 => ?_) (fun c_49 => ?_)
                · skip
                  exfalso; omega
                · skip
                  refine lv_iload hx hb dL_law_767 (lv_at hl 1 rfl) ?_
                  refine n_if_ne (tgt := 785) hx hb (by omega) dL_law_769 (by decide) (fun _ => ?_) (fun h => absurd h (by omega))
                  exact sl_hours hx hb hml hown hc hs hF hS hd hg2 (by omega) hi9 hj2 hw2 h1 h2 hX (lv_sub hl [7, 8, 9, 10, 11, 12, 13] rfl) kk
    · skip
      exfalso; omega

set_option maxHeartbeats 4000000 in
set_option maxRecDepth 100000 in
/-- a child, a size, and what is told ahead of the wish -/
theorem sl_ask {p : Program} {l : Launch} {e : Env} {s : State} {m : MethodId} {args : Array Value} {below : List Frame} {meth : Method} {c : Code} {Q : State → Prop} {A : Nat → Prop} {g : wG} {H : Heap} {locs : List Loc} {ls : Array Slot} {cells slots : Nat} (hx : p.tables.exec = Jvm.exec) (hb : c.code = cL_law) (hml : c.maxLocals = 25) (hown : s.vm.findClass yL_law.cls = some m.cls) (hc : cells ≤ 600000) (hs : slots ≤ 7300000) {μ ν : wMu} {Λ Ω σ : sSt} {τ : Nat → Nat} {i i9 : Nat} (hF : fD g Λ none σ μ) (hS : sD g Ω τ σ ν) (hd : dj μ ν) (hg : pG τ σ i) (hi : i + 40 ≤ i9) (hi9 : i9 ≤ 500) {t : Nat} {x : Int32} (hn : 0 < σ 4 0) (hX : wX g A s H locs (mU μ ν)) (hl : lv_has ls 25 [(7, .int (nI (σ 4 0))), (4, .int x), (3, .int (nI t)), (2, .ref (Ω 0 0)), (1, .ref (Λ 0 0)), (0, .ref ((gT g).1))]) (kk : ∀ (κ : wMu) (H : Heap) (locs : List Loc) (ls : Array Slot), bW g (Λ 0 0) (Ω 0 0) i9 κ → wX g A s H locs κ → lv_has ls 25 [(3, .int (nI t)), (2, .ref (Ω 0 0)), (1, .ref (Λ 0 0)), (0, .ref (gT g).1)] → W p l e room_1 s m args below meth c H locs cells slots Q (F0 m 938 ls [])) : W p l e room_1 s m args below meth c H locs cells slots Q (F0 m 506 ls []) := by
  have hO := hg.O
  have hT := hg.T
  obtain ⟨⟨-, gh, gc⟩, -⟩ := id hg
  obtain ⟨o1, o2, o3, o4, o5, o6, o7⟩ := id hO
  refine lv_iload hx hb dL_law_506 (lv_at hl 1 rfl) ?_
  refine lv_iconst (v := nI 3) hx hb dL_law_508 (by decide) ?_
  refine lv_ishr hx hb dL_law_509 ?_
  refine lv_topi (fun y_1 _ => ?_)
  refine lv_iload hx hb dL_law_510 (lv_at hl 0 rfl) ?_
  refine w_call (w_runS (n := 2) (As := [.int y_1, .int (nI (σ 4 0))]) (rest := []) hx hb hml hown hX (c_L_below l g (mU μ ν) H.size (by omega) (by omega)) kw509 kw0 kw507 kw508 wn_L_below rfl ⟨Nat.le_of_ble_eq_true rfl, Nat.le_of_ble_eq_true rfl⟩ hl.1 rfl (Nat.le_of_ble_eq_true rfl) dL_law_512 ⟨(show cells + 0 ≤ 600130 by omega), (show slots + 0 ≤ 7301080 by omega)⟩) hX (fun r_5 μ_3 H locs q_4 hX hz => ?_)
  obtain ⟨b_2, hb_2, rfl, e_6⟩ := q_4
  rw [e_6] at hX
  refine W.eq (g2 := F0 m 515 ls [.int (nI b_2)]) rfl ?_
  refine lv_istore (lv' := [(11, .int (nI b_2)), (7, .int (nI (σ 4 0))), (4, .int x), (3, .int (nI t)), (2, .ref (Ω 0 0)), (1, .ref (Λ 0 0)), (0, .ref ((gT g).1))]) hx hb dL_law_515 hl (by decide) rfl (fun ls hl => ?_)
  refine lv_iconst (v := nI 1) hx hb dL_law_517 (by decide) ?_
  refine lv_iload hx hb dL_law_518 (lv_at hl 2 rfl) ?_
  refine lv_iconst (v := nI 5) hx hb dL_law_520 (by decide) ?_
  refine lv_ishr hx hb dL_law_521 ?_
  refine lv_topi (fun y_7 _ => ?_)
  refine lv_bipush (v := nI 20) hx hb dL_law_522 (by decide) ?_
  refine w_call (w_runS (n := 2) (As := [.int y_7, .int (nI 20)]) (rest := [.int (nI 1)]) hx hb hml hown hX (c_L_below l g (mU μ ν) H.size (by omega) (by omega)) kw509 kw0 kw507 kw508 wn_L_below rfl ⟨Nat.le_of_ble_eq_true rfl, Nat.le_of_ble_eq_true rfl⟩ hl.1 rfl (Nat.le_of_ble_eq_true rfl) dL_law_524 ⟨(show cells + 0 ≤ 600130 by omega), (show slots + 0 ≤ 7301080 by omega)⟩) hX (fun r_11 μ_9 H locs q_10 hX hz => ?_)
  obtain ⟨b_8, hb_8, rfl, e_12⟩ := q_10
  rw [e_12] at hX
  refine W.eq (g2 := F0 m 527 ls [.int (nI b_8), .int (nI 1)]) rfl ?_
  refine n_iadd hx hb dL_law_527 (nI_add _ _) ?_
  refine lv_istore (lv' := [(12, .int (nI (1 + b_8))), (11, .int (nI b_2)), (7, .int (nI (σ 4 0))), (4, .int x), (3, .int (nI t)), (2, .ref (Ω 0 0)), (1, .ref (Λ 0 0)), (0, .ref ((gT g).1))]) hx hb dL_law_528 hl (by decide) rfl (fun ls hl => ?_)
  obtain ⟨j, hje⟩ : ∃ z, z = b_2 := ⟨_, rfl⟩
  obtain ⟨sz, hze⟩ : ∃ z, z = 1 + b_8 := ⟨_, rfl⟩
  rw [← hje, ← hze] at hl
  have hj : j < σ 4 0 := by omega
  have h1 : 1 ≤ sz := by omega
  have h2 : sz ≤ 20 := by omega
  have ojb := o4 j hj
  have owb := o3 _ ojb.1
  have hgl := grt_le σ j
  have hfl := fwG_le sz (σ 7 (σ 8 j)) (σ 10 j) (σ 11 j)
  refine lv_aload_n hx hb dL_law_530 rfl (lv_at hl 6 rfl) ?_
  refine lv_iload hx hb dL_law_531 (lv_at hl 1 rfl) ?_
  refine w_callL (w_runV (n := 1) (As := [.int (nI j)]) (rest := []) hx hb hml hown (hX.l hd) (c_X2_wandOf_g l g μ H.size hF hO hj) kw346 kw1 kw343 kw344 kw345 wn_X2_wandOf rfl hF.1 rfl ⟨Nat.le_of_ble_eq_true rfl, Nat.le_of_ble_eq_true rfl⟩ hl.1 rfl (Nat.le_of_ble_eq_true rfl) dL_law_533 ⟨(show cells + 0 ≤ 600130 by omega), (show slots + 0 ≤ 7301080 by omega)⟩) hX hd (fun r_15 μ_13 H locs q_14 hd hX hz => ?_)
  obtain ⟨rfl, e_16⟩ := q_14
  rw [e_16] at hX hd
  refine W.eq (g2 := F0 m 536 ls [.int (nI (σ 8 j))]) rfl ?_
  refine lv_istore (lv' := [(13, .int (nI (σ 8 j))), (12, .int (nI sz)), (11, .int (nI j)), (7, .int (nI (σ 4 0))), (4, .int x), (3, .int (nI t)), (2, .ref (Ω 0 0)), (1, .ref (Λ 0 0)), (0, .ref ((gT g).1))]) hx hb dL_law_536 hl (by decide) rfl (fun ls hl => ?_)
  refine lv_aload_n hx hb dL_law_538 rfl (lv_at hl 7 rfl) ?_
  refine lv_iload hx hb dL_law_539 (lv_at hl 0 rfl) ?_
  refine w_callL (w_runV (n := 1) (As := [.int (nI (σ 8 j))]) (rest := []) hx hb hml hown (hX.l hd) (c_X2_dustIn_g l g μ H.size hF hO ojb.1) kw333 kw1 kw330 kw331 kw332 wn_X2_dustIn rfl hF.1 rfl ⟨Nat.le_of_ble_eq_true rfl, Nat.le_of_ble_eq_true rfl⟩ hl.1 rfl (Nat.le_of_ble_eq_true rfl) dL_law_541 ⟨(show cells + 0 ≤ 600130 by omega), (show slots + 0 ≤ 7301080 by omega)⟩) hX hd (fun r_19 μ_17 H locs q_18 hd hX hz => ?_)
  obtain ⟨rfl, e_20⟩ := q_18
  rw [e_20] at hX hd
  refine W.eq (g2 := F0 m 544 ls [.int (nI (σ 7 (σ 8 j)))]) rfl ?_
  refine lv_istore (lv' := [(14, .int (nI (σ 7 (σ 8 j)))), (13, .int (nI (σ 8 j))), (12, .int (nI sz)), (11, .int (nI j)), (7, .int (nI (σ 4 0))), (4, .int x), (3, .int (nI t)), (2, .ref (Ω 0 0)), (1, .ref (Λ 0 0)), (0, .ref ((gT g).1))]) hx hb dL_law_544 hl (by decide) rfl (fun ls hl => ?_)
  refine lv_aload_n hx hb dL_law_546 rfl (lv_at hl 8 rfl) ?_
  refine lv_iload hx hb dL_law_547 (lv_at hl 3 rfl) ?_
  refine w_callL (w_runV (n := 1) (As := [.int (nI j)]) (rest := []) hx hb hml hown (hX.l hd) (c_X2_burstOf_g l g μ H.size hF hO hj) kw350 kw1 kw347 kw348 kw349 wn_X2_burstOf rfl hF.1 rfl ⟨Nat.le_of_ble_eq_true rfl, Nat.le_of_ble_eq_true rfl⟩ hl.1 rfl (Nat.le_of_ble_eq_true rfl) dL_law_549 ⟨(show cells + 0 ≤ 600130 by omega), (show slots + 0 ≤ 7301080 by omega)⟩) hX hd (fun r_23 μ_21 H locs q_22 hd hX hz => ?_)
  obtain ⟨rfl, e_24⟩ := q_22
  rw [e_24] at hX hd
  refine W.eq (g2 := F0 m 552 ls [.int (nI (σ 10 j))]) rfl ?_
  refine lv_istore (lv' := [(15, .int (nI (σ 10 j))), (14, .int (nI (σ 7 (σ 8 j)))), (13, .int (nI (σ 8 j))), (12, .int (nI sz)), (11, .int (nI j)), (7, .int (nI (σ 4 0))), (4, .int x), (3, .int (nI t)), (2, .ref (Ω 0 0)), (1, .ref (Λ 0 0)), (0, .ref ((gT g).1))]) hx hb dL_law_552 hl (by decide) rfl (fun ls hl => ?_)
  refine lv_aload_n hx hb dL_law_554 rfl (lv_at hl 9 rfl) ?_
  refine lv_iload hx hb dL_law_555 (lv_at hl 4 rfl) ?_
  refine w_callL (w_runV (n := 1) (As := [.int (nI j)]) (rest := []) hx hb hml hown (hX.l hd) (c_X2_marksOf_g l g μ H.size hF hO hj) kw358 kw1 kw355 kw356 kw357 wn_X2_marksOf rfl hF.1 rfl ⟨Nat.le_of_ble_eq_true rfl, Nat.le_of_ble_eq_true rfl⟩ hl.1 rfl (Nat.le_of_ble_eq_true rfl) dL_law_557 ⟨(show cells + 0 ≤ 600130 by omega), (show slots + 0 ≤ 7301080 by omega)⟩) hX hd (fun r_27 μ_25 H locs q_26 hd hX hz => ?_)
  obtain ⟨rfl, e_28⟩ := q_26
  rw [e_28] at hX hd
  refine W.eq (g2 := F0 m 560 ls [.int (nI (σ 12 j))]) rfl ?_
  refine lv_istore (lv' := [(16, .int (nI (σ 12 j))), (15, .int (nI (σ 10 j))), (14, .int (nI (σ 7 (σ 8 j)))), (13, .int (nI (σ 8 j))), (12, .int (nI sz)), (11, .int (nI j)), (7, .int (nI (σ 4 0))), (4, .int x), (3, .int (nI t)), (2, .ref (Ω 0 0)), (1, .ref (Λ 0 0)), (0, .ref ((gT g).1))]) hx hb dL_law_560 hl (by decide) rfl (fun ls hl => ?_)
  refine lv_aload_n hx hb dL_law_562 rfl (lv_at hl 10 rfl) ?_
  refine w_callL (w_runV (n := 0) (As := []) (rest := []) hx hb hml hown (hX.l hd) (c_X2_granted l g μ H.size hF hO) kw320 kw1 kw317 kw318 kw319 wn_X2_granted rfl hF.1 rfl ⟨Nat.le_of_ble_eq_true rfl, Nat.le_of_ble_eq_true rfl⟩ hl.1 rfl (Nat.le_of_ble_eq_true rfl) dL_law_563 ⟨(show cells + 0 ≤ 600130 by omega), (show slots + 0 ≤ 7301080 by omega)⟩) hX hd (fun r_31 μ_29 H locs q_30 hd hX hz => ?_)
  obtain ⟨rfl, e_32⟩ := q_30
  rw [e_32] at hX hd
  refine W.eq (g2 := F0 m 566 ls [.int (nI (σ 1 0))]) rfl ?_
  refine lv_istore (lv' := [(17, .int (nI (σ 1 0))), (16, .int (nI (σ 12 j))), (15, .int (nI (σ 10 j))), (14, .int (nI (σ 7 (σ 8 j)))), (13, .int (nI (σ 8 j))), (12, .int (nI sz)), (11, .int (nI j)), (7, .int (nI (σ 4 0))), (4, .int x), (3, .int (nI t)), (2, .ref (Ω 0 0)), (1, .ref (Λ 0 0)), (0, .ref ((gT g).1))]) hx hb dL_law_566 hl (by decide) rfl (fun ls hl => ?_)
  refine lv_aload_n hx hb dL_law_568 rfl (lv_at hl 11 rfl) ?_
  refine w_callL (w_runV (n := 0) (As := []) (rest := []) hx hb hml hown (hX.l hd) (c_X2_denied l g μ H.size hF hO) kw324 kw1 kw321 kw322 kw323 wn_X2_denied rfl hF.1 rfl ⟨Nat.le_of_ble_eq_true rfl, Nat.le_of_ble_eq_true rfl⟩ hl.1 rfl (Nat.le_of_ble_eq_true rfl) dL_law_569 ⟨(show cells + 0 ≤ 600130 by omega), (show slots + 0 ≤ 7301080 by omega)⟩) hX hd (fun r_35 μ_33 H locs q_34 hd hX hz => ?_)
  obtain ⟨rfl, e_36⟩ := q_34
  rw [e_36] at hX hd
  refine W.eq (g2 := F0 m 572 ls [.int (nI (σ 2 0))]) rfl ?_
  refine lv_istore (lv' := [(18, .int (nI (σ 2 0))), (17, .int (nI (σ 1 0))), (16, .int (nI (σ 12 j))), (15, .int (nI (σ 10 j))), (14, .int (nI (σ 7 (σ 8 j)))), (13, .int (nI (σ 8 j))), (12, .int (nI sz)), (11, .int (nI j)), (7, .int (nI (σ 4 0))), (4, .int x), (3, .int (nI t)), (2, .ref (Ω 0 0)), (1, .ref (Λ 0 0)), (0, .ref ((gT g).1))]) hx hb dL_law_572 hl (by decide) rfl (fun ls hl => ?_)
  have hj592 : ∀ (H : Heap) (locs : List Loc) (ls : Array Slot), wX g A s H locs (mU μ ν) → lv_has ls 25 [(19, .int (nI (fwG sz (σ 7 (σ 8 j)) (σ 10 j) (σ 11 j)))), (18, .int (nI (σ 2 0))), (17, .int (nI (σ 1 0))), (16, .int (nI (σ 12 j))), (15, .int (nI (σ 10 j))), (14, .int (nI (σ 7 (σ 8 j)))), (13, .int (nI (σ 8 j))), (12, .int (nI sz)), (11, .int (nI j)), (7, .int (nI (σ 4 0))), (4, .int x), (3, .int (nI t)), (2, .ref (Ω 0 0)), (1, .ref (Λ 0 0)), (0, .ref ((gT g).1))] → W p l e room_1 s m args below meth c H locs cells slots Q (F0 m 592 ls []) := by
    intro H locs ls hX hl
    refine lv_aload_n hx hb dL_law_592 rfl (lv_at hl 13 rfl) ?_
    refine lv_iload hx hb dL_law_593 (lv_at hl 7 rfl) ?_
    refine w_callL (w_runV (n := 1) (As := [.int (nI sz)]) (rest := []) hx hb hml hown (hX.l hd) (c_X2_bestChild_g l g μ H.size hF hO h1 h2) kw417 kw1 kw414 kw415 kw416 wn_X2_bestChild rfl hF.1 rfl ⟨Nat.le_of_ble_eq_true rfl, Nat.le_of_ble_eq_true rfl⟩ hl.1 rfl (Nat.le_of_ble_eq_true rfl) dL_law_595 ⟨(show cells + 0 ≤ 600130 by omega), (show slots + 0 ≤ 7301080 by omega)⟩) hX hd (fun r_39 μ_37 H locs q_38 hd hX hz => ?_)
    obtain ⟨rfl, e_40⟩ := q_38
    rw [e_40] at hX hd
    refine W.eq (g2 := F0 m 598 ls [.int (vBst σ sz)]) rfl ?_
    rcases vBst_c hO sz with ⟨hbv, hb2⟩ | ⟨b, hbn, hbv, hb2⟩
    · skip
      rw [hbv]
      have h5 : ¬ (σ 11 j = 0 ∧ sz ≤ σ 10 j + σ 7 (σ 8 j)) := hb2 j hj
      refine lv_istore (lv' := [(20, .int (-1 : Int32)), (19, .int (nI (fwG sz (σ 7 (σ 8 j)) (σ 10 j) (σ 11 j)))), (18, .int (nI (σ 2 0))), (17, .int (nI (σ 1 0))), (16, .int (nI (σ 12 j))), (15, .int (nI (σ 10 j))), (14, .int (nI (σ 7 (σ 8 j)))), (13, .int (nI (σ 8 j))), (12, .int (nI sz)), (11, .int (nI j)), (7, .int (nI (σ 4 0))), (4, .int x), (3, .int (nI t)), (2, .ref (Ω 0 0)), (1, .ref (Λ 0 0)), (0, .ref ((gT g).1))]) hx hb dL_law_598 hl (by decide) rfl (fun ls hl => ?_)
      refine lv_iload hx hb dL_law_600 (lv_at hl 1 rfl) ?_
      refine lv_aload_n hx hb dL_law_602 rfl (lv_at hl 14 rfl) ?_
      refine lv_iload hx hb dL_law_603 (lv_at hl 9 rfl) ?_
      refine lv_iload hx hb dL_law_605 (lv_at hl 8 rfl) ?_
      refine w_callL (w_runV (n := 2) (As := [.int (nI j), .int (nI sz)]) (rest := [.int (nI (fwG sz (σ 7 (σ 8 j)) (σ 10 j) (σ 11 j)))]) hx hb hml hown (hX.l hd) (c_X2_hoursUntil_g l g μ H.size hF hO hj h1 h2) kw380 kw1 kw377 kw378 kw379 wn_X2_hoursUntil rfl hF.1 rfl ⟨Nat.le_of_ble_eq_true rfl, Nat.le_of_ble_eq_true rfl⟩ hl.1 rfl (Nat.le_of_ble_eq_true rfl) dL_law_607 ⟨(show cells + 0 ≤ 600130 by omega), (show slots + 0 ≤ 7301080 by omega)⟩) hX hd (fun r_43 μ_41 H locs q_42 hd hX hz => ?_)
      obtain ⟨rfl, hF⟩ := q_42
      refine W.eq (g2 := F0 m 610 ls [.int (utl σ j sz 101 0), .int (nI (fwG sz (σ 7 (σ 8 j)) (σ 10 j) (σ 11 j)))]) rfl ?_
      refine lv_if_ne (tgt := 617) hx hb dL_law_610 (by decide) (fun c_44 => ?_) (fun c_44 => ?_)
      · skip
        have h3 : ¬ (σ 11 j = 0 ∧ sz ≤ σ 10 j + σ 7 (σ 8 j)) := fun z => c_44 (((utl_0 hO hj).mpr z).trans nI_0)
        have h4 : fwG sz (σ 7 (σ 8 j)) (σ 10 j) (σ 11 j) = 0 := if_neg h3
        refine lv_iconst (v := nI 0) hx hb dL_law_617 (by decide) ?_
        refine n_ne (tgt := 647) hx hb (by omega) (by omega) dL_law_618 (by decide) (fun c_45 => ?_) (fun c_45 => ?_)
        · skip
          exfalso; omega
        · skip
          refine lv_iload hx hb dL_law_621 (lv_at hl 1 rfl) ?_
          refine n_if_eq (tgt := 631) hx hb (by omega) dL_law_623 (by decide) (fun _ => ?_) (fun h => absurd h (by omega))
          refine lv_iload hx hb dL_law_631 (lv_at hl 0 rfl) ?_
          refine lv_if_lt (tgt := 649) hx hb dL_law_633 (by decide) (fun _ => ?_) (fun h => absurd (by decide) h)
          exact sl_wish hx hb hml hown hc hs hF hS hd hg hi hi9 hj h1 h2 hX (lv_sub hl [1, 2, 3, 4, 5, 6, 7, 8, 9, 12, 13, 14, 15] rfl) kk
      · skip
        have h3 : σ 11 j = 0 ∧ sz ≤ σ 10 j + σ 7 (σ 8 j) := (utl_0 hO hj).mp (c_44.trans nI_0.symm)
        have h4 : fwG sz (σ 7 (σ 8 j)) (σ 10 j) (σ 11 j) = 1 := if_pos h3
        refine lv_iconst (v := nI 1) hx hb dL_law_613 (by decide) ?_
        refine lv_goto (tgt := 618) hx hb dL_law_614 (by decide) ?_
        refine n_ne (tgt := 647) hx hb (by omega) (by omega) dL_law_618 (by decide) (fun c_46 => ?_) (fun c_46 => ?_)
        · skip
          exfalso; omega
        · skip
          refine lv_iload hx hb dL_law_621 (lv_at hl 1 rfl) ?_
          refine n_if_eq (tgt := 631) hx hb (by omega) dL_law_623 (by decide) (fun h => absurd h (by omega)) (fun _ => ?_)
          refine lv_iload hx hb dL_law_626 (lv_at hl 0 rfl) ?_
          refine lv_if_lt (tgt := 647) hx hb dL_law_628 (by decide) (fun _ => ?_) (fun h => absurd (by decide) h)
          exfalso; omega
    · skip
      rw [hbv]
      have h6 := (grt_iff (σ := σ) (j := b) h1 h2).mp hb2
      have hgl2 := grt_le σ b
      refine lv_istore (lv' := [(20, .int (nI b)), (19, .int (nI (fwG sz (σ 7 (σ 8 j)) (σ 10 j) (σ 11 j)))), (18, .int (nI (σ 2 0))), (17, .int (nI (σ 1 0))), (16, .int (nI (σ 12 j))), (15, .int (nI (σ 10 j))), (14, .int (nI (σ 7 (σ 8 j)))), (13, .int (nI (σ 8 j))), (12, .int (nI sz)), (11, .int (nI j)), (7, .int (nI (σ 4 0))), (4, .int x), (3, .int (nI t)), (2, .ref (Ω 0 0)), (1, .ref (Λ 0 0)), (0, .ref ((gT g).1))]) hx hb dL_law_598 hl (by decide) rfl (fun ls hl => ?_)
      refine lv_iload hx hb dL_law_600 (lv_at hl 1 rfl) ?_
      refine lv_aload_n hx hb dL_law_602 rfl (lv_at hl 14 rfl) ?_
      refine lv_iload hx hb dL_law_603 (lv_at hl 9 rfl) ?_
      refine lv_iload hx hb dL_law_605 (lv_at hl 8 rfl) ?_
      refine w_callL (w_runV (n := 2) (As := [.int (nI j), .int (nI sz)]) (rest := [.int (nI (fwG sz (σ 7 (σ 8 j)) (σ 10 j) (σ 11 j)))]) hx hb hml hown (hX.l hd) (c_X2_hoursUntil_g l g μ H.size hF hO hj h1 h2) kw380 kw1 kw377 kw378 kw379 wn_X2_hoursUntil rfl hF.1 rfl ⟨Nat.le_of_ble_eq_true rfl, Nat.le_of_ble_eq_true rfl⟩ hl.1 rfl (Nat.le_of_ble_eq_true rfl) dL_law_607 ⟨(show cells + 0 ≤ 600130 by omega), (show slots + 0 ≤ 7301080 by omega)⟩) hX hd (fun r_49 μ_47 H locs q_48 hd hX hz => ?_)
      obtain ⟨rfl, hF⟩ := q_48
      refine W.eq (g2 := F0 m 610 ls [.int (utl σ j sz 101 0), .int (nI (fwG sz (σ 7 (σ 8 j)) (σ 10 j) (σ 11 j)))]) rfl ?_
      refine lv_if_ne (tgt := 617) hx hb dL_law_610 (by decide) (fun c_50 => ?_) (fun c_50 => ?_)
      · skip
        have h3 : ¬ (σ 11 j = 0 ∧ sz ≤ σ 10 j + σ 7 (σ 8 j)) := fun z => c_50 (((utl_0 hO hj).mpr z).trans nI_0)
        have h4 : fwG sz (σ 7 (σ 8 j)) (σ 10 j) (σ 11 j) = 0 := if_neg h3
        refine lv_iconst (v := nI 0) hx hb dL_law_617 (by decide) ?_
        refine n_ne (tgt := 647) hx hb (by omega) (by omega) dL_law_618 (by decide) (fun c_51 => ?_) (fun c_51 => ?_)
        · skip
          exfalso; omega
        · skip
          refine lv_iload hx hb dL_law_621 (lv_at hl 1 rfl) ?_
          refine n_if_eq (tgt := 631) hx hb (by omega) dL_law_623 (by decide) (fun _ => ?_) (fun h => absurd h (by omega))
          refine lv_iload hx hb dL_law_631 (lv_at hl 0 rfl) ?_
          refine lv_if_lt (tgt := 649) hx hb dL_law_633 (by decide) (fun h => absurd h (nI_pos (by omega))) (fun _ => ?_)
          refine lv_aload_n hx hb dL_law_636 rfl (lv_at hl 14 rfl) ?_
          refine lv_iload hx hb dL_law_637 (lv_at hl 0 rfl) ?_
          refine w_callL (w_runV (n := 1) (As := [.int (nI b)]) (rest := []) hx hb hml hown (hX.l hd) (c_X2_greatestWish_g l g μ_47 H.size hF hO hbn) kw374 kw1 kw371 kw372 kw373 wn_X2_greatestWish rfl hF.1 rfl ⟨Nat.le_of_ble_eq_true rfl, Nat.le_of_ble_eq_true rfl⟩ hl.1 rfl (Nat.le_of_ble_eq_true rfl) dL_law_639 ⟨(show cells + 0 ≤ 600130 by omega), (show slots + 0 ≤ 7301080 by omega)⟩) hX hd (fun r_54 μ_52 H locs q_53 hd hX hz => ?_)
          obtain ⟨rfl, e_55⟩ := q_53
          rw [e_55] at hX hd
          refine W.eq (g2 := F0 m 642 ls [.int (nI (vGrt σ b))]) rfl ?_
          refine lv_iload hx hb dL_law_642 (lv_at hl 8 rfl) ?_
          refine n_ge (tgt := 649) hx hb (by omega) (by omega) dL_law_644 (by decide) (fun c_56 => ?_) (fun c_56 => ?_)
          · skip
            exact sl_wish hx hb hml hown hc hs hF hS hd hg hi hi9 hj h1 h2 hX (lv_sub hl [1, 2, 3, 4, 5, 6, 7, 8, 9, 12, 13, 14, 15] rfl) kk
          · skip
            exfalso; omega
      · skip
        have h3 : σ 11 j = 0 ∧ sz ≤ σ 10 j + σ 7 (σ 8 j) := (utl_0 hO hj).mp (c_50.trans nI_0.symm)
        have h4 : fwG sz (σ 7 (σ 8 j)) (σ 10 j) (σ 11 j) = 1 := if_pos h3
        refine lv_iconst (v := nI 1) hx hb dL_law_613 (by decide) ?_
        refine lv_goto (tgt := 618) hx hb dL_law_614 (by decide) ?_
        refine n_ne (tgt := 647) hx hb (by omega) (by omega) dL_law_618 (by decide) (fun c_57 => ?_) (fun c_57 => ?_)
        · skip
          exfalso; omega
        · skip
          refine lv_iload hx hb dL_law_621 (lv_at hl 1 rfl) ?_
          refine n_if_eq (tgt := 631) hx hb (by omega) dL_law_623 (by decide) (fun h => absurd h (by omega)) (fun _ => ?_)
          refine lv_iload hx hb dL_law_626 (lv_at hl 0 rfl) ?_
          refine lv_if_lt (tgt := 647) hx hb dL_law_628 (by decide) (fun h => absurd h (nI_pos (by omega))) (fun _ => ?_)
          refine lv_iload hx hb dL_law_631 (lv_at hl 0 rfl) ?_
          refine lv_if_lt (tgt := 649) hx hb dL_law_633 (by decide) (fun h => absurd h (nI_pos (by omega))) (fun _ => ?_)
          refine lv_aload_n hx hb dL_law_636 rfl (lv_at hl 14 rfl) ?_
          refine lv_iload hx hb dL_law_637 (lv_at hl 0 rfl) ?_
          refine w_callL (w_runV (n := 1) (As := [.int (nI b)]) (rest := []) hx hb hml hown (hX.l hd) (c_X2_greatestWish_g l g μ_47 H.size hF hO hbn) kw374 kw1 kw371 kw372 kw373 wn_X2_greatestWish rfl hF.1 rfl ⟨Nat.le_of_ble_eq_true rfl, Nat.le_of_ble_eq_true rfl⟩ hl.1 rfl (Nat.le_of_ble_eq_true rfl) dL_law_639 ⟨(show cells + 0 ≤ 600130 by omega), (show slots + 0 ≤ 7301080 by omega)⟩) hX hd (fun r_60 μ_58 H locs q_59 hd hX hz => ?_)
          obtain ⟨rfl, e_61⟩ := q_59
          rw [e_61] at hX hd
          refine W.eq (g2 := F0 m 642 ls [.int (nI (vGrt σ b))]) rfl ?_
          refine lv_iload hx hb dL_law_642 (lv_at hl 8 rfl) ?_
          refine n_ge (tgt := 649) hx hb (by omega) (by omega) dL_law_644 (by decide) (fun c_62 => ?_) (fun c_62 => ?_)
          · skip
            exact sl_wish hx hb hml hown hc hs hF hS hd hg hi hi9 hj h1 h2 hX (lv_sub hl [1, 2, 3, 4, 5, 6, 7, 8, 9, 12, 13, 14, 15] rfl) kk
          · skip
            exfalso; omega
  refine lv_aload_n hx hb dL_law_574 rfl (lv_at hl 12 rfl) ?_
  refine lv_iload hx hb dL_law_575 (lv_at hl 7 rfl) ?_
  refine w_callL (w_runV (n := 1) (As := [.int (nI j)]) (rest := []) hx hb hml hown (hX.l hd) (c_X2_greatestWish_g l g μ H.size hF hO hj) kw374 kw1 kw371 kw372 kw373 wn_X2_greatestWish rfl hF.1 rfl ⟨Nat.le_of_ble_eq_true rfl, Nat.le_of_ble_eq_true rfl⟩ hl.1 rfl (Nat.le_of_ble_eq_true rfl) dL_law_577 ⟨(show cells + 0 ≤ 600130 by omega), (show slots + 0 ≤ 7301080 by omega)⟩) hX hd (fun r_65 μ_63 H locs q_64 hd hX hz => ?_)
  obtain ⟨rfl, e_66⟩ := q_64
  rw [e_66] at hX hd
  refine W.eq (g2 := F0 m 580 ls [.int (nI (vGrt σ j))]) rfl ?_
  refine lv_iload hx hb dL_law_580 (lv_at hl 6 rfl) ?_
  refine n_lt (tgt := 589) hx hb (by omega) (by omega) dL_law_582 (by decide) (fun c_67 => ?_) (fun c_67 => ?_)
  · skip
    refine lv_iconst (v := nI 0) hx hb dL_law_589 (by decide) ?_
    refine lv_istore (lv' := [(19, .int (nI 0)), (18, .int (nI (σ 2 0))), (17, .int (nI (σ 1 0))), (16, .int (nI (σ 12 j))), (15, .int (nI (σ 10 j))), (14, .int (nI (σ 7 (σ 8 j)))), (13, .int (nI (σ 8 j))), (12, .int (nI sz)), (11, .int (nI j)), (7, .int (nI (σ 4 0))), (4, .int x), (3, .int (nI t)), (2, .ref (Ω 0 0)), (1, .ref (Λ 0 0)), (0, .ref ((gT g).1))]) hx hb dL_law_590 hl (by decide) rfl (fun ls hl => ?_)
    rw [show nI 0 = nI (fwG sz (σ 7 (σ 8 j)) (σ 10 j) (σ 11 j)) from congrArg nI (by exact (if_neg (fun z => by have h9 := (grt_iff (σ := σ) (j := j) h1 h2).mp z; omega)).symm)] at hl
    exact hj592 _ _ _ hX (lv_sub hl [0, 1, 2, 3, 4, 5, 6, 7, 8, 9, 10, 11, 12, 13, 14] rfl)
  · skip
    refine lv_iconst (v := nI 1) hx hb dL_law_585 (by decide) ?_
    refine lv_goto (tgt := 590) hx hb dL_law_586 (by decide) ?_
    refine lv_istore (lv' := [(19, .int (nI 1)), (18, .int (nI (σ 2 0))), (17, .int (nI (σ 1 0))), (16, .int (nI (σ 12 j))), (15, .int (nI (σ 10 j))), (14, .int (nI (σ 7 (σ 8 j)))), (13, .int (nI (σ 8 j))), (12, .int (nI sz)), (11, .int (nI j)), (7, .int (nI (σ 4 0))), (4, .int x), (3, .int (nI t)), (2, .ref (Ω 0 0)), (1, .ref (Λ 0 0)), (0, .ref ((gT g).1))]) hx hb dL_law_590 hl (by decide) rfl (fun ls hl => ?_)
    rw [show nI 1 = nI (fwG sz (σ 7 (σ 8 j)) (σ 10 j) (σ 11 j)) from congrArg nI (by exact (fw_y (mk := 0) (nx := 0) ((grt_iff h1 h2).mpr (by omega))).1.symm)] at hl
    exact hj592 _ _ _ hX (lv_sub hl [0, 1, 2, 3, 4, 5, 6, 7, 8, 9, 10, 11, 12, 13, 14] rfl)

theorem lg_cmp_self (x : Int64) : lg_cmp x x = nI 0 := by
  unfold lg_cmp
  rw [if_neg (Int64.lt_irrefl), if_pos rfl]
  exact nI_0.symm
set_option maxHeartbeats 4000000 in
set_option maxRecDepth 100000 in
/-- the sums, and the checksum once more -/
theorem sl_sums {p : Program} {l : Launch} {e : Env} {s : State} {m : MethodId} {args : Array Value} {below : List Frame} {meth : Method} {c : Code} {Q : State → Prop} {A : Nat → Prop} {g : wG} {H : Heap} {locs : List Loc} {ls : Array Slot} {cells slots : Nat} (hx : p.tables.exec = Jvm.exec) (hb : c.code = cL_law) (hml : c.maxLocals = 25) (hown : s.vm.findClass yL_law.cls = some m.cls) (hc : cells ≤ 600000) (hs : slots ≤ 7300000) {μ ν : wMu} {Λ Ω σ : sSt} {τ : Nat → Nat} {i i9 : Nat} (hF : fD g Λ none σ μ) (hS : sD g Ω τ σ ν) (hd : dj μ ν) (hg : pG τ σ i) (hi : i + 40 ≤ i9) (hi9 : i9 ≤ 500) {t : Nat} {x : Int32} (hX : wX g A s H locs (mU μ ν)) (hl : lv_has ls 25 [(10, .int (nI (cHel σ (σ 4 0)))), (9, .int (nI (uSm σ (σ 4 0) (σ 3 0)))), (7, .int (nI (σ 4 0))), (5, .long (vDig σ)), (4, .int x), (3, .int (nI t)), (2, .ref (Ω 0 0)), (1, .ref (Λ 0 0)), (0, .ref ((gT g).1))]) (kk : ∀ (κ : wMu) (H : Heap) (locs : List Loc) (ls : Array Slot), bW g (Λ 0 0) (Ω 0 0) i9 κ → wX g A s H locs κ → lv_has ls 25 [(3, .int (nI t)), (2, .ref (Ω 0 0)), (1, .ref (Λ 0 0)), (0, .ref (gT g).1)] → W p l e room_1 s m args below meth c H locs cells slots Q (F0 m 938 ls [])) : W p l e room_1 s m args below meth c H locs cells slots Q (F0 m 456 ls []) := by
  have hO := hg.O
  have hT := hg.T
  obtain ⟨⟨-, gh, gc⟩, -⟩ := id hg
  obtain ⟨o1, o2, o3, o4, o5, o6, o7⟩ := id hO
  have hus : uSm σ (σ 4 0) (σ 3 0) = σ 4 0 := uSm_all _ (fun j hj => (o4 j hj).1)
  have hhe := cHel_le σ (σ 4 0)
  refine lv_iload hx hb dL_law_456 (lv_at hl 1 rfl) ?_
  refine lv_iload hx hb dL_law_458 (lv_at hl 2 rfl) ?_
  refine n_ne (tgt := 496) hx hb (by omega) (by omega) dL_law_460 (by decide) (fun h => absurd h (by omega)) (fun _ => ?_)
  refine lv_iload hx hb dL_law_463 (lv_at hl 0 rfl) ?_
  refine lv_aload_n hx hb dL_law_465 rfl (lv_at hl 7 rfl) ?_
  refine w_callL (w_runV (n := 0) (As := []) (rest := [.int (nI (cHel σ (σ 4 0)))]) hx hb hml hown (hX.l hd) (c_X2_punished l g μ H.size hF hO) kw328 kw1 kw325 kw326 kw327 wn_X2_punished rfl hF.1 rfl ⟨Nat.le_of_ble_eq_true rfl, Nat.le_of_ble_eq_true rfl⟩ hl.1 rfl (Nat.le_of_ble_eq_true rfl) dL_law_466 ⟨(show cells + 0 ≤ 600130 by omega), (show slots + 0 ≤ 7301080 by omega)⟩) hX hd (fun r_3 μ_1 H locs q_2 hd hX hz => ?_)
  obtain ⟨rfl, e_4⟩ := q_2
  rw [e_4] at hX hd
  refine W.eq (g2 := F0 m 469 ls [.int (nI (cHel σ (σ 4 0))), .int (nI (cHel σ (σ 4 0)))]) rfl ?_
  refine n_ne (tgt := 496) hx hb (by omega) (by omega) dL_law_469 (by decide) (fun c_5 => ?_) (fun c_5 => ?_)
  · skip
    exfalso; omega
  · skip
    refine lv_aload_n hx hb dL_law_472 rfl (lv_at hl 7 rfl) ?_
    refine w_callL (w_runV (n := 0) (As := []) (rest := []) hx hb hml hown (hX.l hd) (c_X2_day l g μ H.size hF hO) kw308 kw1 kw305 kw306 kw307 wn_X2_day rfl hF.1 rfl ⟨Nat.le_of_ble_eq_true rfl, Nat.le_of_ble_eq_true rfl⟩ hl.1 rfl (Nat.le_of_ble_eq_true rfl) dL_law_473 ⟨(show cells + 0 ≤ 600130 by omega), (show slots + 0 ≤ 7301080 by omega)⟩) hX hd (fun r_8 μ_6 H locs q_7 hd hX hz => ?_)
    obtain ⟨rfl, e_9⟩ := q_7
    rw [e_9] at hX hd
    refine W.eq (g2 := F0 m 476 ls [.int (nI (σ 0 0 / 24))]) rfl ?_
    refine lv_aload_n hx hb dL_law_476 rfl (lv_at hl 7 rfl) ?_
    refine w_callL (w_runV (n := 0) (As := []) (rest := [.int (nI (σ 0 0 / 24))]) hx hb hml hown (hX.l hd) (c_X2_hour l g μ H.size hF hO) kw304 kw1 kw301 kw302 kw303 wn_X2_hour rfl hF.1 rfl ⟨Nat.le_of_ble_eq_true rfl, Nat.le_of_ble_eq_true rfl⟩ hl.1 rfl (Nat.le_of_ble_eq_true rfl) dL_law_477 ⟨(show cells + 0 ≤ 600130 by omega), (show slots + 0 ≤ 7301080 by omega)⟩) hX hd (fun r_12 μ_10 H locs q_11 hd hX hz => ?_)
    obtain ⟨rfl, e_13⟩ := q_11
    rw [e_13] at hX hd
    refine W.eq (g2 := F0 m 480 ls [.int (nI (σ 0 0)), .int (nI (σ 0 0 / 24))]) rfl ?_
    refine lv_bipush (v := nI 24) hx hb dL_law_480 (by decide) ?_
    refine n_idiv hx hb dL_law_482 (by decide) (pk_div (by omega) (by decide) (by decide)) ?_
    refine n_ne (tgt := 496) hx hb (by omega) (by omega) dL_law_483 (by decide) (fun c_14 => ?_) (fun c_14 => ?_)
    · skip
      exfalso; omega
    · skip
      refine lv_aload_n hx hb dL_law_486 rfl (lv_at hl 7 rfl) ?_
      refine w_callL (w_runV (n := 0) (As := []) (rest := []) hx hb hml hown (hX.l hd) (c_X2_digest l g μ H.size hF hO) kw422 kw1 kw419 kw420 kw421 wn_X2_digest rfl hF.1 rfl ⟨Nat.le_of_ble_eq_true rfl, Nat.le_of_ble_eq_true rfl⟩ hl.1 rfl (Nat.le_of_ble_eq_true rfl) dL_law_487 ⟨(show cells + 0 ≤ 600130 by omega), (show slots + 0 ≤ 7301080 by omega)⟩) hX hd (fun r_17 μ_15 H locs q_16 hd hX hz => ?_)
      obtain ⟨rfl, hF⟩ := q_16
      refine W.eq (g2 := F0 m 490 ls [.long (vDig σ)]) rfl ?_
      refine lv_lload hx hb dL_law_490 (lv_at hl 3 rfl) ?_
      refine W.lcmp hx hb dL_law_492 ?_
      rw [lg_cmp_self]
      refine W.eq (g2 := F0 m 493 ls [.int (nI 0)]) rfl ?_
      refine n_if_eq (tgt := 498) hx hb (by omega) dL_law_493 (by decide) (fun _ => ?_) (fun h => absurd h (by omega))
      refine lv_iload hx hb dL_law_498 (lv_at hl 2 rfl) ?_
      refine n_if_ne (tgt := 506) hx hb (by omega) dL_law_500 (by decide) (fun c_18 => ?_) (fun c_18 => ?_)
      · skip
        exact sl_ask hx hb hml hown hc hs hF hS hd hg hi hi9 (by omega) hX (lv_sub hl [2, 4, 5, 6, 7, 8] rfl) kk
      · skip
        refine lv_goto (tgt := 938) hx hb dL_law_503 (by decide) ?_
        exact kk _ _ _ _ ⟨Λ, Ω, σ, τ, μ_15, ν, rfl, hd, hF, hS, rfl, rfl, hg.le (by omega)⟩ hX (lv_sub hl [5, 6, 7, 8] rfl)

