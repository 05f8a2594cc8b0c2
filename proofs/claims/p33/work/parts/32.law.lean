/-! THE LAW'S BODY -/
theorem nI_ge0 {n : Nat} (h : n < 2 ^ 31) : 0 ≤ nI n := by
  rw [Int32.le_iff_toInt_le, nI_toInt h]
  show (0 : Int) ≤ _
  omega
theorem gd.le {σ : sSt} {i k : Nat} (h : gd σ i) (hk : i ≤ k) : gd σ k := ⟨h.1, by have := h.2.1; omega, by have := h.2.2; omega⟩
theorem pG.le {τ : Nat → Nat} {σ : sSt} {i k : Nat} (h : pG τ σ i) (hk : i ≤ k) : pG τ σ k := ⟨h.1.le hk, h.2⟩
set_option maxHeartbeats 4000000 in
set_option maxRecDepth 100000 in
/-- the wish as told, in this hour -/
theorem sl_due {p : Program} {l : Launch} {e : Env} {s : State} {m : MethodId} {args : Array Value} {below : List Frame} {meth : Method} {c : Code} {Q : State → Prop} {A : Nat → Prop} {g : wG} {H : Heap} {locs : List Loc} {ls : Array Slot} {cells slots : Nat} (hx : p.tables.exec = Jvm.exec) (hb : c.code = cL_law) (hml : c.maxLocals = 25) (hown : s.vm.findClass yL_law.cls = some m.cls) (hc : cells ≤ 600000) (hs : slots ≤ 7300000) {μ ν : wMu} {Λ Ω σ : sSt} (hF : fD g Λ none σ μ) (hO : sOk σ) (hd : dj μ ν) {t h j sz w : Nat} {du fu : Int32} (hj : j < σ 4 0) (hh : h ≤ 100) (hz : sz ≤ 20) (hdu : (du = -1 ∧ vGrt σ j < sz) ∨ ∃ k, k < 101 ∧ du = nI k ∧ (h < k → vGrt σ j < sz) ∧ (h = k → sz ≤ vGrt σ j)) (hX : wX g A s H locs (mU μ ν)) (hl : lv_has ls 25 [(24, .int (nI h)), (23, .int fu), (22, .int du), (13, .int (nI w)), (12, .int (nI sz)), (11, .int (nI j)), (3, .int (nI t)), (2, .ref (Ω 0 0)), (1, .ref (Λ 0 0)), (0, .ref ((gT g).1))]) (kk : ∀ (H : Heap) (locs : List Loc) (ls : Array Slot), wX g A s H locs (mU μ ν) → lv_has ls 25 [(24, .int (nI h)), (23, .int fu), (22, .int du), (13, .int (nI w)), (12, .int (nI sz)), (11, .int (nI j)), (3, .int (nI t)), (2, .ref (Ω 0 0)), (1, .ref (Λ 0 0)), (0, .ref (gT g).1)] → W p l e room_1 s m args below meth c H locs cells slots Q (F0 m 867 ls [])) : W p l e room_1 s m args below meth c H locs cells slots Q (F0 m 813 ls []) := by
  have hgl := grt_le σ j
  rcases hdu with ⟨hdu, h1⟩ | ⟨k, hk, hdu, h1, h2⟩
  · skip
    rw [hdu] at hl
    refine lv_aload_n hx hb dL_law_813 rfl (lv_at hl 8 rfl) ?_
    refine lv_iload hx hb dL_law_814 (lv_at hl 5 rfl) ?_
    refine w_callL (w_runV (n := 1) (As := [.int (nI j)]) (rest := []) hx hb hml hown (hX.l hd) (c_X2_greatestWish_g l g μ H.size hF hO hj) kw374 kw1 kw371 kw372 kw373 wn_X2_greatestWish rfl hF.1 rfl ⟨Nat.le_of_ble_eq_true rfl, Nat.le_of_ble_eq_true rfl⟩ hl.1 rfl (Nat.le_of_ble_eq_true rfl) dL_law_816 ⟨(show cells + 0 ≤ 600130 by omega), (show slots + 0 ≤ 7301080 by omega)⟩) hX hd (fun r_3 μ_1 H locs q_2 hd hX hz => ?_)
    obtain ⟨rfl, e_4⟩ := q_2
    rw [e_4] at hX hd
    refine W.eq (g2 := F0 m 819 ls [.int (nI (vGrt σ j))]) rfl ?_
    refine lv_iload hx hb dL_law_819 (lv_at hl 4 rfl) ?_
    refine n_lt (tgt := 828) hx hb (by omega) (by omega) dL_law_821 (by decide) (fun _ => ?_) (fun h => absurd h (by omega))
    refine lv_iconst (v := nI 0) hx hb dL_law_828 (by decide) ?_
    refine lv_iload hx hb dL_law_829 (lv_at hl 0 rfl) ?_
    refine lv_iload hx hb dL_law_831 (lv_at hl 2 rfl) ?_
    refine lv_icmp_ne (tgt := 840) hx hb dL_law_833 (by decide) (fun _ => ?_) (fun h => absurd h (nI_m1 (by omega)))
    refine lv_iconst (v := nI 0) hx hb dL_law_840 (by decide) ?_
    refine n_eq (tgt := 851) hx hb (by omega) (by omega) dL_law_841 (by decide) (fun _ => ?_) (fun h => absurd h (by omega))
    refine lv_iload hx hb dL_law_851 (lv_at hl 2 rfl) ?_
    refine lv_if_ge (tgt := 867) hx hb dL_law_853 (by decide) (fun h => absurd h (by decide)) (fun _ => ?_)
    refine lv_aload_n hx hb dL_law_856 rfl (lv_at hl 8 rfl) ?_
    refine lv_iload hx hb dL_law_857 (lv_at hl 5 rfl) ?_
    refine w_callL (w_runV (n := 1) (As := [.int (nI j)]) (rest := []) hx hb hml hown (hX.l hd) (c_X2_greatestWish_g l g μ H.size hF hO hj) kw374 kw1 kw371 kw372 kw373 wn_X2_greatestWish rfl hF.1 rfl ⟨Nat.le_of_ble_eq_true rfl, Nat.le_of_ble_eq_true rfl⟩ hl.1 rfl (Nat.le_of_ble_eq_true rfl) dL_law_859 ⟨(show cells + 0 ≤ 600130 by omega), (show slots + 0 ≤ 7301080 by omega)⟩) hX hd (fun r_7 μ_5 H locs q_6 hd hX hz => ?_)
    obtain ⟨rfl, e_8⟩ := q_6
    rw [e_8] at hX hd
    refine W.eq (g2 := F0 m 862 ls [.int (nI (vGrt σ j))]) rfl ?_
    refine lv_iload hx hb dL_law_862 (lv_at hl 4 rfl) ?_
    refine n_ge (tgt := 915) hx hb (by omega) (by omega) dL_law_864 (by decide) (fun h => absurd h (by omega)) (fun _ => ?_)
    rw [← hdu] at hl
    exact kk _ _ _ hX (lv_sub hl [0, 1, 2, 3, 4, 5, 6, 7, 8, 9] rfl)
  · skip
    rw [hdu] at hl
    refine lv_aload_n hx hb dL_law_813 rfl (lv_at hl 8 rfl) ?_
    refine lv_iload hx hb dL_law_814 (lv_at hl 5 rfl) ?_
    refine w_callL (w_runV (n := 1) (As := [.int (nI j)]) (rest := []) hx hb hml hown (hX.l hd) (c_X2_greatestWish_g l g μ H.size hF hO hj) kw374 kw1 kw371 kw372 kw373 wn_X2_greatestWish rfl hF.1 rfl ⟨Nat.le_of_ble_eq_true rfl, Nat.le_of_ble_eq_true rfl⟩ hl.1 rfl (Nat.le_of_ble_eq_true rfl) dL_law_816 ⟨(show cells + 0 ≤ 600130 by omega), (show slots + 0 ≤ 7301080 by omega)⟩) hX hd (fun r_11 μ_9 H locs q_10 hd hX hz => ?_)
    obtain ⟨rfl, e_12⟩ := q_10
    rw [e_12] at hX hd
    refine W.eq (g2 := F0 m 819 ls [.int (nI (vGrt σ j))]) rfl ?_
    refine lv_iload hx hb dL_law_819 (lv_at hl 4 rfl) ?_
    refine n_lt (tgt := 828) hx hb (by omega) (by omega) dL_law_821 (by decide) (fun c_13 => ?_) (fun c_13 => ?_)
    · skip
      refine lv_iconst (v := nI 0) hx hb dL_law_828 (by decide) ?_
      refine lv_iload hx hb dL_law_829 (lv_at hl 0 rfl) ?_
      refine lv_iload hx hb dL_law_831 (lv_at hl 2 rfl) ?_
      refine n_ne (tgt := 840) hx hb (by omega) (by omega) dL_law_833 (by decide) (fun c_14 => ?_) (fun c_14 => ?_)
      · skip
        refine lv_iconst (v := nI 0) hx hb dL_law_840 (by decide) ?_
        refine n_eq (tgt := 851) hx hb (by omega) (by omega) dL_law_841 (by decide) (fun _ => ?_) (fun h => absurd h (by omega))
        refine lv_iload hx hb dL_law_851 (lv_at hl 2 rfl) ?_
        refine lv_if_ge (tgt := 867) hx hb dL_law_853 (by decide) (fun _ => ?_) (fun h => absurd (nI_ge0 (by omega)) h)
        rw [← hdu] at hl
        exact kk _ _ _ hX (lv_sub hl [0, 1, 2, 3, 4, 5, 6, 7, 8, 9] rfl)
      · skip
        refine lv_iconst (v := nI 1) hx hb dL_law_836 (by decide) ?_
        refine lv_goto (tgt := 841) hx hb dL_law_837 (by decide) ?_
        refine n_eq (tgt := 851) hx hb (by omega) (by omega) dL_law_841 (by decide) (fun h => absurd h (by omega)) (fun _ => ?_)
        refine lv_iload hx hb dL_law_844 (lv_at hl 0 rfl) ?_
        refine lv_iload hx hb dL_law_846 (lv_at hl 2 rfl) ?_
        refine n_le (tgt := 915) hx hb (by omega) (by omega) dL_law_848 (by decide) (fun c_15 => ?_) (fun c_15 => ?_)
        · skip
          exfalso; omega
        · skip
          refine lv_iload hx hb dL_law_851 (lv_at hl 2 rfl) ?_
          refine lv_if_ge (tgt := 867) hx hb dL_law_853 (by decide) (fun _ => ?_) (fun h => absurd (nI_ge0 (by omega)) h)
          rw [← hdu] at hl
          exact kk _ _ _ hX (lv_sub hl [0, 1, 2, 3, 4, 5, 6, 7, 8, 9] rfl)
    · skip
      refine lv_iconst (v := nI 1) hx hb dL_law_824 (by decide) ?_
      refine lv_goto (tgt := 829) hx hb dL_law_825 (by decide) ?_
      refine lv_iload hx hb dL_law_829 (lv_at hl 0 rfl) ?_
      refine lv_iload hx hb dL_law_831 (lv_at hl 2 rfl) ?_
      refine n_ne (tgt := 840) hx hb (by omega) (by omega) dL_law_833 (by decide) (fun c_16 => ?_) (fun c_16 => ?_)
      · skip
        refine lv_iconst (v := nI 0) hx hb dL_law_840 (by decide) ?_
        refine n_eq (tgt := 851) hx hb (by omega) (by omega) dL_law_841 (by decide) (fun h => absurd h (by omega)) (fun _ => ?_)
        refine lv_iload hx hb dL_law_844 (lv_at hl 0 rfl) ?_
        refine lv_iload hx hb dL_law_846 (lv_at hl 2 rfl) ?_
        refine n_le (tgt := 915) hx hb (by omega) (by omega) dL_law_848 (by decide) (fun c_17 => ?_) (fun c_17 => ?_)
        · skip
          exfalso; omega
        · skip
          refine lv_iload hx hb dL_law_851 (lv_at hl 2 rfl) ?_
          refine lv_if_ge (tgt := 867) hx hb dL_law_853 (by decide) (fun _ => ?_) (fun h => absurd (nI_ge0 (by omega)) h)
          rw [← hdu] at hl
          exact kk _ _ _ hX (lv_sub hl [0, 1, 2, 3, 4, 5, 6, 7, 8, 9] rfl)
      · skip
        refine lv_iconst (v := nI 1) hx hb dL_law_836 (by decide) ?_
        refine lv_goto (tgt := 841) hx hb dL_law_837 (by decide) ?_
        refine n_eq (tgt := 851) hx hb (by omega) (by omega) dL_law_841 (by decide) (fun _ => ?_) (fun h => absurd h (by omega))
        refine lv_iload hx hb dL_law_851 (lv_at hl 2 rfl) ?_
        refine lv_if_ge (tgt := 867) hx hb dL_law_853 (by decide) (fun _ => ?_) (fun h => absurd (nI_ge0 (by omega)) h)
        rw [← hdu] at hl
        exact kk _ _ _ hX (lv_sub hl [0, 1, 2, 3, 4, 5, 6, 7, 8, 9] rfl)

set_option maxHeartbeats 4000000 in
set_option maxRecDepth 100000 in
/-- the wand as told, in this hour -/
theorem sl_full {p : Program} {l : Launch} {e : Env} {s : State} {m : MethodId} {args : Array Value} {below : List Frame} {meth : Method} {c : Code} {Q : State → Prop} {A : Nat → Prop} {g : wG} {H : Heap} {locs : List Loc} {ls : Array Slot} {cells slots : Nat} (hx : p.tables.exec = Jvm.exec) (hb : c.code = cL_law) (hml : c.maxLocals = 25) (hown : s.vm.findClass yL_law.cls = some m.cls) (hc : cells ≤ 600000) (hs : slots ≤ 7300000) {μ ν : wMu} {Λ Ω σ : sSt} (hF : fD g Λ none σ μ) (hO : sOk σ) (hd : dj μ ν) {t h j sz w : Nat} {du fu : Int32} (hw : w < σ 3 0) (hh : h ≤ 100) (hfu : (fu = -1 ∧ vFul σ w = -1) ∨ ∃ k, k < 101 ∧ fu = nI k ∧ (vFul σ w = nI 0 ↔ k ≤ h)) (hX : wX g A s H locs (mU μ ν)) (hl : lv_has ls 25 [(24, .int (nI h)), (23, .int fu), (22, .int du), (13, .int (nI w)), (12, .int (nI sz)), (11, .int (nI j)), (3, .int (nI t)), (2, .ref (Ω 0 0)), (1, .ref (Λ 0 0)), (0, .ref ((gT g).1))]) (kk : ∀ (H : Heap) (locs : List Loc) (ls : Array Slot), wX g A s H locs (mU μ ν) → lv_has ls 25 [(24, .int (nI h)), (23, .int fu), (22, .int du), (13, .int (nI w)), (12, .int (nI sz)), (11, .int (nI j)), (3, .int (nI t)), (2, .ref (Ω 0 0)), (1, .ref (Λ 0 0)), (0, .ref (gT g).1)] → W p l e room_1 s m args below meth c H locs cells slots Q (F0 m 917 ls [])) : W p l e room_1 s m args below meth c H locs cells slots Q (F0 m 867 ls []) := by
  rcases hfu with ⟨hfu, h1⟩ | ⟨k, hk, hfu, h1⟩
  · skip
    rw [hfu] at hl
    refine lv_iload hx hb dL_law_867 (lv_at hl 1 rfl) ?_
    refine lv_if_lt (tgt := 901) hx hb dL_law_869 (by decide) (fun _ => ?_) (fun h => absurd (by decide) h)
    refine lv_iload hx hb dL_law_901 (lv_at hl 1 rfl) ?_
    refine lv_if_ge (tgt := 917) hx hb dL_law_903 (by decide) (fun h => absurd h (by decide)) (fun _ => ?_)
    refine lv_aload_n hx hb dL_law_906 rfl (lv_at hl 8 rfl) ?_
    refine lv_iload hx hb dL_law_907 (lv_at hl 3 rfl) ?_
    refine w_callL (w_runV (n := 1) (As := [.int (nI w)]) (rest := []) hx hb hml hown (hX.l hd) (c_X2_hoursUntilFull_g l g μ H.size hF hO hw) kw409 kw1 kw406 kw407 kw408 wn_X2_hoursUntilFull rfl hF.1 rfl ⟨Nat.le_of_ble_eq_true rfl, Nat.le_of_ble_eq_true rfl⟩ hl.1 rfl (Nat.le_of_ble_eq_true rfl) dL_law_909 ⟨(show cells + 0 ≤ 600130 by omega), (show slots + 0 ≤ 7301080 by omega)⟩) hX hd (fun r_3 μ_1 H locs q_2 hd hX hz => ?_)
    obtain ⟨rfl, e_4⟩ := q_2
    rw [e_4] at hX hd
    refine W.eq (g2 := F0 m 912 ls [.int (vFul σ w)]) rfl ?_
    rw [h1]
    refine lv_if_lt (tgt := 917) hx hb dL_law_912 (by decide) (fun _ => ?_) (fun h => absurd (by decide) h)
    rw [← hfu] at hl
    exact kk _ _ _ hX (lv_sub hl [0, 1, 2, 3, 4, 5, 6, 7, 8, 9] rfl)
  · skip
    rw [hfu] at hl
    refine lv_iload hx hb dL_law_867 (lv_at hl 1 rfl) ?_
    refine lv_if_lt (tgt := 901) hx hb dL_law_869 (by decide) (fun h => absurd h (nI_pos (by omega))) (fun _ => ?_)
    refine lv_aload_n hx hb dL_law_872 rfl (lv_at hl 8 rfl) ?_
    refine lv_iload hx hb dL_law_873 (lv_at hl 3 rfl) ?_
    refine w_callL (w_runV (n := 1) (As := [.int (nI w)]) (rest := []) hx hb hml hown (hX.l hd) (c_X2_hoursUntilFull_g l g μ H.size hF hO hw) kw409 kw1 kw406 kw407 kw408 wn_X2_hoursUntilFull rfl hF.1 rfl ⟨Nat.le_of_ble_eq_true rfl, Nat.le_of_ble_eq_true rfl⟩ hl.1 rfl (Nat.le_of_ble_eq_true rfl) dL_law_875 ⟨(show cells + 0 ≤ 600130 by omega), (show slots + 0 ≤ 7301080 by omega)⟩) hX hd (fun r_7 μ_5 H locs q_6 hd hX hz => ?_)
    obtain ⟨rfl, e_8⟩ := q_6
    rw [e_8] at hX hd
    refine W.eq (g2 := F0 m 878 ls [.int (vFul σ w)]) rfl ?_
    refine lv_if_ne (tgt := 885) hx hb dL_law_878 (by decide) (fun c_9 => ?_) (fun c_9 => ?_)
    · skip
      have h2 : ¬ k ≤ h := fun z => c_9 ((h1.mpr z).trans nI_0)
      refine lv_iconst (v := nI 0) hx hb dL_law_885 (by decide) ?_
      refine lv_iload hx hb dL_law_886 (lv_at hl 0 rfl) ?_
      refine lv_iload hx hb dL_law_888 (lv_at hl 1 rfl) ?_
      refine n_lt (tgt := 897) hx hb (by omega) (by omega) dL_law_890 (by decide) (fun c_10 => ?_) (fun c_10 => ?_)
      · skip
        refine lv_iconst (v := nI 0) hx hb dL_law_897 (by decide) ?_
        refine n_ne (tgt := 915) hx hb (by omega) (by omega) dL_law_898 (by decide) (fun h => absurd h (by omega)) (fun _ => ?_)
        refine lv_iload hx hb dL_law_901 (lv_at hl 1 rfl) ?_
        refine lv_if_ge (tgt := 917) hx hb dL_law_903 (by decide) (fun _ => ?_) (fun h => absurd (nI_ge0 (by omega)) h)
        rw [← hfu] at hl
        exact kk _ _ _ hX (lv_sub hl [0, 1, 2, 3, 4, 5, 6, 7, 8, 9] rfl)
      · skip
        refine lv_iconst (v := nI 1) hx hb dL_law_893 (by decide) ?_
        refine lv_goto (tgt := 898) hx hb dL_law_894 (by decide) ?_
        refine n_ne (tgt := 915) hx hb (by omega) (by omega) dL_law_898 (by decide) (fun _ => ?_) (fun h => absurd h (by omega))
        exfalso; omega
    · skip
      have h2 : k ≤ h := h1.mp (c_9.trans nI_0.symm)
      refine lv_iconst (v := nI 1) hx hb dL_law_881 (by decide) ?_
      refine lv_goto (tgt := 886) hx hb dL_law_882 (by decide) ?_
      refine lv_iload hx hb dL_law_886 (lv_at hl 0 rfl) ?_
      refine lv_iload hx hb dL_law_888 (lv_at hl 1 rfl) ?_
      refine n_lt (tgt := 897) hx hb (by omega) (by omega) dL_law_890 (by decide) (fun c_11 => ?_) (fun c_11 => ?_)
      · skip
        refine lv_iconst (v := nI 0) hx hb dL_law_897 (by decide) ?_
        refine n_ne (tgt := 915) hx hb (by omega) (by omega) dL_law_898 (by decide) (fun _ => ?_) (fun h => absurd h (by omega))
        exfalso; omega
      · skip
        refine lv_iconst (v := nI 1) hx hb dL_law_893 (by decide) ?_
        refine lv_goto (tgt := 898) hx hb dL_law_894 (by decide) ?_
        refine n_ne (tgt := 915) hx hb (by omega) (by omega) dL_law_898 (by decide) (fun h => absurd h (by omega)) (fun _ => ?_)
        refine lv_iload hx hb dL_law_901 (lv_at hl 1 rfl) ?_
        refine lv_if_ge (tgt := 917) hx hb dL_law_903 (by decide) (fun _ => ?_) (fun h => absurd (nI_ge0 (by omega)) h)
        rw [← hfu] at hl
        exact kk _ _ _ hX (lv_sub hl [0, 1, 2, 3, 4, 5, 6, 7, 8, 9] rfl)

set_option maxHeartbeats 4000000 in
set_option maxRecDepth 100000 in
/-- thirty hours, as told -/
theorem sl_hours {p : Program} {l : Launch} {e : Env} {s : State} {m : MethodId} {args : Array Value} {below : List Frame} {meth : Method} {c : Code} {Q : State → Prop} {A : Nat → Prop} {g : wG} {H : Heap} {locs : List Loc} {ls : Array Slot} {cells slots : Nat} (hx : p.tables.exec = Jvm.exec) (hb : c.code = cL_law) (hml : c.maxLocals = 25) (hown : s.vm.findClass yL_law.cls = some m.cls) (hc : cells ≤ 600000) (hs : slots ≤ 7300000) {μ ν : wMu} {Λ Ω σ : sSt} {τ : Nat → Nat} {i i9 : Nat} (hF : fD g Λ none σ μ) (hS : sD g Ω τ σ ν) (hd : dj μ ν) (hg : pG τ σ i) (hi : i + 31 ≤ i9) (hi9 : i9 ≤ 500) {t j sz w : Nat} (hj : j < σ 4 0) (hw : w < σ 3 0) (h1 : 1 ≤ sz) (h2 : sz ≤ 20) (hX : wX g A s H locs (mU μ ν)) (hl : lv_has ls 25 [(13, .int (nI w)), (12, .int (nI sz)), (11, .int (nI j)), (3, .int (nI t)), (2, .ref (Ω 0 0)), (1, .ref (Λ 0 0)), (0, .ref ((gT g).1))]) (kk : ∀ (κ : wMu) (H : Heap) (locs : List Loc) (ls : Array Slot), bW g (Λ 0 0) (Ω 0 0) i9 κ → wX g A s H locs κ → lv_has ls 25 [(3, .int (nI t)), (2, .ref (Ω 0 0)), (1, .ref (Λ 0 0)), (0, .ref (gT g).1)] → W p l e room_1 s m args below meth c H locs cells slots Q (F0 m 938 ls [])) : W p l e room_1 s m args below meth c H locs cells slots Q (F0 m 785 ls []) := by
  have hO := hg.O
  have hT := hg.T
  obtain ⟨⟨-, gh, gc⟩, -⟩ := id hg
  obtain ⟨o1, o2, o3, o4, o5, o6, o7⟩ := id hO
  refine lv_aload_n hx hb dL_law_785 rfl (lv_at hl 5 rfl) ?_
  refine lv_iload hx hb dL_law_786 (lv_at hl 2 rfl) ?_
  refine lv_iload hx hb dL_law_788 (lv_at hl 1 rfl) ?_
  refine w_callL (w_runV (n := 2) (As := [.int (nI j), .int (nI sz)]) (rest := []) hx hb hml hown (hX.l hd) (c_X2_hoursUntil_g l g μ H.size hF hO hj h1 h2) kw380 kw1 kw377 kw378 kw379 wn_X2_hoursUntil rfl hF.1 rfl ⟨Nat.le_of_ble_eq_true rfl, Nat.le_of_ble_eq_true rfl⟩ hl.1 rfl (Nat.le_of_ble_eq_true rfl) dL_law_790 ⟨(show cells + 0 ≤ 600130 by omega), (show slots + 0 ≤ 7301080 by omega)⟩) hX hd (fun r_3 μ_1 H locs q_2 hd hX hz => ?_)
  obtain ⟨rfl, hF⟩ := q_2
  refine W.eq (g2 := F0 m 793 ls [.int (utl σ j sz 101 0)]) rfl ?_
  refine lv_istore (lv' := [(22, .int (utl σ j sz 101 0)), (13, .int (nI w)), (12, .int (nI sz)), (11, .int (nI j)), (3, .int (nI t)), (2, .ref (Ω 0 0)), (1, .ref (Λ 0 0)), (0, .ref ((gT g).1))]) hx hb dL_law_793 hl (by decide) rfl (fun ls hl => ?_)
  refine lv_aload_n hx hb dL_law_795 rfl (lv_at hl 6 rfl) ?_
  refine lv_iload hx hb dL_law_796 (lv_at hl 1 rfl) ?_
  refine w_callL (w_runV (n := 1) (As := [.int (nI w)]) (rest := []) hx hb hml hown (hX.l hd) (c_X2_hoursUntilFull_g l g μ_1 H.size hF hO hw) kw409 kw1 kw406 kw407 kw408 wn_X2_hoursUntilFull rfl hF.1 rfl ⟨Nat.le_of_ble_eq_true rfl, Nat.le_of_ble_eq_true rfl⟩ hl.1 rfl (Nat.le_of_ble_eq_true rfl) dL_law_798 ⟨(show cells + 0 ≤ 600130 by omega), (show slots + 0 ≤ 7301080 by omega)⟩) hX hd (fun r_6 μ_4 H locs q_5 hd hX hz => ?_)
  obtain ⟨rfl, e_7⟩ := q_5
  rw [e_7] at hX hd
  refine W.eq (g2 := F0 m 801 ls [.int (vFul σ w)]) rfl ?_
  refine lv_istore (lv' := [(23, .int (vFul σ w)), (22, .int (utl σ j sz 101 0)), (13, .int (nI w)), (12, .int (nI sz)), (11, .int (nI j)), (3, .int (nI t)), (2, .ref (Ω 0 0)), (1, .ref (Λ 0 0)), (0, .ref ((gT g).1))]) hx hb dL_law_801 hl (by decide) rfl (fun ls hl => ?_)
  refine lv_iconst (v := nI 0) hx hb dL_law_803 (by decide) ?_
  refine lv_istore (lv' := [(24, .int (nI 0)), (23, .int (vFul σ w)), (22, .int (utl σ j sz 101 0)), (13, .int (nI w)), (12, .int (nI sz)), (11, .int (nI j)), (3, .int (nI t)), (2, .ref (Ω 0 0)), (1, .ref (Λ 0 0)), (0, .ref ((gT g).1))]) hx hb dL_law_804 hl (by decide) rfl (fun ls hl => ?_)
  have hloop : ∀ (n : Nat) (h : Nat) (α β : wMu) (H : Heap) (locs : List Loc) (ls : Array Slot), 30 < h + n → h ≤ 30 → fD g Λ none (nPas σ h) α → sD g Ω τ (nPas σ h) β → dj α β → wX g A s H locs (mU α β) → lv_has ls 25 [(24, .int (nI h)), (23, .int (vFul σ w)), (22, .int (utl σ j sz 101 0)), (13, .int (nI w)), (12, .int (nI sz)), (11, .int (nI j)), (3, .int (nI t)), (2, .ref (Ω 0 0)), (1, .ref (Λ 0 0)), (0, .ref ((gT g).1))] → W p l e room_1 s m args below meth c H locs cells slots Q (F0 m 806 ls []) := by
    intro n
    induction n with
    | zero => intro h α β H locs ls hn hh hF hS hd hX hl; exact absurd hn (by omega)
    | succ n ih =>
      intro h α β H locs ls hn hh hF hS hd hX hl
      have n3 : nPas σ h 3 0 = σ 3 0 := nPas_o σ (by omega)
      have n4 : nPas σ h 4 0 = σ 4 0 := nPas_o σ (by omega)
      have n0 := nPas_00 σ h
      refine lv_iload hx hb dL_law_806 (lv_at hl 0 rfl) ?_
      refine lv_bipush (v := nI 30) hx hb dL_law_808 (by decide) ?_
      refine n_ge (tgt := 938) hx hb (by omega) (by omega) dL_law_810 (by decide) (fun c_8 => ?_) (fun c_8 => ?_)
      · skip
        obtain rfl : h = 30 := by omega
        exact kk _ _ _ _ ⟨Λ, Ω, _, τ, α, β, rfl, hd, hF, hS, rfl, rfl, (hg.pas (by omega) (by omega)).le (by omega)⟩ hX (lv_sub hl [6, 7, 8, 9] rfl)
      · skip
        have hO2 := hO.pas (k := h) (by omega)
        refine sl_due hx hb hml hown hc hs hF hO2 hd (j := j) (sz := sz) (by omega) (by omega) h2 ?_ hX (lv_sub hl [0, 1, 2, 3, 4, 5, 6, 7, 8, 9] rfl) (fun H locs ls hX hl => ?_)
        · rcases utl_p hO hj h1 h2 with ⟨q1, q2⟩ | ⟨k, q1, q2, q3, q4⟩
          · exact Or.inl ⟨q1, q2 h (by omega)⟩
          · exact Or.inr ⟨k, q1, q2, fun z => q4 h z, fun z => by rw [z]; exact q3⟩
        refine sl_full hx hb hml hown hc hs hF hO2 hd (w := w) (by omega) (by omega) ?_ hX (lv_sub hl [0, 1, 2, 3, 4, 5, 6, 7, 8, 9] rfl) (fun H locs ls hX hl => ?_)
        · rcases ful_c hO hw with ⟨q1, q2⟩ | ⟨k, q1, q2, q3⟩
          · exact Or.inl ⟨q1, q2 h⟩
          · exact Or.inr ⟨k, q1, q2, q3 h⟩
        refine lv_aload_n hx hb dL_law_917 rfl (lv_at hl 8 rfl) ?_
        refine lv_iconst (v := nI 1) hx hb dL_law_918 (by decide) ?_
        have hfl := sFal_le hO2 1 (nPas σ h 3 0) (Nat.le_refl _)
        refine w_callL (w_runV (n := 1) (As := [.int (nI 1)]) (rest := []) hx hb hml hown (hX.l hd) (c_X2_pass_g l g α H.size hF hO2 (by omega) (by omega) (by omega)) kw283 kw1 kw280 kw281 kw282 wn_X2_pass rfl hF.1 rfl ⟨Nat.le_of_ble_eq_true rfl, Nat.le_of_ble_eq_true rfl⟩ hl.1 rfl (Nat.le_of_ble_eq_true rfl) dL_law_919 ⟨(show cells + 0 ≤ 600130 by omega), (show slots + 0 ≤ 7301080 by omega)⟩) hX hd (fun r_11 μ_9 H locs q_10 hd hX hz => ?_)
        obtain ⟨rfl, hF⟩ := q_10
        refine W.eq (g2 := F0 m 922 ls [.int (nI (sFal (nPas σ h) 1 (nPas σ h 3 0)))]) rfl ?_
        rw [nPas_s] at hF
        refine lv_aload_n hx hb dL_law_922 rfl (lv_at hl 7 rfl) ?_
        refine lv_iconst (v := nI 1) hx hb dL_law_923 (by decide) ?_
        refine w_callR (w_runV (n := 1) (As := [.int (nI 1)]) (rest := [.int (nI (sFal (nPas σ h) 1 (nPas σ h 3 0)))]) hx hb hml hown hX.r (c_X3_pass_ l g β H.size hS hO2 (by omega) (by omega)) kw462 kw7 kw459 kw460 kw461 wn_X3_pass_ rfl hS.1 rfl ⟨Nat.le_of_ble_eq_true rfl, Nat.le_of_ble_eq_true rfl⟩ hl.1 rfl (Nat.le_of_ble_eq_true rfl) dL_law_924 ⟨(show cells + 0 ≤ 600130 by omega), (show slots + 0 ≤ 7301080 by omega)⟩) hX hd (fun r_14 μ_12 H locs q_13 hd hX hz => ?_)
        obtain ⟨rfl, hS⟩ := q_13
        refine W.eq (g2 := F0 m 927 ls [.int (nI (sFal (nPas σ h) 1 (nPas σ h 3 0))), .int (nI (sFal (nPas σ h) 1 (nPas σ h 3 0)))]) rfl ?_
        rw [nPas_s] at hS
        refine n_eq (tgt := 932) hx hb (by omega) (by omega) dL_law_927 (by decide) (fun c_15 => ?_) (fun c_15 => ?_)
        · skip
          refine lv_iinc (v := nI (h + 1)) (lv' := [(24, .int (nI (h + 1))), (23, .int (vFul σ w)), (22, .int (utl σ j sz 101 0)), (13, .int (nI w)), (12, .int (nI sz)), (11, .int (nI j)), (3, .int (nI t)), (2, .ref (Ω 0 0)), (1, .ref (Λ 0 0)), (0, .ref ((gT g).1))]) hx hb dL_law_932 hl (k := 0) rfl (nI_inc _) (by decide) rfl (fun ls hl => ?_)
          refine lv_goto (tgt := 806) hx hb dL_law_935 (by decide) ?_
          refine ih (h + 1) _ _ H locs ls (by omega) (by omega) hF hS hd hX ?_
          exact lv_sub hl [0, 1, 2, 3, 4, 5, 6, 7, 8, 9] rfl
        · skip
          exfalso; omega
  exact hloop 31 0 _ _ _ _ _ (by omega) (by omega) (by rw [nPas_0 hO]; exact hF) (by rw [nPas_0 hO]; exact hS) hd hX (lv_sub hl [0, 1, 2, 3, 4, 5, 6, 7, 8, 9] rfl)

