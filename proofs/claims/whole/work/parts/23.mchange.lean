theorem nWi0_h {σ : sSt} {j sz : Nat} (h : 0 < σ 11 j) : nWi0 σ j sz = up2 σ 11 j (min 48 (σ 11 j + 1)) := by
  have n1 : ¬ (σ 11 j = 0 ∧ sz ≤ σ 10 j + σ 7 (σ 8 j)) := by omega
  simp only [nWi0, fwD, fwB, fwH, fwM, fwN, if_neg n1, if_pos h]
  rw [up2_same (τ := σ) (f := 7) rfl, up2_same (τ := σ) (f := 10) rfl, up2_same (f := 12) (up2_nf σ (by omega)), up2_same (f := 13) (up2_nf σ (by omega))]
theorem nWi0_m {σ : sSt} {j sz : Nat} (h : σ 11 j = 0) (h1 : ¬ sz ≤ σ 10 j + σ 7 (σ 8 j)) (h2 : ¬ 2 ≤ σ 12 j) : nWi0 σ j sz = up2 σ 12 j (σ 12 j + 1) := by
  have n1 : ¬ (σ 11 j = 0 ∧ sz ≤ σ 10 j + σ 7 (σ 8 j)) := by omega
  simp only [nWi0, fwD, fwB, fwH, fwM, fwN, if_neg n1, if_neg (show ¬ 0 < σ 11 j by omega), if_neg h2]
  rw [up2_same (τ := σ) (f := 7) rfl, up2_same (τ := σ) (f := 10) rfl, up2_same (τ := σ) (f := 11) rfl, up2_same (f := 13) (up2_nf σ (by omega))]
theorem nWi0_n {σ : sSt} {j sz : Nat} (h : σ 11 j = 0) (h1 : ¬ sz ≤ σ 10 j + σ 7 (σ 8 j)) (h2 : 2 ≤ σ 12 j) : nWi0 σ j sz = up2 (up2 (up2 σ 11 j (σ 13 j)) 12 j 0) 13 j (min 32 (2 * σ 13 j)) := by
  have n1 : ¬ (σ 11 j = 0 ∧ sz ≤ σ 10 j + σ 7 (σ 8 j)) := by omega
  simp only [nWi0, fwD, fwB, fwH, fwM, fwN, if_neg n1, if_neg (show ¬ 0 < σ 11 j by omega), if_pos h2, Nat.mul_comm (σ 13 j) 2]
  rw [up2_same (τ := σ) (f := 7) rfl, up2_same (τ := σ) (f := 10) rfl]
theorem nWi0_y {σ : sSt} {j sz : Nat} (h : okW σ j sz) : nWi0 σ j sz = up2 (up2 (up2 σ 7 (σ 8 j) (σ 7 (σ 8 j) - (sz - min (σ 10 j) sz))) 10 j (σ 10 j - min (σ 10 j) sz)) 12 j (σ 12 j - 1) := by
  have h2 : σ 11 j = 0 ∧ sz ≤ σ 10 j + σ 7 (σ 8 j) := h
  simp only [nWi0, fwD, fwB, fwH, fwM, fwN, if_pos h2]
  rw [up2_same (f := 11) (by rw [up2_nf _ (by omega), up2_nf _ (by omega)]), up2_same (f := 13) (by rw [up2_nf _ (by omega), up2_nf _ (by omega), up2_nf _ (by omega)]), show σ 7 (σ 8 j) - (sz - min (σ 10 j) sz) = σ 7 (σ 8 j) - (sz - σ 10 j) by omega, show σ 10 j - min (σ 10 j) sz = σ 10 j - sz by omega]
theorem fwG_n {σ : sSt} {j sz : Nat} (h : ¬ okW σ j sz) : fwG sz (σ 7 (σ 8 j)) (σ 10 j) (σ 11 j) = 0 := if_neg h
theorem fwG_y {σ : sSt} {j sz : Nat} (h : okW σ j sz) : fwG sz (σ 7 (σ 8 j)) (σ 10 j) (σ 11 j) = 1 := if_pos h
theorem up2_2 (τ : sSt) (f i v v' : Nat) : up2 (up2 τ f i v) f i v' = up2 τ f i v' := by
  funext f' i'
  unfold up2
  split <;> rfl
set_option maxHeartbeats 4000000 in
set_option maxRecDepth 100000 in
/-- not granted -/
theorem c_X3_deny (l : Launch) (g : wG) (μ : wMu) (zz : Nat) {Ω : Nat → Nat} {σ : sSt} {th : Nat} (hM : mD g Ω th σ μ) (hO : sOk σ) {j sz : Nat} (hj : j < σ 4 0) (hk : ¬ okW σ j sz) : wMet l yX3_deny cX3_deny 2 none 1 0 0 21 g [.ref (Ω 0), .int (nI j)] μ zz (fun r μ' => r = none ∧ mD g Ω th (nWis σ j sz) μ') := by
  refine wMet.of (by decide) (Nat.le_of_ble_eq_true rfl) ?_
  intro p e s m below meth c ls hx hb hr hml hown hlocks hin hl hsz hX
  have hl : lv_has ls 2 [(0, .ref (Ω 0)), (1, .int (nI j))] := hl
  obtain ⟨r0, r5, r6, r7, r8, r9, r10, r11, r12, r13, hD⟩ := id hM
  obtain ⟨o1, o2, o3, o4, o5, o6, o7⟩ := id hO
  have ocb := o4 j hj
  refine lv_aload_n hx hb dX3_deny_0 rfl (lv_at hl 0 rfl) ?_
  refine lv_dup hx hb dX3_deny_1 rfl ?_
  refine gX3_5 hx hb hX hown r0 kw634 dX3_deny_2 ?_
  refine lv_iconst (v := nI 1) hx hb dX3_deny_5 (by decide) ?_
  refine n_iadd hx hb dX3_deny_6 (nI_add _ _) ?_
  refine pX3_5 hx hb hX hown r0 kw634 dX3_deny_7 (fun H locs hX => ?_)
  obtain ⟨μ_1, e_2⟩ : ∃ z, z = va_up μ (Ω 0) (some (.inr (4, [.int (nI th), .int (nI (σ 3 0)), .int (nI (σ 4 0)), .int (nI (σ 0 0)), .int (nI (σ 1 0)), .int (nI ((σ 2 0) + 1)), .ref (Ω 5), .ref (Ω 6), .ref (Ω 7), .ref (Ω 8), .ref (Ω 9), .ref (Ω 10), .ref (Ω 11), .ref (Ω 12), .ref (Ω 13)]))) := ⟨_, rfl⟩
  rw [← e_2] at hX
  have k_3 : μ_1 (Ω 0) = some (.inr (4, [.int (nI th), .int (nI (σ 3 0)), .int (nI (σ 4 0)), .int (nI (σ 0 0)), .int (nI (σ 1 0)), .int (nI ((σ 2 0) + 1)), .ref (Ω 5), .ref (Ω 6), .ref (Ω 7), .ref (Ω 8), .ref (Ω 9), .ref (Ω 10), .ref (Ω 11), .ref (Ω 12), .ref (Ω 13)])) := by rw [e_2]; exact va_up_self _ _ _
  have k_4 := (congrFun e_2 (Ω 5)).trans ((va_up_ne _ _ (Ne.symm (kd_ne r0 r5 rfl))).trans r5)
  have k_5 := (congrFun e_2 (Ω 6)).trans ((va_up_ne _ _ (Ne.symm (kd_ne r0 r6 rfl))).trans r6)
  have k_6 := (congrFun e_2 (Ω 7)).trans ((va_up_ne _ _ (Ne.symm (kd_ne r0 r7 rfl))).trans r7)
  have k_7 := (congrFun e_2 (Ω 8)).trans ((va_up_ne _ _ (Ne.symm (kd_ne r0 r8 rfl))).trans r8)
  have k_8 := (congrFun e_2 (Ω 9)).trans ((va_up_ne _ _ (Ne.symm (kd_ne r0 r9 rfl))).trans r9)
  have k_9 := (congrFun e_2 (Ω 10)).trans ((va_up_ne _ _ (Ne.symm (kd_ne r0 r10 rfl))).trans r10)
  have k_10 := (congrFun e_2 (Ω 11)).trans ((va_up_ne _ _ (Ne.symm (kd_ne r0 r11 rfl))).trans r11)
  have k_11 := (congrFun e_2 (Ω 12)).trans ((va_up_ne _ _ (Ne.symm (kd_ne r0 r12 rfl))).trans r12)
  have k_12 := (congrFun e_2 (Ω 13)).trans ((va_up_ne _ _ (Ne.symm (kd_ne r0 r13 rfl))).trans r13)
  refine lv_aload_n hx hb dX3_deny_10 rfl (lv_at hl 0 rfl) ?_
  refine gX3_12 hx hb hX hown k_3 kw641 dX3_deny_11 ?_
  refine lv_iload_n hx hb dX3_deny_14 rfl (lv_at hl 1 rfl) ?_
  refine n_iald hx hb hX k_10 (by omega) (by omega) dX3_deny_15 ?_
  refine n_if_le (tgt := 39) hx hb (by omega) dX3_deny_16 (by decide) (fun c_13 => ?_) (fun c_13 => ?_)
  · skip
    refine lv_aload_n hx hb dX3_deny_39 rfl (lv_at hl 0 rfl) ?_
    refine gX3_13 hx hb hX hown k_3 kw642 dX3_deny_40 ?_
    refine lv_iload_n hx hb dX3_deny_43 rfl (lv_at hl 1 rfl) ?_
    refine lv_dup2_11 hx hb dX3_deny_44 rfl rfl ?_
    refine n_iald hx hb hX k_11 (by omega) (by omega) dX3_deny_45 ?_
    refine lv_iconst (v := nI 1) hx hb dX3_deny_46 (by decide) ?_
    refine n_iadd hx hb dX3_deny_47 (nI_add _ _) ?_
    refine n_iastR (τ := σ) (k := 12) (v := (σ 12 j) + 1) hx hb hX k_11 (by omega) (by omega) dX3_deny_48 (fun H locs hX => ?_)
    obtain ⟨μ_14, e_15⟩ : ∃ z, z = va_up μ_1 (Ω 12) (some (.inl (gI g, 10, .inl (fun ii => nI ((up2 σ 12 j ((σ 12 j) + 1)) 12 ii))))) := ⟨_, rfl⟩
    rw [← e_15] at hX
    have k_16 : μ_14 (Ω 12) = some (.inl (gI g, 10, .inl (fun ii => nI ((up2 σ 12 j ((σ 12 j) + 1)) 12 ii)))) := by rw [e_15]; exact va_up_self _ _ _
    have k_17 := (congrFun e_15 (Ω 0)).trans ((va_up_ne _ _ (kd_ne r0 r12 rfl)).trans k_3)
    have k_18 := (congrFun e_15 (Ω 5)).trans ((va_up_ne _ _ (hD 5 12 (by decide) (by decide) (by decide))).trans k_4)
    have k_19 := (congrFun e_15 (Ω 6)).trans ((va_up_ne _ _ (hD 6 12 (by decide) (by decide) (by decide))).trans k_5)
    have k_20 := (congrFun e_15 (Ω 7)).trans ((va_up_ne _ _ (hD 7 12 (by decide) (by decide) (by decide))).trans k_6)
    have k_21 := (congrFun e_15 (Ω 8)).trans ((va_up_ne _ _ (hD 8 12 (by decide) (by decide) (by decide))).trans k_7)
    have k_22 := (congrFun e_15 (Ω 9)).trans ((va_up_ne _ _ (hD 9 12 (by decide) (by decide) (by decide))).trans k_8)
    have k_23 := (congrFun e_15 (Ω 10)).trans ((va_up_ne _ _ (hD 10 12 (by decide) (by decide) (by decide))).trans k_9)
    have k_24 := (congrFun e_15 (Ω 11)).trans ((va_up_ne _ _ (hD 11 12 (by decide) (by decide) (by decide))).trans k_10)
    have k_25 := (congrFun e_15 (Ω 13)).trans ((va_up_ne _ _ (Ne.symm (hD 12 13 (by decide) (by decide) (by decide)))).trans k_12)
    refine lv_aload_n hx hb dX3_deny_49 rfl (lv_at hl 0 rfl) ?_
    refine gX3_13 hx hb hX hown k_17 kw642 dX3_deny_50 ?_
    refine lv_iload_n hx hb dX3_deny_53 rfl (lv_at hl 1 rfl) ?_
    refine n_iald hx hb hX k_16 (by omega) (by omega) dX3_deny_54 ?_
    refine W.eq (g2 := F0 m 55 ls [.int (nI ((σ 12 j) + 1))]) (by simp only [up2_self]) ?_
    refine lv_iconst (v := nI 3) hx hb dX3_deny_55 (by decide) ?_
    refine n_ge (tgt := 60) hx hb (by omega) (by omega) dX3_deny_56 (by decide) (fun c_26 => ?_) (fun c_26 => ?_)
    · skip
      refine lv_aload_n hx hb dX3_deny_60 rfl (lv_at hl 0 rfl) ?_
      refine gX3_13 hx hb hX hown k_17 kw642 dX3_deny_61 ?_
      refine lv_iload_n hx hb dX3_deny_64 rfl (lv_at hl 1 rfl) ?_
      refine lv_iconst (v := nI 0) hx hb dX3_deny_65 (by decide) ?_
      refine n_iastR (τ := (up2 σ 12 j ((σ 12 j) + 1))) (k := 12) (v := 0) hx hb hX k_16 (by omega) (by omega) dX3_deny_66 (fun H locs hX => ?_)
      obtain ⟨μ_27, e_28⟩ : ∃ z, z = va_up μ_14 (Ω 12) (some (.inl (gI g, 10, .inl (fun ii => nI ((up2 (up2 σ 12 j ((σ 12 j) + 1)) 12 j 0) 12 ii))))) := ⟨_, rfl⟩
      rw [← e_28] at hX
      have k_29 : μ_27 (Ω 12) = some (.inl (gI g, 10, .inl (fun ii => nI ((up2 (up2 σ 12 j ((σ 12 j) + 1)) 12 j 0) 12 ii)))) := by rw [e_28]; exact va_up_self _ _ _
      have k_30 := (congrFun e_28 (Ω 0)).trans ((va_up_ne _ _ (kd_ne r0 r12 rfl)).trans k_17)
      have k_31 := (congrFun e_28 (Ω 5)).trans ((va_up_ne _ _ (hD 5 12 (by decide) (by decide) (by decide))).trans k_18)
      have k_32 := (congrFun e_28 (Ω 6)).trans ((va_up_ne _ _ (hD 6 12 (by decide) (by decide) (by decide))).trans k_19)
      have k_33 := (congrFun e_28 (Ω 7)).trans ((va_up_ne _ _ (hD 7 12 (by decide) (by decide) (by decide))).trans k_20)
      have k_34 := (congrFun e_28 (Ω 8)).trans ((va_up_ne _ _ (hD 8 12 (by decide) (by decide) (by decide))).trans k_21)
      have k_35 := (congrFun e_28 (Ω 9)).trans ((va_up_ne _ _ (hD 9 12 (by decide) (by decide) (by decide))).trans k_22)
      have k_36 := (congrFun e_28 (Ω 10)).trans ((va_up_ne _ _ (hD 10 12 (by decide) (by decide) (by decide))).trans k_23)
      have k_37 := (congrFun e_28 (Ω 11)).trans ((va_up_ne _ _ (hD 11 12 (by decide) (by decide) (by decide))).trans k_24)
      have k_38 := (congrFun e_28 (Ω 13)).trans ((va_up_ne _ _ (Ne.symm (hD 12 13 (by decide) (by decide) (by decide)))).trans k_25)
      refine lv_aload_n hx hb dX3_deny_67 rfl (lv_at hl 0 rfl) ?_
      refine gX3_12 hx hb hX hown k_30 kw641 dX3_deny_68 ?_
      refine lv_iload_n hx hb dX3_deny_71 rfl (lv_at hl 1 rfl) ?_
      refine lv_aload_n hx hb dX3_deny_72 rfl (lv_at hl 0 rfl) ?_
      refine gX3_14 hx hb hX hown k_30 kw643 dX3_deny_73 ?_
      refine lv_iload_n hx hb dX3_deny_76 rfl (lv_at hl 1 rfl) ?_
      refine n_iald hx hb hX k_38 (by omega) (by omega) dX3_deny_77 ?_
      refine n_iastR (τ := σ) (k := 11) (v := σ 13 j) hx hb hX k_37 (by omega) (by omega) dX3_deny_78 (fun H locs hX => ?_)
      obtain ⟨μ_39, e_40⟩ : ∃ z, z = va_up μ_27 (Ω 11) (some (.inl (gI g, 10, .inl (fun ii => nI ((up2 σ 11 j (σ 13 j)) 11 ii))))) := ⟨_, rfl⟩
      rw [← e_40] at hX
      have k_41 : μ_39 (Ω 11) = some (.inl (gI g, 10, .inl (fun ii => nI ((up2 σ 11 j (σ 13 j)) 11 ii)))) := by rw [e_40]; exact va_up_self _ _ _
      have k_42 := (congrFun e_40 (Ω 0)).trans ((va_up_ne _ _ (kd_ne r0 r11 rfl)).trans k_30)
      have k_43 := (congrFun e_40 (Ω 5)).trans ((va_up_ne _ _ (hD 5 11 (by decide) (by decide) (by decide))).trans k_31)
      have k_44 := (congrFun e_40 (Ω 6)).trans ((va_up_ne _ _ (hD 6 11 (by decide) (by decide) (by decide))).trans k_32)
      have k_45 := (congrFun e_40 (Ω 7)).trans ((va_up_ne _ _ (hD 7 11 (by decide) (by decide) (by decide))).trans k_33)
      have k_46 := (congrFun e_40 (Ω 8)).trans ((va_up_ne _ _ (hD 8 11 (by decide) (by decide) (by decide))).trans k_34)
      have k_47 := (congrFun e_40 (Ω 9)).trans ((va_up_ne _ _ (hD 9 11 (by decide) (by decide) (by decide))).trans k_35)
      have k_48 := (congrFun e_40 (Ω 10)).trans ((va_up_ne _ _ (hD 10 11 (by decide) (by decide) (by decide))).trans k_36)
      have k_49 := (congrFun e_40 (Ω 12)).trans ((va_up_ne _ _ (Ne.symm (hD 11 12 (by decide) (by decide) (by decide)))).trans k_29)
      have k_50 := (congrFun e_40 (Ω 13)).trans ((va_up_ne _ _ (Ne.symm (hD 11 13 (by decide) (by decide) (by decide)))).trans k_38)
      refine lv_aload_n hx hb dX3_deny_79 rfl (lv_at hl 0 rfl) ?_
      refine gX3_14 hx hb hX hown k_42 kw643 dX3_deny_80 ?_
      refine lv_iload_n hx hb dX3_deny_83 rfl (lv_at hl 1 rfl) ?_
      refine lv_bipush (v := nI 32) hx hb dX3_deny_84 (by decide) ?_
      refine lv_iconst (v := nI 2) hx hb dX3_deny_86 (by decide) ?_
      refine lv_aload_n hx hb dX3_deny_87 rfl (lv_at hl 0 rfl) ?_
      refine gX3_14 hx hb hX hown k_42 kw643 dX3_deny_88 ?_
      refine lv_iload_n hx hb dX3_deny_91 rfl (lv_at hl 1 rfl) ?_
      refine n_iald hx hb hX k_50 (by omega) (by omega) dX3_deny_92 ?_
      refine n_imul hx hb dX3_deny_93 (pk_mul _ _) ?_
      refine n_mmin hx hb (hml.trans hl.1.symm) hX hown kw737 kStMin kInMath kCdMin ⟨Nat.le_of_ble_eq_true rfl, Nat.le_of_ble_eq_true rfl⟩ ⟨Nat.le_of_ble_eq_true rfl, Nat.le_of_ble_eq_true rfl⟩ dX3_deny_94 (nI_min (by omega) (by omega)) ?_
      refine n_iastR (τ := σ) (k := 13) (v := min 32 (2 * (σ 13 j))) hx hb hX k_50 (by omega) (by omega) dX3_deny_97 (fun H locs hX => ?_)
      obtain ⟨μ_51, e_52⟩ : ∃ z, z = va_up μ_39 (Ω 13) (some (.inl (gI g, 10, .inl (fun ii => nI ((up2 σ 13 j (min 32 (2 * (σ 13 j)))) 13 ii))))) := ⟨_, rfl⟩
      rw [← e_52] at hX
      have k_53 : μ_51 (Ω 13) = some (.inl (gI g, 10, .inl (fun ii => nI ((up2 σ 13 j (min 32 (2 * (σ 13 j)))) 13 ii)))) := by rw [e_52]; exact va_up_self _ _ _
      have k_54 := (congrFun e_52 (Ω 0)).trans ((va_up_ne _ _ (kd_ne r0 r13 rfl)).trans k_42)
      have k_55 := (congrFun e_52 (Ω 5)).trans ((va_up_ne _ _ (hD 5 13 (by decide) (by decide) (by decide))).trans k_43)
      have k_56 := (congrFun e_52 (Ω 6)).trans ((va_up_ne _ _ (hD 6 13 (by decide) (by decide) (by decide))).trans k_44)
      have k_57 := (congrFun e_52 (Ω 7)).trans ((va_up_ne _ _ (hD 7 13 (by decide) (by decide) (by decide))).trans k_45)
      have k_58 := (congrFun e_52 (Ω 8)).trans ((va_up_ne _ _ (hD 8 13 (by decide) (by decide) (by decide))).trans k_46)
      have k_59 := (congrFun e_52 (Ω 9)).trans ((va_up_ne _ _ (hD 9 13 (by decide) (by decide) (by decide))).trans k_47)
      have k_60 := (congrFun e_52 (Ω 10)).trans ((va_up_ne _ _ (hD 10 13 (by decide) (by decide) (by decide))).trans k_48)
      have k_61 := (congrFun e_52 (Ω 11)).trans ((va_up_ne _ _ (hD 11 13 (by decide) (by decide) (by decide))).trans k_41)
      have k_62 := (congrFun e_52 (Ω 12)).trans ((va_up_ne _ _ (hD 12 13 (by decide) (by decide) (by decide))).trans k_49)
      have hns : ¬ sz ≤ σ 10 j + σ 7 (σ 8 j) := fun z => hk ⟨by omega, z⟩
      rw [up2_2] at k_62
      exact w_vret hx hb hr hlocks hX ⟨rfl, by rw [nWis_n (fwG_n hk), nWi0_n (by omega) hns (by omega)]; exact ⟨k_54, k_55, k_56, k_57, k_58, k_59, k_60, k_61, k_62, k_53, hD⟩⟩ ⟨Nat.le_of_ble_eq_true rfl, Nat.le_of_ble_eq_true rfl⟩ dX3_deny_98
    · skip
      have hns : ¬ sz ≤ σ 10 j + σ 7 (σ 8 j) := fun z => hk ⟨by omega, z⟩
      exact w_vret hx hb hr hlocks hX ⟨rfl, by rw [nWis_n (fwG_n hk), nWi0_m (by omega) hns (by omega)]; exact ⟨k_17, k_18, k_19, k_20, k_21, k_22, k_23, k_24, k_16, k_25, hD⟩⟩ ⟨Nat.le_of_ble_eq_true rfl, Nat.le_of_ble_eq_true rfl⟩ dX3_deny_59
  · skip
    refine lv_aload_n hx hb dX3_deny_19 rfl (lv_at hl 0 rfl) ?_
    refine gX3_12 hx hb hX hown k_3 kw641 dX3_deny_20 ?_
    refine lv_iload_n hx hb dX3_deny_23 rfl (lv_at hl 1 rfl) ?_
    refine lv_bipush (v := nI 48) hx hb dX3_deny_24 (by decide) ?_
    refine lv_aload_n hx hb dX3_deny_26 rfl (lv_at hl 0 rfl) ?_
    refine gX3_12 hx hb hX hown k_3 kw641 dX3_deny_27 ?_
    refine lv_iload_n hx hb dX3_deny_30 rfl (lv_at hl 1 rfl) ?_
    refine n_iald hx hb hX k_10 (by omega) (by omega) dX3_deny_31 ?_
    refine lv_iconst (v := nI 1) hx hb dX3_deny_32 (by decide) ?_
    refine n_iadd hx hb dX3_deny_33 (nI_add _ _) ?_
    refine n_mmin hx hb (hml.trans hl.1.symm) hX hown kw737 kStMin kInMath kCdMin ⟨Nat.le_of_ble_eq_true rfl, Nat.le_of_ble_eq_true rfl⟩ ⟨Nat.le_of_ble_eq_true rfl, Nat.le_of_ble_eq_true rfl⟩ dX3_deny_34 (nI_min (by omega) (by omega)) ?_
    refine n_iastR (τ := σ) (k := 11) (v := min 48 ((σ 11 j) + 1)) hx hb hX k_10 (by omega) (by omega) dX3_deny_37 (fun H locs hX => ?_)
    obtain ⟨μ_63, e_64⟩ : ∃ z, z = va_up μ_1 (Ω 11) (some (.inl (gI g, 10, .inl (fun ii => nI ((up2 σ 11 j (min 48 ((σ 11 j) + 1))) 11 ii))))) := ⟨_, rfl⟩
    rw [← e_64] at hX
    have k_65 : μ_63 (Ω 11) = some (.inl (gI g, 10, .inl (fun ii => nI ((up2 σ 11 j (min 48 ((σ 11 j) + 1))) 11 ii)))) := by rw [e_64]; exact va_up_self _ _ _
    have k_66 := (congrFun e_64 (Ω 0)).trans ((va_up_ne _ _ (kd_ne r0 r11 rfl)).trans k_3)
    have k_67 := (congrFun e_64 (Ω 5)).trans ((va_up_ne _ _ (hD 5 11 (by decide) (by decide) (by decide))).trans k_4)
    have k_68 := (congrFun e_64 (Ω 6)).trans ((va_up_ne _ _ (hD 6 11 (by decide) (by decide) (by decide))).trans k_5)
    have k_69 := (congrFun e_64 (Ω 7)).trans ((va_up_ne _ _ (hD 7 11 (by decide) (by decide) (by decide))).trans k_6)
    have k_70 := (congrFun e_64 (Ω 8)).trans ((va_up_ne _ _ (hD 8 11 (by decide) (by decide) (by decide))).trans k_7)
    have k_71 := (congrFun e_64 (Ω 9)).trans ((va_up_ne _ _ (hD 9 11 (by decide) (by decide) (by decide))).trans k_8)
    have k_72 := (congrFun e_64 (Ω 10)).trans ((va_up_ne _ _ (hD 10 11 (by decide) (by decide) (by decide))).trans k_9)
    have k_73 := (congrFun e_64 (Ω 12)).trans ((va_up_ne _ _ (Ne.symm (hD 11 12 (by decide) (by decide) (by decide)))).trans k_11)
    have k_74 := (congrFun e_64 (Ω 13)).trans ((va_up_ne _ _ (Ne.symm (hD 11 13 (by decide) (by decide) (by decide)))).trans k_12)
    exact w_vret hx hb hr hlocks hX ⟨rfl, by rw [nWis_n (fwG_n hk), nWi0_h (by omega)]; exact ⟨k_66, k_67, k_68, k_69, k_70, k_71, k_72, k_65, k_73, k_74, hD⟩⟩ ⟨Nat.le_of_ble_eq_true rfl, Nat.le_of_ble_eq_true rfl⟩ dX3_deny_38

set_option maxHeartbeats 4000000 in
set_option maxRecDepth 100000 in
/-- a wish -/
theorem c_X3_wish (l : Launch) (g : wG) (μ : wMu) (zz : Nat) {Ω : Nat → Nat} {σ : sSt} {th : Nat} (hM : mD g Ω th σ μ) (hO : sOk σ) {x y : Int32} : wMet l yX3_wish cX3_wish 4 (some .boolean) 2 0 0 43 g [.ref (Ω 0), .int x, .int y] μ zz (fun r μ' => ∃ v, r = some (.int v) ∧ mD g Ω (cd2 (isX x (σ 4 0)) (isI y 1 20)) (nx (cd2 (isX x (σ 4 0)) (isI y 1 20)) (nWis σ (toN x) (toN y)) σ) μ' ∧ (cd2 (isX x (σ 4 0)) (isI y 1 20) = 0 → v = nI (fwG (toN y) (σ 7 (σ 8 (toN x))) (σ 10 (toN x)) (σ 11 (toN x))))) := by
  refine wMet.of (by decide) (Nat.le_of_ble_eq_true rfl) ?_
  intro p e s m below meth c ls hx hb hr hml hown hlocks hin hl hsz hX
  have hl : lv_has ls 4 [(0, .ref (Ω 0)), (1, .int x), (2, .int y)] := hl
  obtain ⟨r0, r5, r6, r7, r8, r9, r10, r11, r12, r13, hD⟩ := id hM
  obtain ⟨o1, o2, o3, o4, o5, o6, o7⟩ := id hO
  refine lv_aload_n hx hb dX3_wish_0 rfl (lv_at hl 0 rfl) ?_
  refine lv_iconst (v := nI 0) hx hb dX3_wish_1 (by decide) ?_
  refine pX3_0 hx hb hX hown r0 kw629 dX3_wish_2 (fun H locs hX => ?_)
  obtain ⟨μ_1, e_2⟩ : ∃ z, z = va_up μ (Ω 0) (some (.inr (4, [.int (nI 0), .int (nI (σ 3 0)), .int (nI (σ 4 0)), .int (nI (σ 0 0)), .int (nI (σ 1 0)), .int (nI (σ 2 0)), .ref (Ω 5), .ref (Ω 6), .ref (Ω 7), .ref (Ω 8), .ref (Ω 9), .ref (Ω 10), .ref (Ω 11), .ref (Ω 12), .ref (Ω 13)]))) := ⟨_, rfl⟩
  rw [← e_2] at hX
  have k_3 : μ_1 (Ω 0) = some (.inr (4, [.int (nI 0), .int (nI (σ 3 0)), .int (nI (σ 4 0)), .int (nI (σ 0 0)), .int (nI (σ 1 0)), .int (nI (σ 2 0)), .ref (Ω 5), .ref (Ω 6), .ref (Ω 7), .ref (Ω 8), .ref (Ω 9), .ref (Ω 10), .ref (Ω 11), .ref (Ω 12), .ref (Ω 13)])) := by rw [e_2]; exact va_up_self _ _ _
  have k_4 := (congrFun e_2 (Ω 5)).trans ((va_up_ne _ _ (Ne.symm (kd_ne r0 r5 rfl))).trans r5)
  have k_5 := (congrFun e_2 (Ω 6)).trans ((va_up_ne _ _ (Ne.symm (kd_ne r0 r6 rfl))).trans r6)
  have k_6 := (congrFun e_2 (Ω 7)).trans ((va_up_ne _ _ (Ne.symm (kd_ne r0 r7 rfl))).trans r7)
  have k_7 := (congrFun e_2 (Ω 8)).trans ((va_up_ne _ _ (Ne.symm (kd_ne r0 r8 rfl))).trans r8)
  have k_8 := (congrFun e_2 (Ω 9)).trans ((va_up_ne _ _ (Ne.symm (kd_ne r0 r9 rfl))).trans r9)
  have k_9 := (congrFun e_2 (Ω 10)).trans ((va_up_ne _ _ (Ne.symm (kd_ne r0 r10 rfl))).trans r10)
  have k_10 := (congrFun e_2 (Ω 11)).trans ((va_up_ne _ _ (Ne.symm (kd_ne r0 r11 rfl))).trans r11)
  have k_11 := (congrFun e_2 (Ω 12)).trans ((va_up_ne _ _ (Ne.symm (kd_ne r0 r12 rfl))).trans r12)
  have k_12 := (congrFun e_2 (Ω 13)).trans ((va_up_ne _ _ (Ne.symm (kd_ne r0 r13 rfl))).trans r13)
  have hM0 : mD g Ω 0 σ μ_1 := ⟨k_3, k_4, k_5, k_6, k_7, k_8, k_9, k_10, k_11, k_12, hD⟩
  refine lv_aload_n hx hb dX3_wish_5 rfl (lv_at hl 0 rfl) ?_
  refine lv_iload_n hx hb dX3_wish_6 rfl (lv_at hl 1 rfl) ?_
  refine w_call (w_runV (n := 1) (As := [.int x]) (rest := []) hx hb hml hown hX (c_X3_isChild l g μ_1 H.size hM0 hO) kw709 kw7 kw706 kw708 kp28 wn_X3_isChild rfl k_3 rfl ⟨Nat.le_of_ble_eq_true rfl, Nat.le_of_ble_eq_true rfl⟩ hl.1 rfl (Nat.le_of_ble_eq_true rfl) dX3_wish_7 ⟨Nat.le_of_ble_eq_true rfl, Nat.le_of_ble_eq_true rfl⟩) hX (fun r_15 μ_13 H locs q_14 hX hz => ?_)
  obtain ⟨q_17, e_16⟩ := q_14
  rw [e_16] at hX
  obtain ⟨rfl, p_18⟩ | ⟨rfl, p_19⟩ := q_17
  · skip
    refine W.eq (g2 := F0 m 10 ls [.int (nI 1)]) rfl ?_
    have bx := (isX.nI p_18).2
    rw [(isX.nI p_18).1] at hl
    refine n_if_ne (tgt := 19) hx hb (by omega) dX3_wish_10 (by decide) (fun _ => ?_) (fun h => absurd h (by omega))
    refine lv_iload_n hx hb dX3_wish_19 rfl (lv_at hl 2 rfl) ?_
    refine w_call (w_runS (n := 1) (As := [.int y]) (rest := []) hx hb hml hown hX (c_X3_isSize l g μ_1 H.size) kw724 kw7 kw722 kw723 wn_X3_isSize rfl ⟨Nat.le_of_ble_eq_true rfl, Nat.le_of_ble_eq_true rfl⟩ hl.1 rfl (Nat.le_of_ble_eq_true rfl) dX3_wish_20 ⟨Nat.le_of_ble_eq_true rfl, Nat.le_of_ble_eq_true rfl⟩) hX (fun r_22 μ_20 H locs q_21 hX hz => ?_)
    obtain ⟨q_24, e_23⟩ := q_21
    rw [e_23] at hX
    obtain ⟨rfl, p_25⟩ | ⟨rfl, p_26⟩ := q_24
    · skip
      refine W.eq (g2 := F0 m 23 ls [.int (nI 1)]) rfl ?_
      have byy := (isI.nI (a := 1) (b := 20) p_25).2
      rw [(isI.nI (a := 1) (b := 20) p_25).1] at hl
      refine n_if_ne (tgt := 32) hx hb (by omega) dX3_wish_23 (by decide) (fun _ => ?_) (fun h => absurd h (by omega))
      refine lv_aload_n hx hb dX3_wish_32 rfl (lv_at hl 0 rfl) ?_
      refine lv_iload_n hx hb dX3_wish_33 rfl (lv_at hl 1 rfl) ?_
      refine lv_iload_n hx hb dX3_wish_34 rfl (lv_at hl 2 rfl) ?_
      refine w_call (w_runV (n := 2) (As := [.int (nI (toN x)), .int (nI (toN y))]) (rest := []) hx hb hml hown hX (c_X3_isGranted l g μ_1 H.size hM0 hO bx byy.2) kw728 kw7 kw725 kw727 kp30 wn_X3_isGranted rfl k_3 rfl ⟨Nat.le_of_ble_eq_true rfl, Nat.le_of_ble_eq_true rfl⟩ hl.1 rfl (Nat.le_of_ble_eq_true rfl) dX3_wish_35 ⟨Nat.le_of_ble_eq_true rfl, Nat.le_of_ble_eq_true rfl⟩) hX (fun r_29 μ_27 H locs q_28 hX hz => ?_)
      obtain ⟨q_31, e_30⟩ := q_28
      rw [e_30] at hX
      obtain ⟨rfl, p_32⟩ | ⟨rfl, p_33⟩ := q_31
      · skip
        refine W.eq (g2 := F0 m 38 ls [.int (nI 1)]) rfl ?_
        have ocb := o4 _ bx
        have owb := o3 _ ocb.1
        refine n_if_ne (tgt := 48) hx hb (by omega) dX3_wish_38 (by decide) (fun _ => ?_) (fun h => absurd h (by omega))
        refine lv_aload_n hx hb dX3_wish_48 rfl (lv_at hl 0 rfl) ?_
        refine gX3_11 hx hb hX hown k_3 kw640 dX3_wish_49 ?_
        refine lv_iload_n hx hb dX3_wish_52 rfl (lv_at hl 1 rfl) ?_
        refine n_iald hx hb hX k_9 (by omega) (by omega) dX3_wish_53 ?_
        refine lv_iload_n hx hb dX3_wish_54 rfl (lv_at hl 2 rfl) ?_
        refine n_mmin hx hb (hml.trans hl.1.symm) hX hown kw737 kStMin kInMath kCdMin ⟨Nat.le_of_ble_eq_true rfl, Nat.le_of_ble_eq_true rfl⟩ ⟨Nat.le_of_ble_eq_true rfl, Nat.le_of_ble_eq_true rfl⟩ dX3_wish_55 (nI_min (by omega) (by omega)) ?_
        refine lv_istore_n (lv' := [(3, .int (nI (min (σ 10 (toN x)) (toN y)))), (0, .ref (Ω 0)), (1, .int (nI (toN x))), (2, .int (nI (toN y)))]) hx hb dX3_wish_58 rfl hl (by decide) rfl (fun ls hl => ?_)
        refine lv_aload_n hx hb dX3_wish_59 rfl (lv_at hl 1 rfl) ?_
        refine gX3_11 hx hb hX hown k_3 kw640 dX3_wish_60 ?_
        refine lv_iload_n hx hb dX3_wish_63 rfl (lv_at hl 2 rfl) ?_
        refine lv_dup2_11 hx hb dX3_wish_64 rfl rfl ?_
        refine n_iald hx hb hX k_9 (by omega) (by omega) dX3_wish_65 ?_
        refine lv_iload_n hx hb dX3_wish_66 rfl (lv_at hl 0 rfl) ?_
        refine n_isub hx hb dX3_wish_67 (pk_sub (by omega)) ?_
        refine n_iastR (τ := σ) (k := 10) (v := (σ 10 (toN x)) - (min (σ 10 (toN x)) (toN y))) hx hb hX k_9 (by omega) (by omega) dX3_wish_68 (fun H locs hX => ?_)
        obtain ⟨μ_34, e_35⟩ : ∃ z, z = va_up μ_1 (Ω 10) (some (.inl (gI g, 10, .inl (fun ii => nI ((up2 σ 10 (toN x) ((σ 10 (toN x)) - (min (σ 10 (toN x)) (toN y)))) 10 ii))))) := ⟨_, rfl⟩
        rw [← e_35] at hX
        have k_36 : μ_34 (Ω 10) = some (.inl (gI g, 10, .inl (fun ii => nI ((up2 σ 10 (toN x) ((σ 10 (toN x)) - (min (σ 10 (toN x)) (toN y)))) 10 ii)))) := by rw [e_35]; exact va_up_self _ _ _
        have k_37 := (congrFun e_35 (Ω 0)).trans ((va_up_ne _ _ (kd_ne r0 r10 rfl)).trans k_3)
        have k_38 := (congrFun e_35 (Ω 5)).trans ((va_up_ne _ _ (hD 5 10 (by decide) (by decide) (by decide))).trans k_4)
        have k_39 := (congrFun e_35 (Ω 6)).trans ((va_up_ne _ _ (hD 6 10 (by decide) (by decide) (by decide))).trans k_5)
        have k_40 := (congrFun e_35 (Ω 7)).trans ((va_up_ne _ _ (hD 7 10 (by decide) (by decide) (by decide))).trans k_6)
        have k_41 := (congrFun e_35 (Ω 8)).trans ((va_up_ne _ _ (hD 8 10 (by decide) (by decide) (by decide))).trans k_7)
        have k_42 := (congrFun e_35 (Ω 9)).trans ((va_up_ne _ _ (hD 9 10 (by decide) (by decide) (by decide))).trans k_8)
        have k_43 := (congrFun e_35 (Ω 11)).trans ((va_up_ne _ _ (Ne.symm (hD 10 11 (by decide) (by decide) (by decide)))).trans k_10)
        have k_44 := (congrFun e_35 (Ω 12)).trans ((va_up_ne _ _ (Ne.symm (hD 10 12 (by decide) (by decide) (by decide)))).trans k_11)
        have k_45 := (congrFun e_35 (Ω 13)).trans ((va_up_ne _ _ (Ne.symm (hD 10 13 (by decide) (by decide) (by decide)))).trans k_12)
        refine lv_aload_n hx hb dX3_wish_69 rfl (lv_at hl 1 rfl) ?_
        refine gX3_8 hx hb hX hown k_37 kw637 dX3_wish_70 ?_
        refine lv_aload_n hx hb dX3_wish_73 rfl (lv_at hl 1 rfl) ?_
        refine gX3_9 hx hb hX hown k_37 kw638 dX3_wish_74 ?_
        refine lv_iload_n hx hb dX3_wish_77 rfl (lv_at hl 2 rfl) ?_
        refine n_iald hx hb hX k_41 (by omega) (by omega) dX3_wish_78 ?_
        refine lv_dup2_11 hx hb dX3_wish_79 rfl rfl ?_
        refine n_iald hx hb hX k_40 (by omega) (by omega) dX3_wish_80 ?_
        refine lv_iload_n hx hb dX3_wish_81 rfl (lv_at hl 3 rfl) ?_
        refine lv_iload_n hx hb dX3_wish_82 rfl (lv_at hl 0 rfl) ?_
        refine n_isub hx hb dX3_wish_83 (pk_sub (by omega)) ?_
        refine n_isub hx hb dX3_wish_84 (pk_sub (by omega)) ?_
        refine n_iastR (τ := σ) (k := 7) (v := (σ 7 (σ 8 (toN x))) - ((toN y) - (min (σ 10 (toN x)) (toN y)))) hx hb hX k_40 (by omega) (by omega) dX3_wish_85 (fun H locs hX => ?_)
        obtain ⟨μ_46, e_47⟩ : ∃ z, z = va_up μ_34 (Ω 7) (some (.inl (gI g, 4, .inl (fun ii => nI ((up2 σ 7 (σ 8 (toN x)) ((σ 7 (σ 8 (toN x))) - ((toN y) - (min (σ 10 (toN x)) (toN y))))) 7 ii))))) := ⟨_, rfl⟩
        rw [← e_47] at hX
        have k_48 : μ_46 (Ω 7) = some (.inl (gI g, 4, .inl (fun ii => nI ((up2 σ 7 (σ 8 (toN x)) ((σ 7 (σ 8 (toN x))) - ((toN y) - (min (σ 10 (toN x)) (toN y))))) 7 ii)))) := by rw [e_47]; exact va_up_self _ _ _
        have k_49 := (congrFun e_47 (Ω 0)).trans ((va_up_ne _ _ (kd_ne r0 r7 rfl)).trans k_37)
        have k_50 := (congrFun e_47 (Ω 5)).trans ((va_up_ne _ _ (hD 5 7 (by decide) (by decide) (by decide))).trans k_38)
        have k_51 := (congrFun e_47 (Ω 6)).trans ((va_up_ne _ _ (hD 6 7 (by decide) (by decide) (by decide))).trans k_39)
        have k_52 := (congrFun e_47 (Ω 8)).trans ((va_up_ne _ _ (Ne.symm (hD 7 8 (by decide) (by decide) (by decide)))).trans k_41)
        have k_53 := (congrFun e_47 (Ω 9)).trans ((va_up_ne _ _ (Ne.symm (hD 7 9 (by decide) (by decide) (by decide)))).trans k_42)
        have k_54 := (congrFun e_47 (Ω 10)).trans ((va_up_ne _ _ (Ne.symm (hD 7 10 (by decide) (by decide) (by decide)))).trans k_36)
        have k_55 := (congrFun e_47 (Ω 11)).trans ((va_up_ne _ _ (Ne.symm (hD 7 11 (by decide) (by decide) (by decide)))).trans k_43)
        have k_56 := (congrFun e_47 (Ω 12)).trans ((va_up_ne _ _ (Ne.symm (hD 7 12 (by decide) (by decide) (by decide)))).trans k_44)
        have k_57 := (congrFun e_47 (Ω 13)).trans ((va_up_ne _ _ (Ne.symm (hD 7 13 (by decide) (by decide) (by decide)))).trans k_45)
        refine lv_aload_n hx hb dX3_wish_86 rfl (lv_at hl 1 rfl) ?_
        refine gX3_13 hx hb hX hown k_49 kw642 dX3_wish_87 ?_
        refine lv_iload_n hx hb dX3_wish_90 rfl (lv_at hl 2 rfl) ?_
        refine lv_iconst (v := nI 0) hx hb dX3_wish_91 (by decide) ?_
        refine lv_aload_n hx hb dX3_wish_92 rfl (lv_at hl 1 rfl) ?_
        refine gX3_13 hx hb hX hown k_49 kw642 dX3_wish_93 ?_
        refine lv_iload_n hx hb dX3_wish_96 rfl (lv_at hl 2 rfl) ?_
        refine n_iald hx hb hX k_56 (by omega) (by omega) dX3_wish_97 ?_
        refine lv_iconst (v := nI 1) hx hb dX3_wish_98 (by decide) ?_
        refine n_isub hx hb dX3_wish_99 rfl ?_
        refine n_mmax hx hb (hml.trans hl.1.symm) hX hown kw738 kStMax kInMath kCdMax ⟨Nat.le_of_ble_eq_true rfl, Nat.le_of_ble_eq_true rfl⟩ ⟨Nat.le_of_ble_eq_true rfl, Nat.le_of_ble_eq_true rfl⟩ dX3_wish_100 (nI_max0 (by omega) (by omega)) ?_
        refine n_iastR (τ := σ) (k := 12) (v := (σ 12 (toN x)) - 1) hx hb hX k_56 (by omega) (by omega) dX3_wish_103 (fun H locs hX => ?_)
        obtain ⟨μ_58, e_59⟩ : ∃ z, z = va_up μ_46 (Ω 12) (some (.inl (gI g, 10, .inl (fun ii => nI ((up2 σ 12 (toN x) ((σ 12 (toN x)) - 1)) 12 ii))))) := ⟨_, rfl⟩
        rw [← e_59] at hX
        have k_60 : μ_58 (Ω 12) = some (.inl (gI g, 10, .inl (fun ii => nI ((up2 σ 12 (toN x) ((σ 12 (toN x)) - 1)) 12 ii)))) := by rw [e_59]; exact va_up_self _ _ _
        have k_61 := (congrFun e_59 (Ω 0)).trans ((va_up_ne _ _ (kd_ne r0 r12 rfl)).trans k_49)
        have k_62 := (congrFun e_59 (Ω 5)).trans ((va_up_ne _ _ (hD 5 12 (by decide) (by decide) (by decide))).trans k_50)
        have k_63 := (congrFun e_59 (Ω 6)).trans ((va_up_ne _ _ (hD 6 12 (by decide) (by decide) (by decide))).trans k_51)
        have k_64 := (congrFun e_59 (Ω 7)).trans ((va_up_ne _ _ (hD 7 12 (by decide) (by decide) (by decide))).trans k_48)
        have k_65 := (congrFun e_59 (Ω 8)).trans ((va_up_ne _ _ (hD 8 12 (by decide) (by decide) (by decide))).trans k_52)
        have k_66 := (congrFun e_59 (Ω 9)).trans ((va_up_ne _ _ (hD 9 12 (by decide) (by decide) (by decide))).trans k_53)
        have k_67 := (congrFun e_59 (Ω 10)).trans ((va_up_ne _ _ (hD 10 12 (by decide) (by decide) (by decide))).trans k_54)
        have k_68 := (congrFun e_59 (Ω 11)).trans ((va_up_ne _ _ (hD 11 12 (by decide) (by decide) (by decide))).trans k_55)
        have k_69 := (congrFun e_59 (Ω 13)).trans ((va_up_ne _ _ (Ne.symm (hD 12 13 (by decide) (by decide) (by decide)))).trans k_57)
        refine lv_aload_n hx hb dX3_wish_104 rfl (lv_at hl 1 rfl) ?_
        refine lv_dup hx hb dX3_wish_105 rfl ?_
        refine gX3_4 hx hb hX hown k_61 kw633 dX3_wish_106 ?_
        refine lv_iconst (v := nI 1) hx hb dX3_wish_109 (by decide) ?_
        refine n_iadd hx hb dX3_wish_110 (nI_add _ _) ?_
        refine pX3_4 hx hb hX hown k_61 kw633 dX3_wish_111 (fun H locs hX => ?_)
        obtain ⟨μ_70, e_71⟩ : ∃ z, z = va_up μ_58 (Ω 0) (some (.inr (4, [.int (nI 0), .int (nI (σ 3 0)), .int (nI (σ 4 0)), .int (nI (σ 0 0)), .int (nI ((σ 1 0) + 1)), .int (nI (σ 2 0)), .ref (Ω 5), .ref (Ω 6), .ref (Ω 7), .ref (Ω 8), .ref (Ω 9), .ref (Ω 10), .ref (Ω 11), .ref (Ω 12), .ref (Ω 13)]))) := ⟨_, rfl⟩
        rw [← e_71] at hX
        have k_72 : μ_70 (Ω 0) = some (.inr (4, [.int (nI 0), .int (nI (σ 3 0)), .int (nI (σ 4 0)), .int (nI (σ 0 0)), .int (nI ((σ 1 0) + 1)), .int (nI (σ 2 0)), .ref (Ω 5), .ref (Ω 6), .ref (Ω 7), .ref (Ω 8), .ref (Ω 9), .ref (Ω 10), .ref (Ω 11), .ref (Ω 12), .ref (Ω 13)])) := by rw [e_71]; exact va_up_self _ _ _
        have k_73 := (congrFun e_71 (Ω 5)).trans ((va_up_ne _ _ (Ne.symm (kd_ne r0 r5 rfl))).trans k_62)
        have k_74 := (congrFun e_71 (Ω 6)).trans ((va_up_ne _ _ (Ne.symm (kd_ne r0 r6 rfl))).trans k_63)
        have k_75 := (congrFun e_71 (Ω 7)).trans ((va_up_ne _ _ (Ne.symm (kd_ne r0 r7 rfl))).trans k_64)
        have k_76 := (congrFun e_71 (Ω 8)).trans ((va_up_ne _ _ (Ne.symm (kd_ne r0 r8 rfl))).trans k_65)
        have k_77 := (congrFun e_71 (Ω 9)).trans ((va_up_ne _ _ (Ne.symm (kd_ne r0 r9 rfl))).trans k_66)
        have k_78 := (congrFun e_71 (Ω 10)).trans ((va_up_ne _ _ (Ne.symm (kd_ne r0 r10 rfl))).trans k_67)
        have k_79 := (congrFun e_71 (Ω 11)).trans ((va_up_ne _ _ (Ne.symm (kd_ne r0 r11 rfl))).trans k_68)
        have k_80 := (congrFun e_71 (Ω 12)).trans ((va_up_ne _ _ (Ne.symm (kd_ne r0 r12 rfl))).trans k_60)
        have k_81 := (congrFun e_71 (Ω 13)).trans ((va_up_ne _ _ (Ne.symm (kd_ne r0 r13 rfl))).trans k_69)
        refine lv_iconst (v := nI 1) hx hb dX3_wish_114 (by decide) ?_
        have hcd : cd2 (isX x (σ 4 0)) (isI y 1 20) = 0 := cd2_0 p_18 p_25
        exact w_zret hx hb hr hlocks hX (by first | rfl | decide) ⟨_, rfl, by rw [hcd]; show mD g Ω 0 (nWis σ (toN x) (toN y)) _; rw [nWis_y (by rw [fwG_y p_32]; decide), nWi0_y p_32]; exact ⟨k_72, k_73, k_74, k_75, k_76, k_77, k_78, k_79, k_80, k_81, hD⟩, fun _ => by rw [fwG_y p_32]⟩ ⟨Nat.le_of_ble_eq_true rfl, Nat.le_of_ble_eq_true rfl⟩ dX3_wish_115
      · skip
        refine W.eq (g2 := F0 m 38 ls [.int (nI 0)]) rfl ?_
        have ocb := o4 _ bx
        have owb := o3 _ ocb.1
        refine n_if_ne (tgt := 48) hx hb (by omega) dX3_wish_38 (by decide) (fun h => absurd h (by omega)) (fun _ => ?_)
        refine lv_aload_n hx hb dX3_wish_41 rfl (lv_at hl 0 rfl) ?_
        refine lv_iload_n hx hb dX3_wish_42 rfl (lv_at hl 1 rfl) ?_
        refine w_call (w_runV (n := 1) (As := [.int (nI (toN x))]) (rest := []) hx hb hml hown hX (c_X3_deny l g μ_1 H.size hM0 hO bx p_33) kw736 kw7 kw733 kw735 kp32 wn_X3_deny rfl k_3 rfl ⟨Nat.le_of_ble_eq_true rfl, Nat.le_of_ble_eq_true rfl⟩ hl.1 rfl (Nat.le_of_ble_eq_true rfl) dX3_wish_43 ⟨Nat.le_of_ble_eq_true rfl, Nat.le_of_ble_eq_true rfl⟩) hX (fun r_84 μ_82 H locs q_83 hX hz => ?_)
        obtain ⟨rfl, hMd⟩ := q_83
        refine W.eq (g2 := F0 m 46 ls []) rfl ?_
        refine lv_iconst (v := nI 0) hx hb dX3_wish_46 (by decide) ?_
        have hcd : cd2 (isX x (σ 4 0)) (isI y 1 20) = 0 := cd2_0 p_18 p_25
        exact w_zret hx hb hr hlocks hX (by first | rfl | decide) ⟨_, rfl, by rw [hcd]; exact hMd, fun _ => by rw [fwG_n p_33]⟩ ⟨Nat.le_of_ble_eq_true rfl, Nat.le_of_ble_eq_true rfl⟩ dX3_wish_47
    · skip
      refine W.eq (g2 := F0 m 23 ls [.int (nI 0)]) rfl ?_
      refine n_if_ne (tgt := 32) hx hb (by omega) dX3_wish_23 (by decide) (fun h => absurd h (by omega)) (fun _ => ?_)
      refine lv_aload_n hx hb dX3_wish_26 rfl (lv_at hl 0 rfl) ?_
      refine lv_iconst (v := nI 2) hx hb dX3_wish_27 (by decide) ?_
      refine w_call (w_runV (n := 1) (As := [.int (nI 2)]) (rest := []) hx hb hml hown hX (c_X3_isNot l g μ_1 H.size hM0 hO) kw721 kw7 kw718 kw720 kp29 wn_X3_isNot rfl k_3 rfl ⟨Nat.le_of_ble_eq_true rfl, Nat.le_of_ble_eq_true rfl⟩ hl.1 rfl (Nat.le_of_ble_eq_true rfl) dX3_wish_28 ⟨Nat.le_of_ble_eq_true rfl, Nat.le_of_ble_eq_true rfl⟩) hX (fun r_87 μ_85 H locs q_86 hX hz => ?_)
      obtain ⟨rfl, hMk⟩ := q_86
      refine W.eq (g2 := F0 m 31 ls [.int (nI 0)]) rfl ?_
      have hcd : cd2 (isX x (σ 4 0)) (isI y 1 20) = 2 := cd2_2 p_18 p_26
      exact w_zret hx hb hr hlocks hX (by first | rfl | decide) ⟨_, rfl, by rw [hcd]; exact hMk, fun z => by rw [hcd] at z; cases z⟩ ⟨Nat.le_of_ble_eq_true rfl, Nat.le_of_ble_eq_true rfl⟩ dX3_wish_31
  · skip
    refine W.eq (g2 := F0 m 10 ls [.int (nI 0)]) rfl ?_
    refine n_if_ne (tgt := 19) hx hb (by omega) dX3_wish_10 (by decide) (fun h => absurd h (by omega)) (fun _ => ?_)
    refine lv_aload_n hx hb dX3_wish_13 rfl (lv_at hl 0 rfl) ?_
    refine lv_iconst (v := nI 1) hx hb dX3_wish_14 (by decide) ?_
    refine w_call (w_runV (n := 1) (As := [.int (nI 1)]) (rest := []) hx hb hml hown hX (c_X3_isNot l g μ_1 H.size hM0 hO) kw721 kw7 kw718 kw720 kp29 wn_X3_isNot rfl k_3 rfl ⟨Nat.le_of_ble_eq_true rfl, Nat.le_of_ble_eq_true rfl⟩ hl.1 rfl (Nat.le_of_ble_eq_true rfl) dX3_wish_15 ⟨Nat.le_of_ble_eq_true rfl, Nat.le_of_ble_eq_true rfl⟩) hX (fun r_90 μ_88 H locs q_89 hX hz => ?_)
    obtain ⟨rfl, hMk⟩ := q_89
    refine W.eq (g2 := F0 m 18 ls [.int (nI 0)]) rfl ?_
    have hcd : cd2 (isX x (σ 4 0)) (isI y 1 20) = 1 := cd2_1 p_19
    exact w_zret hx hb hr hlocks hX (by first | rfl | decide) ⟨_, rfl, by rw [hcd]; exact hMk, fun z => by rw [hcd] at z; cases z⟩ ⟨Nat.le_of_ble_eq_true rfl, Nat.le_of_ble_eq_true rfl⟩ dX3_wish_18

def sQ (σ : sSt) (k a c d : Nat) : sSt := fun f i => if f = 7 ∧ i < a then dIn σ i k else if f = 10 ∧ i < c then bIn σ i k else if f = 11 ∧ i < d then σ 11 i - k else σ f i
theorem sQ_0 (σ : sSt) (k : Nat) : sQ σ k 0 0 0 = σ := by
  funext f i
  simp only [sQ, Nat.not_lt_zero, and_false, if_false]
theorem sQ_o (σ : sSt) {k a c d f i : Nat} (h : ¬ (f = 7 ∧ i < a) ∧ ¬ (f = 10 ∧ i < c) ∧ ¬ (f = 11 ∧ i < d)) : sQ σ k a c d f i = σ f i := by
  simp only [sQ, if_neg h.1, if_neg h.2.1, if_neg h.2.2]
theorem sQ_7 (σ : sSt) {k a c d i : Nat} (h : i < a) : sQ σ k a c d 7 i = dIn σ i k := if_pos ⟨rfl, h⟩
theorem sQ_10 (σ : sSt) {k a c d i : Nat} (h : i < c) : sQ σ k a c d 10 i = bIn σ i k := (if_neg (by omega)).trans (if_pos ⟨rfl, h⟩)
theorem sQ_11 (σ : sSt) {k a c d i : Nat} (h : i < d) : sQ σ k a c d 11 i = σ 11 i - k := (if_neg (by omega)).trans ((if_neg (by omega)).trans (if_pos ⟨rfl, h⟩))
theorem sQ_a (σ : sSt) (k a c d : Nat) : up2 (sQ σ k a c d) 7 a (dIn σ a k) = sQ σ k (a + 1) c d := by
  funext f i
  by_cases h : f = 7 ∧ i = a
  · rw [h.1, h.2, up2_self, sQ_7 σ (Nat.lt_succ_self a)]
  · have e : (f = 7 ∧ i < a + 1) ↔ (f = 7 ∧ i < a) := by omega
    unfold up2; rw [if_neg h]; simp only [sQ, e]
theorem sQ_c (σ : sSt) (k a c d : Nat) : up2 (sQ σ k a c d) 10 c (bIn σ c k) = sQ σ k a (c + 1) d := by
  funext f i
  by_cases h : f = 10 ∧ i = c
  · rw [h.1, h.2, up2_self, sQ_10 σ (Nat.lt_succ_self c)]
  · have e : (f = 10 ∧ i < c + 1) ↔ (f = 10 ∧ i < c) := by omega
    unfold up2; rw [if_neg h]; simp only [sQ, e]
theorem sQ_d (σ : sSt) (k a c d : Nat) : up2 (sQ σ k a c d) 11 d (σ 11 d - k) = sQ σ k a c (d + 1) := by
  funext f i
  by_cases h : f = 11 ∧ i = d
  · rw [h.1, h.2, up2_self, sQ_11 σ (Nat.lt_succ_self d)]
  · have e : (f = 11 ∧ i < d + 1) ↔ (f = 11 ∧ i < d) := by omega
    unfold up2; rw [if_neg h]; simp only [sQ, e]
theorem sQ_end (σ : sSt) (k : Nat) : up2 (sQ σ k (σ 3 0) (σ 4 0) (σ 4 0)) 0 0 (σ 0 0 + k) = nPas σ k := by
  funext f i
  unfold up2
  rw [nPas_eq]
  split
  · rfl
  · rfl
theorem sQ_ok {σ : sSt} (hO : sOk σ) {k a c d : Nat} (h1 : a ≤ σ 3 0) (h2 : c ≤ σ 4 0) (h3 : d ≤ σ 4 0) : sOk (sQ σ k a c d) := by
  obtain ⟨o1, o2, o3, o4, o5, o6, o7⟩ := id hO
  have z : ∀ f i, f ≠ 7 → f ≠ 10 → f ≠ 11 → sQ σ k a c d f i = σ f i := fun f i h7 h10 h11 => sQ_o σ ⟨fun q => h7 q.1, fun q => h10 q.1, fun q => h11 q.1⟩
  have n3 := z 3 0 (by omega) (by omega) (by omega)
  have n4 := z 4 0 (by omega) (by omega) (by omega)
  refine ⟨by omega, by omega, ?_, ?_, ?_, by rw [z 0 0 (by omega) (by omega) (by omega)]; exact o6, by rw [z 1 0 (by omega) (by omega) (by omega), z 2 0 (by omega) (by omega) (by omega)]; exact o7⟩
  · intro i hi
    rw [n3] at hi
    have q := o3 i hi
    rw [z 5 i (by omega) (by omega) (by omega), z 6 i (by omega) (by omega) (by omega)]
    refine ⟨q.1, q.2.1, q.2.2.1, ?_⟩
    by_cases h : i < a
    · rw [sQ_7 σ h]; exact dIn_le σ i k
    · rw [sQ_o σ (by omega)]; exact q.2.2.2
  · intro j hj
    rw [n4] at hj
    have q := o4 j hj
    have b1 := bIn_le (j := j) (k := k) q.2.2.1
    rw [n3, z 8 j (by omega) (by omega) (by omega), z 9 j (by omega) (by omega) (by omega), z 12 j (by omega) (by omega) (by omega), z 13 j (by omega) (by omega) (by omega)]
    refine ⟨q.1, q.2.1, ?_, ?_, q.2.2.2.2.1, q.2.2.2.2.2⟩
    · by_cases h : j < c
      · rw [sQ_10 σ h]; exact b1
      · rw [sQ_o σ (by omega)]; exact q.2.2.1
    · by_cases h : j < d
      · rw [sQ_11 σ h]; omega
      · rw [sQ_o σ (by omega)]; exact q.2.2.2.1
  · intro j hj
    rw [n4] at hj
    rw [sQ_o σ (by omega), z 12 j (by omega) (by omega) (by omega)]
    exact o5 j hj
set_option maxHeartbeats 4000000 in
set_option maxRecDepth 100000 in
/-- hours go by -/
theorem c_X3_pass (l : Launch) (g : wG) (μ : wMu) (zz : Nat) {Ω : Nat → Nat} {σ : sSt} {th : Nat} (hM : mD g Ω th σ μ) (hO : sOk σ) (h9 : σ 0 0 ≤ 51900) {x : Int32} : wMet l yX3_pass cX3_pass 5 (some .int) 2 0 0 43 g [.ref (Ω 0), .int x] μ zz (fun r μ' => ∃ v, r = some (.int v) ∧ mD g Ω (cd1 (isI x 1 100)) (nx (cd1 (isI x 1 100)) (nPas σ (toN x)) σ) μ' ∧ (cd1 (isI x 1 100) = 0 → v = nI (sFal σ (toN x) (σ 3 0)))) := by
  refine wMet.of (by decide) (Nat.le_of_ble_eq_true rfl) ?_
  intro p e s m below meth c ls hx hb hr hml hown hlocks hin hl hsz hX
  have hl : lv_has ls 5 [(0, .ref (Ω 0)), (1, .int x)] := hl
  obtain ⟨r0, r5, r6, r7, r8, r9, r10, r11, r12, r13, hD⟩ := id hM
  obtain ⟨o1, o2, o3, o4, o5, o6, o7⟩ := id hO
  refine lv_aload_n hx hb dX3_pass_0 rfl (lv_at hl 0 rfl) ?_
  refine lv_iconst (v := nI 0) hx hb dX3_pass_1 (by decide) ?_
  refine pX3_0 hx hb hX hown r0 kw629 dX3_pass_2 (fun H locs hX => ?_)
  obtain ⟨μ_1, e_2⟩ : ∃ z, z = va_up μ (Ω 0) (some (.inr (4, [.int (nI 0), .int (nI (σ 3 0)), .int (nI (σ 4 0)), .int (nI (σ 0 0)), .int (nI (σ 1 0)), .int (nI (σ 2 0)), .ref (Ω 5), .ref (Ω 6), .ref (Ω 7), .ref (Ω 8), .ref (Ω 9), .ref (Ω 10), .ref (Ω 11), .ref (Ω 12), .ref (Ω 13)]))) := ⟨_, rfl⟩
  rw [← e_2] at hX
  have k_3 : μ_1 (Ω 0) = some (.inr (4, [.int (nI 0), .int (nI (σ 3 0)), .int (nI (σ 4 0)), .int (nI (σ 0 0)), .int (nI (σ 1 0)), .int (nI (σ 2 0)), .ref (Ω 5), .ref (Ω 6), .ref (Ω 7), .ref (Ω 8), .ref (Ω 9), .ref (Ω 10), .ref (Ω 11), .ref (Ω 12), .ref (Ω 13)])) := by rw [e_2]; exact va_up_self _ _ _
  have k_4 := (congrFun e_2 (Ω 5)).trans ((va_up_ne _ _ (Ne.symm (kd_ne r0 r5 rfl))).trans r5)
  have k_5 := (congrFun e_2 (Ω 6)).trans ((va_up_ne _ _ (Ne.symm (kd_ne r0 r6 rfl))).trans r6)
  have k_6 := (congrFun e_2 (Ω 7)).trans ((va_up_ne _ _ (Ne.symm (kd_ne r0 r7 rfl))).trans r7)
  have k_7 := (congrFun e_2 (Ω 8)).trans ((va_up_ne _ _ (Ne.symm (kd_ne r0 r8 rfl))).trans r8)
  have k_8 := (congrFun e_2 (Ω 9)).trans ((va_up_ne _ _ (Ne.symm (kd_ne r0 r9 rfl))).trans r9)
  have k_9 := (congrFun e_2 (Ω 10)).trans ((va_up_ne _ _ (Ne.symm (kd_ne r0 r10 rfl))).trans r10)
  have k_10 := (congrFun e_2 (Ω 11)).trans ((va_up_ne _ _ (Ne.symm (kd_ne r0 r11 rfl))).trans r11)
  have k_11 := (congrFun e_2 (Ω 12)).trans ((va_up_ne _ _ (Ne.symm (kd_ne r0 r12 rfl))).trans r12)
  have k_12 := (congrFun e_2 (Ω 13)).trans ((va_up_ne _ _ (Ne.symm (kd_ne r0 r13 rfl))).trans r13)
  have hM0 : mD g Ω 0 σ μ_1 := ⟨k_3, k_4, k_5, k_6, k_7, k_8, k_9, k_10, k_11, k_12, hD⟩
  refine lv_iload_n hx hb dX3_pass_5 rfl (lv_at hl 1 rfl) ?_
  refine lv_iconst (v := nI 1) hx hb dX3_pass_6 (by decide) ?_
  refine lv_bipush (v := nI 100) hx hb dX3_pass_7 (by decide) ?_
  refine w_call (w_runS (n := 3) (As := [.int x, .int (nI 1), .int (nI 100)]) (rest := []) hx hb hml hown hX (c_X3_isIn l g μ_1 H.size (by decide)) kw686 kw7 kw684 kw685 wn_X3_isIn rfl ⟨Nat.le_of_ble_eq_true rfl, Nat.le_of_ble_eq_true rfl⟩ hl.1 rfl (Nat.le_of_ble_eq_true rfl) dX3_pass_9 ⟨Nat.le_of_ble_eq_true rfl, Nat.le_of_ble_eq_true rfl⟩) hX (fun r_15 μ_13 H locs q_14 hX hz => ?_)
  obtain ⟨q_17, e_16⟩ := q_14
  rw [e_16] at hX
  obtain ⟨rfl, p_18⟩ | ⟨rfl, p_19⟩ := q_17
  · skip
    refine W.eq (g2 := F0 m 12 ls [.int (nI 1)]) rfl ?_
    rw [nI_toInt (by decide)] at p_18
    have bx := (isI.nI (a := 1) (b := 100) p_18).2
    rw [(isI.nI (a := 1) (b := 100) p_18).1] at hl
    refine n_if_ne (tgt := 21) hx hb (by omega) dX3_pass_12 (by decide) (fun _ => ?_) (fun h => absurd h (by omega))
    refine lv_iconst (v := nI 0) hx hb dX3_pass_21 (by decide) ?_
    refine lv_istore_n (lv' := [(2, .int (nI 0)), (0, .ref (Ω 0)), (1, .int (nI (toN x)))]) hx hb dX3_pass_22 rfl hl (by decide) rfl (fun ls hl => ?_)
    refine lv_iconst (v := nI 0) hx hb dX3_pass_23 (by decide) ?_
    refine lv_istore_n (lv' := [(3, .int (nI 0)), (2, .int (nI 0)), (0, .ref (Ω 0)), (1, .int (nI (toN x)))]) hx hb dX3_pass_24 rfl hl (by decide) rfl (fun ls hl => ?_)
    have hloop : ∀ (n : Nat) (i : Nat) (τ : sSt) (ν : wMu) (H : Heap) (locs : List Loc) (ls : Array Slot), σ 3 0 < i + n → i ≤ σ 3 0 → τ = sQ σ (toN x) i 0 0 → mD g Ω 0 τ ν → wX g (wA μ zz) s H locs ν → lv_has ls 5 [(3, .int (nI i)), (2, .int (nI (sFal σ (toN x) i))), (0, .ref (Ω 0)), (1, .int (nI (toN x)))] → W p l e ({ frames := 2, cells := 0, slots := 0, locals := 43 } : Room) s m ([.ref (Ω 0), .int x] : List Value).toArray below meth c H locs 0 0 (MQ below (wQc g μ zz (fun r μ' => ∃ v, r = some (.int v) ∧ mD g Ω (cd1 (isI x 1 100)) (nx (cd1 (isI x 1 100)) (nPas σ (toN x)) σ) μ' ∧ (cd1 (isI x 1 100) = 0 → v = nI (sFal σ (toN x) (σ 3 0))))) ([.ref (Ω 0), .int x] : List Value).toArray s 0 0 (wA μ zz)) (F0 m 25 ls []) := by
      intro n
      induction n with
      | zero => intro i τ ν H locs ls hn hi hτ hM1 hX hl; exact absurd hn (by omega)
      | succ n ih =>
        intro i τ ν H locs ls hn hi hτ hM1 hX hl
        obtain ⟨r0, r5, r6, r7, r8, r9, r10, r11, r12, r13, hD⟩ := id hM1
        have t3_ : τ 3 0 = σ 3 0 := by rw [hτ]; exact sQ_o σ (by omega)
        have t4_ : τ 4 0 = σ 4 0 := by rw [hτ]; exact sQ_o σ (by omega)
        have t0_ : τ 0 0 = σ 0 0 := by rw [hτ]; exact sQ_o σ (by omega)
        refine lv_iload_n hx hb dX3_pass_25 rfl (lv_at hl 0 rfl) ?_
        refine lv_aload_n hx hb dX3_pass_26 rfl (lv_at hl 2 rfl) ?_
        refine gX3_1 hx hb hX hown r0 kw630 dX3_pass_27 ?_
        refine n_ge (tgt := 85) hx hb (by omega) (by omega) dX3_pass_30 (by decide) (fun c_20 => ?_) (fun c_20 => ?_)
        · skip
          refine lv_iconst (v := nI 0) hx hb dX3_pass_85 (by decide) ?_
          refine lv_istore_n (lv' := [(3, .int (nI 0)), (2, .int (nI (sFal σ (toN x) i))), (0, .ref (Ω 0)), (1, .int (nI (toN x)))]) hx hb dX3_pass_86 rfl hl (by decide) rfl (fun ls hl => ?_)
          obtain rfl : i = σ 3 0 := by omega
          have hloop2 : ∀ (n : Nat) (i : Nat) (τ : sSt) (ν : wMu) (H : Heap) (locs : List Loc) (ls : Array Slot), σ 4 0 < i + n → i ≤ σ 4 0 → τ = sQ σ (toN x) (σ 3 0) i i → mD g Ω 0 τ ν → wX g (wA μ zz) s H locs ν → lv_has ls 5 [(3, .int (nI i)), (2, .int (nI (sFal σ (toN x) (σ 3 0)))), (0, .ref (Ω 0)), (1, .int (nI (toN x)))] → W p l e ({ frames := 2, cells := 0, slots := 0, locals := 43 } : Room) s m ([.ref (Ω 0), .int x] : List Value).toArray below meth c H locs 0 0 (MQ below (wQc g μ zz (fun r μ' => ∃ v, r = some (.int v) ∧ mD g Ω (cd1 (isI x 1 100)) (nx (cd1 (isI x 1 100)) (nPas σ (toN x)) σ) μ' ∧ (cd1 (isI x 1 100) = 0 → v = nI (sFal σ (toN x) (σ 3 0))))) ([.ref (Ω 0), .int x] : List Value).toArray s 0 0 (wA μ zz)) (F0 m 87 ls []) := by
            intro n
            induction n with
            | zero => intro i τ ν H locs ls hn hi hτ hM1 hX hl; exact absurd hn (by omega)
            | succ n ih =>
              intro i τ ν H locs ls hn hi hτ hM1 hX hl
              obtain ⟨r0, r5, r6, r7, r8, r9, r10, r11, r12, r13, hD⟩ := id hM1
              have t3_ : τ 3 0 = σ 3 0 := by rw [hτ]; exact sQ_o σ (by omega)
              have t4_ : τ 4 0 = σ 4 0 := by rw [hτ]; exact sQ_o σ (by omega)
              have t0_ : τ 0 0 = σ 0 0 := by rw [hτ]; exact sQ_o σ (by omega)
              refine lv_iload_n hx hb dX3_pass_87 rfl (lv_at hl 0 rfl) ?_
              refine lv_aload_n hx hb dX3_pass_88 rfl (lv_at hl 2 rfl) ?_
              refine gX3_2 hx hb hX hown r0 kw631 dX3_pass_89 ?_
              refine n_ge (tgt := 131) hx hb (by omega) (by omega) dX3_pass_92 (by decide) (fun c_21 => ?_) (fun c_21 => ?_)
              · skip
                refine lv_aload_n hx hb dX3_pass_131 rfl (lv_at hl 2 rfl) ?_
                refine lv_dup hx hb dX3_pass_132 rfl ?_
                refine gX3_3 hx hb hX hown r0 kw632 dX3_pass_133 ?_
                refine lv_iload_n hx hb dX3_pass_136 rfl (lv_at hl 3 rfl) ?_
                refine n_iadd hx hb dX3_pass_137 (nI_add _ _) ?_
                refine pX3_3 hx hb hX hown r0 kw632 dX3_pass_138 (fun H locs hX => ?_)
                obtain ⟨μ_22, e_23⟩ : ∃ z, z = va_up ν (Ω 0) (some (.inr (4, [.int (nI 0), .int (nI (τ 3 0)), .int (nI (τ 4 0)), .int (nI ((τ 0 0) + (toN x))), .int (nI (τ 1 0)), .int (nI (τ 2 0)), .ref (Ω 5), .ref (Ω 6), .ref (Ω 7), .ref (Ω 8), .ref (Ω 9), .ref (Ω 10), .ref (Ω 11), .ref (Ω 12), .ref (Ω 13)]))) := ⟨_, rfl⟩
                rw [← e_23] at hX
                have k_24 : μ_22 (Ω 0) = some (.inr (4, [.int (nI 0), .int (nI (τ 3 0)), .int (nI (τ 4 0)), .int (nI ((τ 0 0) + (toN x))), .int (nI (τ 1 0)), .int (nI (τ 2 0)), .ref (Ω 5), .ref (Ω 6), .ref (Ω 7), .ref (Ω 8), .ref (Ω 9), .ref (Ω 10), .ref (Ω 11), .ref (Ω 12), .ref (Ω 13)])) := by rw [e_23]; exact va_up_self _ _ _
                have k_25 := (congrFun e_23 (Ω 5)).trans ((va_up_ne _ _ (Ne.symm (kd_ne r0 r5 rfl))).trans r5)
                have k_26 := (congrFun e_23 (Ω 6)).trans ((va_up_ne _ _ (Ne.symm (kd_ne r0 r6 rfl))).trans r6)
                have k_27 := (congrFun e_23 (Ω 7)).trans ((va_up_ne _ _ (Ne.symm (kd_ne r0 r7 rfl))).trans r7)
                have k_28 := (congrFun e_23 (Ω 8)).trans ((va_up_ne _ _ (Ne.symm (kd_ne r0 r8 rfl))).trans r8)
                have k_29 := (congrFun e_23 (Ω 9)).trans ((va_up_ne _ _ (Ne.symm (kd_ne r0 r9 rfl))).trans r9)
                have k_30 := (congrFun e_23 (Ω 10)).trans ((va_up_ne _ _ (Ne.symm (kd_ne r0 r10 rfl))).trans r10)
                have k_31 := (congrFun e_23 (Ω 11)).trans ((va_up_ne _ _ (Ne.symm (kd_ne r0 r11 rfl))).trans r11)
                have k_32 := (congrFun e_23 (Ω 12)).trans ((va_up_ne _ _ (Ne.symm (kd_ne r0 r12 rfl))).trans r12)
                have k_33 := (congrFun e_23 (Ω 13)).trans ((va_up_ne _ _ (Ne.symm (kd_ne r0 r13 rfl))).trans r13)
                refine lv_iload_n hx hb dX3_pass_141 rfl (lv_at hl 1 rfl) ?_
                have hcd : cd1 (isI x 1 100) = 0 := cd1_0 p_18
                have hM4 : mD g Ω 0 (up2 τ 0 0 (τ 0 0 + toN x)) μ_22 := ⟨k_24, k_25, k_26, k_27, k_28, k_29, k_30, k_31, k_32, k_33, hD⟩
                obtain rfl : i = σ 4 0 := by omega
                rw [t0_, hτ, sQ_end] at hM4
                exact w_iret hx hb hr hlocks hX ⟨_, rfl, by rw [hcd]; exact hM4, fun _ => rfl⟩ ⟨Nat.le_of_ble_eq_true rfl, Nat.le_of_ble_eq_true rfl⟩ dX3_pass_142
              · skip
                have ocb := o4 i (by omega)
                have t11_ : τ 11 i = σ 11 i := by rw [hτ]; exact sQ_o σ (by omega)
                refine lv_aload_n hx hb dX3_pass_95 rfl (lv_at hl 2 rfl) ?_
                refine gX3_12 hx hb hX hown r0 kw641 dX3_pass_96 ?_
                refine lv_iload_n hx hb dX3_pass_99 rfl (lv_at hl 0 rfl) ?_
                refine lv_iconst (v := nI 0) hx hb dX3_pass_100 (by decide) ?_
                refine lv_aload_n hx hb dX3_pass_101 rfl (lv_at hl 2 rfl) ?_
                refine gX3_12 hx hb hX hown r0 kw641 dX3_pass_102 ?_
                refine lv_iload_n hx hb dX3_pass_105 rfl (lv_at hl 0 rfl) ?_
                refine n_iald hx hb hX r11 (by omega) (by omega) dX3_pass_106 ?_
                refine lv_iload_n hx hb dX3_pass_107 rfl (lv_at hl 3 rfl) ?_
                refine n_isub hx hb dX3_pass_108 rfl ?_
                refine n_mmax hx hb (hml.trans hl.1.symm) hX hown kw738 kStMax kInMath kCdMax ⟨Nat.le_of_ble_eq_true rfl, Nat.le_of_ble_eq_true rfl⟩ ⟨Nat.le_of_ble_eq_true rfl, Nat.le_of_ble_eq_true rfl⟩ dX3_pass_109 (nI_max0 (by omega) (by omega)) ?_
                refine n_iastR (τ := τ) (k := 11) (v := (τ 11 i) - (toN x)) hx hb hX r11 (by omega) (by omega) dX3_pass_112 (fun H locs hX => ?_)
                obtain ⟨μ_34, e_35⟩ : ∃ z, z = va_up ν (Ω 11) (some (.inl (gI g, 10, .inl (fun ii => nI ((up2 τ 11 i ((τ 11 i) - (toN x))) 11 ii))))) := ⟨_, rfl⟩
                rw [← e_35] at hX
                have k_36 : μ_34 (Ω 11) = some (.inl (gI g, 10, .inl (fun ii => nI ((up2 τ 11 i ((τ 11 i) - (toN x))) 11 ii)))) := by rw [e_35]; exact va_up_self _ _ _
                have k_37 := (congrFun e_35 (Ω 0)).trans ((va_up_ne _ _ (kd_ne r0 r11 rfl)).trans r0)
                have k_38 := (congrFun e_35 (Ω 5)).trans ((va_up_ne _ _ (hD 5 11 (by decide) (by decide) (by decide))).trans r5)
                have k_39 := (congrFun e_35 (Ω 6)).trans ((va_up_ne _ _ (hD 6 11 (by decide) (by decide) (by decide))).trans r6)
                have k_40 := (congrFun e_35 (Ω 7)).trans ((va_up_ne _ _ (hD 7 11 (by decide) (by decide) (by decide))).trans r7)
                have k_41 := (congrFun e_35 (Ω 8)).trans ((va_up_ne _ _ (hD 8 11 (by decide) (by decide) (by decide))).trans r8)
                have k_42 := (congrFun e_35 (Ω 9)).trans ((va_up_ne _ _ (hD 9 11 (by decide) (by decide) (by decide))).trans r9)
                have k_43 := (congrFun e_35 (Ω 10)).trans ((va_up_ne _ _ (hD 10 11 (by decide) (by decide) (by decide))).trans r10)
                have k_44 := (congrFun e_35 (Ω 12)).trans ((va_up_ne _ _ (Ne.symm (hD 11 12 (by decide) (by decide) (by decide)))).trans r12)
                have k_45 := (congrFun e_35 (Ω 13)).trans ((va_up_ne _ _ (Ne.symm (hD 11 13 (by decide) (by decide) (by decide)))).trans r13)
                refine lv_aload_n hx hb dX3_pass_113 rfl (lv_at hl 2 rfl) ?_
                refine gX3_11 hx hb hX hown k_37 kw640 dX3_pass_114 ?_
                refine lv_iload_n hx hb dX3_pass_117 rfl (lv_at hl 0 rfl) ?_
                refine lv_aload_n hx hb dX3_pass_118 rfl (lv_at hl 2 rfl) ?_
                refine lv_iload_n hx hb dX3_pass_119 rfl (lv_at hl 0 rfl) ?_
                refine lv_iload_n hx hb dX3_pass_120 rfl (lv_at hl 3 rfl) ?_
                have hM2 : mD g Ω 0 (up2 τ 11 i (τ 11 i - toN x)) μ_34 := ⟨k_37, k_38, k_39, k_40, k_41, k_42, k_43, k_36, k_44, k_45, hD⟩
                rw [t11_, hτ, sQ_d] at hM2
                have hbi : bIn (sQ σ (toN x) (σ 3 0) i (i + 1)) i (toN x) = bIn σ i (toN x) := by unfold bIn; rw [sQ_o σ (f := 0) (by omega), sQ_o σ (f := 9) (by omega), sQ_o σ (f := 10) (by omega)]
                refine w_call (w_runV (n := 2) (As := [.int (nI i), .int (nI (toN x))]) (rest := [.int (nI i), .ref (Ω 10)]) hx hb hml hown hX (c_X3_burstIn l g μ_34 H.size hM2 (sQ_ok hO (by omega) (by omega) (by omega)) (show i < sQ σ (toN x) (σ 3 0) i (i + 1) 4 0 by rw [sQ_o σ (by omega)]; omega) bx.2) kw750 kw7 kw747 kw749 kp33 wn_X3_burstIn rfl k_37 rfl ⟨Nat.le_of_ble_eq_true rfl, Nat.le_of_ble_eq_true rfl⟩ hl.1 rfl (Nat.le_of_ble_eq_true rfl) dX3_pass_121 ⟨Nat.le_of_ble_eq_true rfl, Nat.le_of_ble_eq_true rfl⟩) hX (fun r_48 μ_46 H locs q_47 hX hz => ?_)
                obtain ⟨hrr, e_49⟩ := q_47
                rw [e_49] at hX
                rw [hbi] at hrr
                subst hrr
                refine W.eq (g2 := F0 m 124 ls [.int (nI (bIn σ i (toN x))), .int (nI i), .ref (Ω 10)]) rfl ?_
                obtain ⟨r0, r5, r6, r7, r8, r9, r10, r11, r12, r13, -⟩ := id hM2
                refine n_iastR (τ := (sQ σ (toN x) (σ 3 0) i (i + 1))) (k := 10) (v := bIn σ i (toN x)) hx hb hX r10 (by omega) (by omega) dX3_pass_124 (fun H locs hX => ?_)
                obtain ⟨μ_50, e_51⟩ : ∃ z, z = va_up μ_34 (Ω 10) (some (.inl (gI g, 10, .inl (fun ii => nI ((up2 (sQ σ (toN x) (σ 3 0) i (i + 1)) 10 i (bIn σ i (toN x))) 10 ii))))) := ⟨_, rfl⟩
                rw [← e_51] at hX
                have k_52 : μ_50 (Ω 10) = some (.inl (gI g, 10, .inl (fun ii => nI ((up2 (sQ σ (toN x) (σ 3 0) i (i + 1)) 10 i (bIn σ i (toN x))) 10 ii)))) := by rw [e_51]; exact va_up_self _ _ _
                have k_53 := (congrFun e_51 (Ω 0)).trans ((va_up_ne _ _ (kd_ne r0 r10 rfl)).trans r0)
                have k_54 := (congrFun e_51 (Ω 5)).trans ((va_up_ne _ _ (hD 5 10 (by decide) (by decide) (by decide))).trans r5)
                have k_55 := (congrFun e_51 (Ω 6)).trans ((va_up_ne _ _ (hD 6 10 (by decide) (by decide) (by decide))).trans r6)
                have k_56 := (congrFun e_51 (Ω 7)).trans ((va_up_ne _ _ (hD 7 10 (by decide) (by decide) (by decide))).trans r7)
                have k_57 := (congrFun e_51 (Ω 8)).trans ((va_up_ne _ _ (hD 8 10 (by decide) (by decide) (by decide))).trans r8)
                have k_58 := (congrFun e_51 (Ω 9)).trans ((va_up_ne _ _ (hD 9 10 (by decide) (by decide) (by decide))).trans r9)
                have k_59 := (congrFun e_51 (Ω 11)).trans ((va_up_ne _ _ (Ne.symm (hD 10 11 (by decide) (by decide) (by decide)))).trans r11)
                have k_60 := (congrFun e_51 (Ω 12)).trans ((va_up_ne _ _ (Ne.symm (hD 10 12 (by decide) (by decide) (by decide)))).trans r12)
                have k_61 := (congrFun e_51 (Ω 13)).trans ((va_up_ne _ _ (Ne.symm (hD 10 13 (by decide) (by decide) (by decide)))).trans r13)
                refine lv_iinc (v := nI (i + 1)) (lv' := [(3, .int (nI (i + 1))), (2, .int (nI (sFal σ (toN x) (σ 3 0)))), (0, .ref (Ω 0)), (1, .int (nI (toN x)))]) hx hb dX3_pass_125 hl (k := 0) rfl (nI_inc _) (by decide) rfl (fun ls hl => ?_)
                refine lv_goto (tgt := 87) hx hb dX3_pass_128 (by decide) ?_
                have hM3 : mD g Ω 0 (up2 (sQ σ (toN x) (σ 3 0) i (i + 1)) 10 i (bIn σ i (toN x))) μ_50 := ⟨k_53, k_54, k_55, k_56, k_57, k_58, k_52, k_59, k_60, k_61, hD⟩
                rw [sQ_c] at hM3
                refine ih (i + 1) _ _ H locs ls (by omega) (by omega) rfl hM3 hX ?_
                exact lv_sub hl [0, 1, 2, 3] rfl
          exact hloop2 (σ 4 0 + 1) 0 _ ν _ _ ls (by omega) (by omega) hτ hM1 hX hl
        · skip
          have owb := o3 i (by omega)
          have t5_ : τ 5 i = σ 5 i := by rw [hτ]; exact sQ_o σ (by omega)
          have t6_ : τ 6 i = σ 6 i := by rw [hτ]; exact sQ_o σ (by omega)
          have t7_ : τ 7 i = σ 7 i := by rw [hτ]; exact sQ_o σ (by omega)
          have hm : toN x * τ 6 i ≤ 100 * 9 := Nat.mul_le_mul (by omega) (by omega)
          refine lv_aload_n hx hb dX3_pass_33 rfl (lv_at hl 2 rfl) ?_
          refine gX3_6 hx hb hX hown r0 kw635 dX3_pass_34 ?_
          refine lv_iload_n hx hb dX3_pass_37 rfl (lv_at hl 0 rfl) ?_
          refine n_iald hx hb hX r5 (by omega) (by omega) dX3_pass_38 ?_
          refine lv_aload_n hx hb dX3_pass_39 rfl (lv_at hl 2 rfl) ?_
          refine gX3_8 hx hb hX hown r0 kw637 dX3_pass_40 ?_
          refine lv_iload_n hx hb dX3_pass_43 rfl (lv_at hl 0 rfl) ?_
          refine n_iald hx hb hX r7 (by omega) (by omega) dX3_pass_44 ?_
          refine lv_iload_n hx hb dX3_pass_45 rfl (lv_at hl 3 rfl) ?_
          refine lv_aload_n hx hb dX3_pass_46 rfl (lv_at hl 2 rfl) ?_
          refine gX3_7 hx hb hX hown r0 kw636 dX3_pass_47 ?_
          refine lv_iload_n hx hb dX3_pass_50 rfl (lv_at hl 0 rfl) ?_
          refine n_iald hx hb hX r6 (by omega) (by omega) dX3_pass_51 ?_
          refine n_imul hx hb dX3_pass_52 (pk_mul _ _) ?_
          refine n_iadd hx hb dX3_pass_53 (nI_add _ _) ?_
          refine n_mmin hx hb (hml.trans hl.1.symm) hX hown kw737 kStMin kInMath kCdMin ⟨Nat.le_of_ble_eq_true rfl, Nat.le_of_ble_eq_true rfl⟩ ⟨Nat.le_of_ble_eq_true rfl, Nat.le_of_ble_eq_true rfl⟩ dX3_pass_54 (nI_min (by omega) (by omega)) ?_
          refine lv_istore (lv' := [(4, .int (nI (min (τ 5 i) ((τ 7 i) + ((toN x) * (τ 6 i)))))), (3, .int (nI i)), (2, .int (nI (sFal σ (toN x) i))), (0, .ref (Ω 0)), (1, .int (nI (toN x)))]) hx hb dX3_pass_57 hl (by decide) rfl (fun ls hl => ?_)
          refine lv_iload_n hx hb dX3_pass_59 rfl (lv_at hl 2 rfl) ?_
          refine lv_iload hx hb dX3_pass_60 (lv_at hl 0 rfl) ?_
          refine lv_aload_n hx hb dX3_pass_62 rfl (lv_at hl 3 rfl) ?_
          refine gX3_8 hx hb hX hown r0 kw637 dX3_pass_63 ?_
          refine lv_iload_n hx hb dX3_pass_66 rfl (lv_at hl 1 rfl) ?_
          refine n_iald hx hb hX r7 (by omega) (by omega) dX3_pass_67 ?_
          refine n_isub hx hb dX3_pass_68 (pk_sub (by omega)) ?_
          refine n_iadd hx hb dX3_pass_69 (nI_add _ _) ?_
          refine lv_istore_n (lv' := [(2, .int (nI ((sFal σ (toN x) i) + ((min (τ 5 i) ((τ 7 i) + ((toN x) * (τ 6 i)))) - (τ 7 i))))), (4, .int (nI (min (τ 5 i) ((τ 7 i) + ((toN x) * (τ 6 i)))))), (3, .int (nI i)), (0, .ref (Ω 0)), (1, .int (nI (toN x)))]) hx hb dX3_pass_70 rfl hl (by decide) rfl (fun ls hl => ?_)
          refine lv_aload_n hx hb dX3_pass_71 rfl (lv_at hl 3 rfl) ?_
          refine gX3_8 hx hb hX hown r0 kw637 dX3_pass_72 ?_
          refine lv_iload_n hx hb dX3_pass_75 rfl (lv_at hl 2 rfl) ?_
          refine lv_iload hx hb dX3_pass_76 (lv_at hl 1 rfl) ?_
          refine n_iastR (τ := τ) (k := 7) (v := min (τ 5 i) ((τ 7 i) + ((toN x) * (τ 6 i)))) hx hb hX r7 (by omega) (by omega) dX3_pass_78 (fun H locs hX => ?_)
          obtain ⟨μ_62, e_63⟩ : ∃ z, z = va_up ν (Ω 7) (some (.inl (gI g, 4, .inl (fun ii => nI ((up2 τ 7 i (min (τ 5 i) ((τ 7 i) + ((toN x) * (τ 6 i))))) 7 ii))))) := ⟨_, rfl⟩
          rw [← e_63] at hX
          have k_64 : μ_62 (Ω 7) = some (.inl (gI g, 4, .inl (fun ii => nI ((up2 τ 7 i (min (τ 5 i) ((τ 7 i) + ((toN x) * (τ 6 i))))) 7 ii)))) := by rw [e_63]; exact va_up_self _ _ _
          have k_65 := (congrFun e_63 (Ω 0)).trans ((va_up_ne _ _ (kd_ne r0 r7 rfl)).trans r0)
          have k_66 := (congrFun e_63 (Ω 5)).trans ((va_up_ne _ _ (hD 5 7 (by decide) (by decide) (by decide))).trans r5)
          have k_67 := (congrFun e_63 (Ω 6)).trans ((va_up_ne _ _ (hD 6 7 (by decide) (by decide) (by decide))).trans r6)
          have k_68 := (congrFun e_63 (Ω 8)).trans ((va_up_ne _ _ (Ne.symm (hD 7 8 (by decide) (by decide) (by decide)))).trans r8)
          have k_69 := (congrFun e_63 (Ω 9)).trans ((va_up_ne _ _ (Ne.symm (hD 7 9 (by decide) (by decide) (by decide)))).trans r9)
          have k_70 := (congrFun e_63 (Ω 10)).trans ((va_up_ne _ _ (Ne.symm (hD 7 10 (by decide) (by decide) (by decide)))).trans r10)
          have k_71 := (congrFun e_63 (Ω 11)).trans ((va_up_ne _ _ (Ne.symm (hD 7 11 (by decide) (by decide) (by decide)))).trans r11)
          have k_72 := (congrFun e_63 (Ω 12)).trans ((va_up_ne _ _ (Ne.symm (hD 7 12 (by decide) (by decide) (by decide)))).trans r12)
          have k_73 := (congrFun e_63 (Ω 13)).trans ((va_up_ne _ _ (Ne.symm (hD 7 13 (by decide) (by decide) (by decide)))).trans r13)
          refine lv_iinc (v := nI (i + 1)) (lv' := [(3, .int (nI (i + 1))), (2, .int (nI ((sFal σ (toN x) i) + ((min (τ 5 i) ((τ 7 i) + ((toN x) * (τ 6 i)))) - (τ 7 i))))), (4, .int (nI (min (τ 5 i) ((τ 7 i) + ((toN x) * (τ 6 i)))))), (0, .ref (Ω 0)), (1, .int (nI (toN x)))]) hx hb dX3_pass_79 hl (k := 2) rfl (nI_inc _) (by decide) rfl (fun ls hl => ?_)
          refine lv_goto (tgt := 25) hx hb dX3_pass_82 (by decide) ?_
          have hde : min (τ 5 i) (τ 7 i + toN x * τ 6 i) = dIn σ i (toN x) := by rw [t5_, t6_, t7_]; rfl
          have hM2 : mD g Ω 0 (up2 τ 7 i (min (τ 5 i) (τ 7 i + toN x * τ 6 i))) μ_62 := ⟨k_65, k_66, k_67, k_64, k_68, k_69, k_70, k_71, k_72, k_73, hD⟩
          rw [hde, hτ, sQ_a] at hM2
          rw [show (sFal σ (toN x) i) + ((min (τ 5 i) ((τ 7 i) + ((toN x) * (τ 6 i)))) - (τ 7 i)) = sFal σ (toN x) (i + 1) by simp only [sFal]; rw [← hde, t7_]] at hl
          refine ih (i + 1) _ _ H locs ls (by omega) (by omega) rfl hM2 hX ?_
          exact lv_sub hl [0, 1, 3, 4] rfl
    exact hloop (σ 3 0 + 1) 0 σ μ_1 H _ ls (by omega) (by omega) (sQ_0 σ _).symm hM0 hX hl
  · skip
    refine W.eq (g2 := F0 m 12 ls [.int (nI 0)]) rfl ?_
    rw [nI_toInt (by decide)] at p_19
    refine n_if_ne (tgt := 21) hx hb (by omega) dX3_pass_12 (by decide) (fun h => absurd h (by omega)) (fun _ => ?_)
    refine lv_aload_n hx hb dX3_pass_15 rfl (lv_at hl 0 rfl) ?_
    refine lv_iconst (v := nI 1) hx hb dX3_pass_16 (by decide) ?_
    refine w_call (w_runV (n := 1) (As := [.int (nI 1)]) (rest := []) hx hb hml hown hX (c_X3_no l g μ_1 H.size hM0 hO) kw690 kw7 kw687 kw689 kp26 wn_X3_no rfl k_3 rfl ⟨Nat.le_of_ble_eq_true rfl, Nat.le_of_ble_eq_true rfl⟩ hl.1 rfl (Nat.le_of_ble_eq_true rfl) dX3_pass_17 ⟨Nat.le_of_ble_eq_true rfl, Nat.le_of_ble_eq_true rfl⟩) hX (fun r_76 μ_74 H locs q_75 hX hz => ?_)
    obtain ⟨rfl, hMk⟩ := q_75
    refine W.eq (g2 := F0 m 20 ls [.int (nI 0)]) rfl ?_
    have hcd : cd1 (isI x 1 100) = 1 := cd1_1 p_19
    exact w_iret hx hb hr hlocks hX ⟨_, rfl, by rw [hcd]; exact hMk, fun z => by rw [hcd] at z; cases z⟩ ⟨Nat.le_of_ble_eq_true rfl, Nat.le_of_ble_eq_true rfl⟩ dX3_pass_20

