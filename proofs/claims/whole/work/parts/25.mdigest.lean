theorem W_cs {p : Program} {l : Launch} {e : Env} {R : Room} {s : State} {m : MethodId} {args : Array Value} {below : List Frame} {meth : Method} {c : Code} {H : Heap} {locs : List Loc} {cells slots c2 s2 : Nat} {Q : State → Prop} {F : JFrame} (h1 : cells = c2) (h2 : slots = s2) (k : W p l e R s m args below meth c H locs c2 s2 Q F) : W p l e R s m args below meth c H locs cells slots Q F := by
  subst h1
  subst h2
  exact k
set_option maxHeartbeats 4000000 in
set_option maxRecDepth 100000 in
/-- the digest -/
theorem c_X3_digest (l : Launch) (g : wG) (μ : wMu) (zz : Nat) {Ω : Nat → Nat} {σ : sSt} {th : Nat} (hM : mD g Ω th σ μ) (hO : sOk σ)  : wMet l yX3_digest cX3_digest 10 (some .long) 4 11 108 98 g [.ref (Ω 0)] μ zz (fun r μ' => r = some (.long (vDig σ)) ∧ mD g Ω 0 σ μ') := by
  refine wMet.of (by decide) (Nat.le_of_ble_eq_true rfl) ?_
  intro p e s m below meth c ls hx hb hr hml hown hlocks hin hl hsz hX
  have hl : lv_has ls 10 [(0, .ref (Ω 0))] := hl
  obtain ⟨r0, r5, r6, r7, r8, r9, r10, r11, r12, r13, hD⟩ := id hM
  obtain ⟨o1, o2, o3, o4, o5, o6, o7⟩ := id hO
  refine lv_aload_n hx hb dX3_digest_0 rfl (lv_at hl 0 rfl) ?_
  refine lv_iconst (v := nI 0) hx hb dX3_digest_1 (by decide) ?_
  refine pX3_0 hx hb hX hown r0 kw629 dX3_digest_2 (fun H locs hX => ?_)
  obtain ⟨μ_1, e_2⟩ : ∃ z, z = va_up μ (Ω 0) (some (.inr (4, [.int (nI 0), .int (nI (σ 3 0)), .int (nI (σ 4 0)), .int (nI (σ 0 0)), .int (nI (σ 1 0)), .int (nI (σ 2 0)), .ref (Ω 5), .ref (Ω 6), .ref (Ω 7), .ref (Ω 8), .ref (Ω 9), .ref (Ω 10), .ref (Ω 11), .ref (Ω 12), .ref (Ω 13)]))) := ⟨_, rfl⟩
  rw [← e_2] at hX
  have k_3 : μ_1 (Ω 0) = some (.inr (4, [.int (nI 0), .int (nI (σ 3 0)), .int (nI (σ 4 0)), .int (nI (σ 0 0)), .int (nI (σ 1 0)), .int (nI (σ 2 0)), .ref (Ω 5), .ref (Ω 6), .ref (Ω 7), .ref (Ω 8), .ref (Ω 9), .ref (Ω 10), .ref (Ω 11), .ref (Ω 12), .ref (Ω 13)])) := by rw [e_2]; exact va_up_self _ _ _
  have k_4 := (congrFun e_2 (Ω 5)).trans ((va_up_ne _ _ (Ne.symm (kd_ne r0 r5 rfl))).trans r5)
  have k_5 := (congrFun e_2 (Ω 6)).trans ((va_up_ne _ _ (Ne.symm (kd_ne r0 r6 rfl))).trans r6)
  have k_6 := (congrFun e_2 (Ω 7)).trans ((va_up_ne _ _ (Ne.symm (kd_ne r0 r7 rfl))).trans r7)
  have k_7 := (congrFun e_2 (Ω 8)).trans ((va_up_ne _ _ (Ne.symm (kd_ne r0 r8 rfl))).trans r8)
  have k_8 := (congrFun e_2 (Ω 9)).trans ((va_up_ne _ _ (Ne.symm (kd_ne r0 r9 rfl))).trans r9)
  have k_9 := (congrFun e_2 (Ω 10)).trans ((va_up_ne _ _ (Ne.symm (kd_ne r0 r10 rfl))).trans r10)
  have k_10 := (congrFun e_2 (Ω 11)).trans ((va_up_ne _ _ (Ne.symm (kd_ne r0 r11 rfl))).trans r11)
  have k_11 := (congrFun e_2 (Ω 12)).trans ((va_up_ne _ _ (Ne.symm (kd_ne r0 r12 rfl))).trans r12)
  have k_12 := (congrFun e_2 (Ω 13)).trans ((va_up_ne _ _ (Ne.symm (kd_ne r0 r13 rfl))).trans r13)
  have hM0 : mD g Ω 0 σ μ_1 := ⟨k_3, k_4, k_5, k_6, k_7, k_8, k_9, k_10, k_11, k_12, hD⟩
  refine lv_bipush (v := nI 8) hx hb dX3_digest_5 (by decide) ?_
  refine n_newI hx hb hX kw675 (by decide) (show _ ≤ 11 by omega) (show _ ≤ 108 by omega) dX3_digest_7 (fun q_13 H hq_14 hX => ?_)
  have ne_15 : (Ω 0) ≠ q_13 := fun z => by have h9 := k_3; rw [z, hq_14] at h9; cases h9
  have ne_16 : (Ω 5) ≠ q_13 := fun z => by have h9 := k_4; rw [z, hq_14] at h9; cases h9
  have ne_17 : (Ω 6) ≠ q_13 := fun z => by have h9 := k_5; rw [z, hq_14] at h9; cases h9
  have ne_18 : (Ω 7) ≠ q_13 := fun z => by have h9 := k_6; rw [z, hq_14] at h9; cases h9
  have ne_19 : (Ω 8) ≠ q_13 := fun z => by have h9 := k_7; rw [z, hq_14] at h9; cases h9
  have ne_20 : (Ω 9) ≠ q_13 := fun z => by have h9 := k_8; rw [z, hq_14] at h9; cases h9
  have ne_21 : (Ω 10) ≠ q_13 := fun z => by have h9 := k_9; rw [z, hq_14] at h9; cases h9
  have ne_22 : (Ω 11) ≠ q_13 := fun z => by have h9 := k_10; rw [z, hq_14] at h9; cases h9
  have ne_23 : (Ω 12) ≠ q_13 := fun z => by have h9 := k_11; rw [z, hq_14] at h9; cases h9
  have ne_24 : (Ω 13) ≠ q_13 := fun z => by have h9 := k_12; rw [z, hq_14] at h9; cases h9
  obtain ⟨μ_25, e_26⟩ : ∃ z, z = va_up μ_1 q_13 (some (.inl (gI g, 8, .inl (fun _ => 0)))) := ⟨_, rfl⟩
  rw [← e_26] at hX
  have k_27 : μ_25 q_13 = some (.inl (gI g, 8, .inl (fun _ => 0))) := by rw [e_26]; exact va_up_self _ _ _
  have k_28 := (congrFun e_26 (Ω 0)).trans ((va_up_ne _ _ ne_15).trans k_3)
  have k_29 := (congrFun e_26 (Ω 5)).trans ((va_up_ne _ _ ne_16).trans k_4)
  have k_30 := (congrFun e_26 (Ω 6)).trans ((va_up_ne _ _ ne_17).trans k_5)
  have k_31 := (congrFun e_26 (Ω 7)).trans ((va_up_ne _ _ ne_18).trans k_6)
  have k_32 := (congrFun e_26 (Ω 8)).trans ((va_up_ne _ _ ne_19).trans k_7)
  have k_33 := (congrFun e_26 (Ω 9)).trans ((va_up_ne _ _ ne_20).trans k_8)
  have k_34 := (congrFun e_26 (Ω 10)).trans ((va_up_ne _ _ ne_21).trans k_9)
  have k_35 := (congrFun e_26 (Ω 11)).trans ((va_up_ne _ _ ne_22).trans k_10)
  have k_36 := (congrFun e_26 (Ω 12)).trans ((va_up_ne _ _ ne_23).trans k_11)
  have k_37 := (congrFun e_26 (Ω 13)).trans ((va_up_ne _ _ ne_24).trans k_12)
  refine W.eq (g2 := F0 m 9 ls [.ref q_13]) rfl ?_
  refine lv_dup hx hb dX3_digest_9 rfl ?_
  refine lv_iconst (v := nI 0) hx hb dX3_digest_10 (by decide) ?_
  refine lv_aload_n hx hb dX3_digest_11 rfl (lv_at hl 0 rfl) ?_
  refine gX3_3 hx hb hX hown k_28 kw632 dX3_digest_12 ?_
  refine n_iast hx hb hX k_27 (by decide) (by decide) dX3_digest_15 (fun H locs hX => ?_)
  obtain ⟨f_38, hf_39⟩ : ∃ z, z = upd (fun _ => 0) 0 (nI (σ 0 0)) := ⟨_, rfl⟩
  rw [← hf_39] at hX
  have w_40 : f_38 0 = nI (σ 0 0) := by rw [hf_39]; exact updS
  obtain ⟨μ_41, e_42⟩ : ∃ z, z = va_up μ_25 q_13 (some (.inl (gI g, 8, .inl f_38))) := ⟨_, rfl⟩
  rw [← e_42] at hX
  have k_43 : μ_41 q_13 = some (.inl (gI g, 8, .inl f_38)) := by rw [e_42]; exact va_up_self _ _ _
  have k_44 := (congrFun e_42 (Ω 0)).trans ((va_up_ne _ _ ne_15).trans k_28)
  have k_45 := (congrFun e_42 (Ω 5)).trans ((va_up_ne _ _ ne_16).trans k_29)
  have k_46 := (congrFun e_42 (Ω 6)).trans ((va_up_ne _ _ ne_17).trans k_30)
  have k_47 := (congrFun e_42 (Ω 7)).trans ((va_up_ne _ _ ne_18).trans k_31)
  have k_48 := (congrFun e_42 (Ω 8)).trans ((va_up_ne _ _ ne_19).trans k_32)
  have k_49 := (congrFun e_42 (Ω 9)).trans ((va_up_ne _ _ ne_20).trans k_33)
  have k_50 := (congrFun e_42 (Ω 10)).trans ((va_up_ne _ _ ne_21).trans k_34)
  have k_51 := (congrFun e_42 (Ω 11)).trans ((va_up_ne _ _ ne_22).trans k_35)
  have k_52 := (congrFun e_42 (Ω 12)).trans ((va_up_ne _ _ ne_23).trans k_36)
  have k_53 := (congrFun e_42 (Ω 13)).trans ((va_up_ne _ _ ne_24).trans k_37)
  refine lv_dup hx hb dX3_digest_16 rfl ?_
  refine lv_iconst (v := nI 1) hx hb dX3_digest_17 (by decide) ?_
  refine lv_aload_n hx hb dX3_digest_18 rfl (lv_at hl 0 rfl) ?_
  refine gX3_3 hx hb hX hown k_44 kw632 dX3_digest_19 ?_
  refine w_call (w_runS (n := 1) (As := [.int (nI (σ 0 0))]) (rest := [.int (nI 1), .ref q_13, .ref q_13]) hx hb hml hown hX (c_X3_dayOf l g μ_41 H.size (by omega)) kw701 kw7 kw699 kw700 wn_X3_dayOf rfl ⟨Nat.le_of_ble_eq_true rfl, Nat.le_of_ble_eq_true rfl⟩ hl.1 rfl (Nat.le_of_ble_eq_true rfl) dX3_digest_22 ⟨(show _ ≤ 11 by omega), (show _ ≤ 108 by omega)⟩) hX (fun r_56 μ_54 H locs q_55 hX hz => ?_)
  obtain ⟨rfl, e_57⟩ := q_55
  rw [e_57] at hX
  refine W.eq (g2 := F0 m 25 ls [.int (nI (σ 0 0 / 24)), .int (nI 1), .ref q_13, .ref q_13]) rfl ?_
  refine n_iast hx hb hX k_43 (by decide) (by decide) dX3_digest_25 (fun H locs hX => ?_)
  obtain ⟨f_58, hf_59⟩ : ∃ z, z = upd f_38 1 (nI (σ 0 0 / 24)) := ⟨_, rfl⟩
  rw [← hf_59] at hX
  have w_60 : f_58 0 = nI (σ 0 0) := by rw [hf_59]; exact (updN (by decide)).trans w_40
  have w_61 : f_58 1 = nI (σ 0 0 / 24) := by rw [hf_59]; exact updS
  obtain ⟨μ_62, e_63⟩ : ∃ z, z = va_up μ_41 q_13 (some (.inl (gI g, 8, .inl f_58))) := ⟨_, rfl⟩
  rw [← e_63] at hX
  have k_64 : μ_62 q_13 = some (.inl (gI g, 8, .inl f_58)) := by rw [e_63]; exact va_up_self _ _ _
  have k_65 := (congrFun e_63 (Ω 0)).trans ((va_up_ne _ _ ne_15).trans k_44)
  have k_66 := (congrFun e_63 (Ω 5)).trans ((va_up_ne _ _ ne_16).trans k_45)
  have k_67 := (congrFun e_63 (Ω 6)).trans ((va_up_ne _ _ ne_17).trans k_46)
  have k_68 := (congrFun e_63 (Ω 7)).trans ((va_up_ne _ _ ne_18).trans k_47)
  have k_69 := (congrFun e_63 (Ω 8)).trans ((va_up_ne _ _ ne_19).trans k_48)
  have k_70 := (congrFun e_63 (Ω 9)).trans ((va_up_ne _ _ ne_20).trans k_49)
  have k_71 := (congrFun e_63 (Ω 10)).trans ((va_up_ne _ _ ne_21).trans k_50)
  have k_72 := (congrFun e_63 (Ω 11)).trans ((va_up_ne _ _ ne_22).trans k_51)
  have k_73 := (congrFun e_63 (Ω 12)).trans ((va_up_ne _ _ ne_23).trans k_52)
  have k_74 := (congrFun e_63 (Ω 13)).trans ((va_up_ne _ _ ne_24).trans k_53)
  refine lv_dup hx hb dX3_digest_26 rfl ?_
  refine lv_iconst (v := nI 2) hx hb dX3_digest_27 (by decide) ?_
  refine lv_aload_n hx hb dX3_digest_28 rfl (lv_at hl 0 rfl) ?_
  refine gX3_1 hx hb hX hown k_65 kw630 dX3_digest_29 ?_
  refine n_iast hx hb hX k_64 (by decide) (by decide) dX3_digest_32 (fun H locs hX => ?_)
  obtain ⟨f_75, hf_76⟩ : ∃ z, z = upd f_58 2 (nI (σ 3 0)) := ⟨_, rfl⟩
  rw [← hf_76] at hX
  have w_77 : f_75 0 = nI (σ 0 0) := by rw [hf_76]; exact (updN (by decide)).trans w_60
  have w_78 : f_75 1 = nI (σ 0 0 / 24) := by rw [hf_76]; exact (updN (by decide)).trans w_61
  have w_79 : f_75 2 = nI (σ 3 0) := by rw [hf_76]; exact updS
  obtain ⟨μ_80, e_81⟩ : ∃ z, z = va_up μ_62 q_13 (some (.inl (gI g, 8, .inl f_75))) := ⟨_, rfl⟩
  rw [← e_81] at hX
  have k_82 : μ_80 q_13 = some (.inl (gI g, 8, .inl f_75)) := by rw [e_81]; exact va_up_self _ _ _
  have k_83 := (congrFun e_81 (Ω 0)).trans ((va_up_ne _ _ ne_15).trans k_65)
  have k_84 := (congrFun e_81 (Ω 5)).trans ((va_up_ne _ _ ne_16).trans k_66)
  have k_85 := (congrFun e_81 (Ω 6)).trans ((va_up_ne _ _ ne_17).trans k_67)
  have k_86 := (congrFun e_81 (Ω 7)).trans ((va_up_ne _ _ ne_18).trans k_68)
  have k_87 := (congrFun e_81 (Ω 8)).trans ((va_up_ne _ _ ne_19).trans k_69)
  have k_88 := (congrFun e_81 (Ω 9)).trans ((va_up_ne _ _ ne_20).trans k_70)
  have k_89 := (congrFun e_81 (Ω 10)).trans ((va_up_ne _ _ ne_21).trans k_71)
  have k_90 := (congrFun e_81 (Ω 11)).trans ((va_up_ne _ _ ne_22).trans k_72)
  have k_91 := (congrFun e_81 (Ω 12)).trans ((va_up_ne _ _ ne_23).trans k_73)
  have k_92 := (congrFun e_81 (Ω 13)).trans ((va_up_ne _ _ ne_24).trans k_74)
  refine lv_dup hx hb dX3_digest_33 rfl ?_
  refine lv_iconst (v := nI 3) hx hb dX3_digest_34 (by decide) ?_
  refine lv_aload_n hx hb dX3_digest_35 rfl (lv_at hl 0 rfl) ?_
  refine gX3_2 hx hb hX hown k_83 kw631 dX3_digest_36 ?_
  refine n_iast hx hb hX k_82 (by decide) (by decide) dX3_digest_39 (fun H locs hX => ?_)
  obtain ⟨f_93, hf_94⟩ : ∃ z, z = upd f_75 3 (nI (σ 4 0)) := ⟨_, rfl⟩
  rw [← hf_94] at hX
  have w_95 : f_93 0 = nI (σ 0 0) := by rw [hf_94]; exact (updN (by decide)).trans w_77
  have w_96 : f_93 1 = nI (σ 0 0 / 24) := by rw [hf_94]; exact (updN (by decide)).trans w_78
  have w_97 : f_93 2 = nI (σ 3 0) := by rw [hf_94]; exact (updN (by decide)).trans w_79
  have w_98 : f_93 3 = nI (σ 4 0) := by rw [hf_94]; exact updS
  obtain ⟨μ_99, e_100⟩ : ∃ z, z = va_up μ_80 q_13 (some (.inl (gI g, 8, .inl f_93))) := ⟨_, rfl⟩
  rw [← e_100] at hX
  have k_101 : μ_99 q_13 = some (.inl (gI g, 8, .inl f_93)) := by rw [e_100]; exact va_up_self _ _ _
  have k_102 := (congrFun e_100 (Ω 0)).trans ((va_up_ne _ _ ne_15).trans k_83)
  have k_103 := (congrFun e_100 (Ω 5)).trans ((va_up_ne _ _ ne_16).trans k_84)
  have k_104 := (congrFun e_100 (Ω 6)).trans ((va_up_ne _ _ ne_17).trans k_85)
  have k_105 := (congrFun e_100 (Ω 7)).trans ((va_up_ne _ _ ne_18).trans k_86)
  have k_106 := (congrFun e_100 (Ω 8)).trans ((va_up_ne _ _ ne_19).trans k_87)
  have k_107 := (congrFun e_100 (Ω 9)).trans ((va_up_ne _ _ ne_20).trans k_88)
  have k_108 := (congrFun e_100 (Ω 10)).trans ((va_up_ne _ _ ne_21).trans k_89)
  have k_109 := (congrFun e_100 (Ω 11)).trans ((va_up_ne _ _ ne_22).trans k_90)
  have k_110 := (congrFun e_100 (Ω 12)).trans ((va_up_ne _ _ ne_23).trans k_91)
  have k_111 := (congrFun e_100 (Ω 13)).trans ((va_up_ne _ _ ne_24).trans k_92)
  refine lv_dup hx hb dX3_digest_40 rfl ?_
  refine lv_iconst (v := nI 4) hx hb dX3_digest_41 (by decide) ?_
  refine lv_aload_n hx hb dX3_digest_42 rfl (lv_at hl 0 rfl) ?_
  refine gX3_4 hx hb hX hown k_102 kw633 dX3_digest_43 ?_
  refine n_iast hx hb hX k_101 (by decide) (by decide) dX3_digest_46 (fun H locs hX => ?_)
  obtain ⟨f_112, hf_113⟩ : ∃ z, z = upd f_93 4 (nI (σ 1 0)) := ⟨_, rfl⟩
  rw [← hf_113] at hX
  have w_114 : f_112 0 = nI (σ 0 0) := by rw [hf_113]; exact (updN (by decide)).trans w_95
  have w_115 : f_112 1 = nI (σ 0 0 / 24) := by rw [hf_113]; exact (updN (by decide)).trans w_96
  have w_116 : f_112 2 = nI (σ 3 0) := by rw [hf_113]; exact (updN (by decide)).trans w_97
  have w_117 : f_112 3 = nI (σ 4 0) := by rw [hf_113]; exact (updN (by decide)).trans w_98
  have w_118 : f_112 4 = nI (σ 1 0) := by rw [hf_113]; exact updS
  obtain ⟨μ_119, e_120⟩ : ∃ z, z = va_up μ_99 q_13 (some (.inl (gI g, 8, .inl f_112))) := ⟨_, rfl⟩
  rw [← e_120] at hX
  have k_121 : μ_119 q_13 = some (.inl (gI g, 8, .inl f_112)) := by rw [e_120]; exact va_up_self _ _ _
  have k_122 := (congrFun e_120 (Ω 0)).trans ((va_up_ne _ _ ne_15).trans k_102)
  have k_123 := (congrFun e_120 (Ω 5)).trans ((va_up_ne _ _ ne_16).trans k_103)
  have k_124 := (congrFun e_120 (Ω 6)).trans ((va_up_ne _ _ ne_17).trans k_104)
  have k_125 := (congrFun e_120 (Ω 7)).trans ((va_up_ne _ _ ne_18).trans k_105)
  have k_126 := (congrFun e_120 (Ω 8)).trans ((va_up_ne _ _ ne_19).trans k_106)
  have k_127 := (congrFun e_120 (Ω 9)).trans ((va_up_ne _ _ ne_20).trans k_107)
  have k_128 := (congrFun e_120 (Ω 10)).trans ((va_up_ne _ _ ne_21).trans k_108)
  have k_129 := (congrFun e_120 (Ω 11)).trans ((va_up_ne _ _ ne_22).trans k_109)
  have k_130 := (congrFun e_120 (Ω 12)).trans ((va_up_ne _ _ ne_23).trans k_110)
  have k_131 := (congrFun e_120 (Ω 13)).trans ((va_up_ne _ _ ne_24).trans k_111)
  refine lv_dup hx hb dX3_digest_47 rfl ?_
  refine lv_iconst (v := nI 5) hx hb dX3_digest_48 (by decide) ?_
  refine lv_aload_n hx hb dX3_digest_49 rfl (lv_at hl 0 rfl) ?_
  refine gX3_5 hx hb hX hown k_122 kw634 dX3_digest_50 ?_
  refine n_iast hx hb hX k_121 (by decide) (by decide) dX3_digest_53 (fun H locs hX => ?_)
  obtain ⟨f_132, hf_133⟩ : ∃ z, z = upd f_112 5 (nI (σ 2 0)) := ⟨_, rfl⟩
  rw [← hf_133] at hX
  have w_134 : f_132 0 = nI (σ 0 0) := by rw [hf_133]; exact (updN (by decide)).trans w_114
  have w_135 : f_132 1 = nI (σ 0 0 / 24) := by rw [hf_133]; exact (updN (by decide)).trans w_115
  have w_136 : f_132 2 = nI (σ 3 0) := by rw [hf_133]; exact (updN (by decide)).trans w_116
  have w_137 : f_132 3 = nI (σ 4 0) := by rw [hf_133]; exact (updN (by decide)).trans w_117
  have w_138 : f_132 4 = nI (σ 1 0) := by rw [hf_133]; exact (updN (by decide)).trans w_118
  have w_139 : f_132 5 = nI (σ 2 0) := by rw [hf_133]; exact updS
  obtain ⟨μ_140, e_141⟩ : ∃ z, z = va_up μ_119 q_13 (some (.inl (gI g, 8, .inl f_132))) := ⟨_, rfl⟩
  rw [← e_141] at hX
  have k_142 : μ_140 q_13 = some (.inl (gI g, 8, .inl f_132)) := by rw [e_141]; exact va_up_self _ _ _
  have k_143 := (congrFun e_141 (Ω 0)).trans ((va_up_ne _ _ ne_15).trans k_122)
  have k_144 := (congrFun e_141 (Ω 5)).trans ((va_up_ne _ _ ne_16).trans k_123)
  have k_145 := (congrFun e_141 (Ω 6)).trans ((va_up_ne _ _ ne_17).trans k_124)
  have k_146 := (congrFun e_141 (Ω 7)).trans ((va_up_ne _ _ ne_18).trans k_125)
  have k_147 := (congrFun e_141 (Ω 8)).trans ((va_up_ne _ _ ne_19).trans k_126)
  have k_148 := (congrFun e_141 (Ω 9)).trans ((va_up_ne _ _ ne_20).trans k_127)
  have k_149 := (congrFun e_141 (Ω 10)).trans ((va_up_ne _ _ ne_21).trans k_128)
  have k_150 := (congrFun e_141 (Ω 11)).trans ((va_up_ne _ _ ne_22).trans k_129)
  have k_151 := (congrFun e_141 (Ω 12)).trans ((va_up_ne _ _ ne_23).trans k_130)
  have k_152 := (congrFun e_141 (Ω 13)).trans ((va_up_ne _ _ ne_24).trans k_131)
  refine lv_dup hx hb dX3_digest_54 rfl ?_
  refine lv_bipush (v := nI 6) hx hb dX3_digest_55 (by decide) ?_
  refine lv_aload_n hx hb dX3_digest_57 rfl (lv_at hl 0 rfl) ?_
  have hM_153 : mD g Ω 0 σ μ_140 := ⟨k_143, k_144, k_145, k_146, k_147, k_148, k_149, k_150, k_151, k_152, hD⟩
  refine w_call (w_runV (n := 0) (As := []) (rest := [.int (nI 6), .ref q_13, .ref q_13]) hx hb hml hown hX (c_X3_manyHeld l g μ_140 H.size hM_153 hO ) kw786 kw7 kw783 kw785 kp35 wn_X3_manyHeld rfl k_143 rfl ⟨Nat.le_of_ble_eq_true rfl, Nat.le_of_ble_eq_true rfl⟩ hl.1 rfl (Nat.le_of_ble_eq_true rfl) dX3_digest_58 ⟨(show _ ≤ 11 by omega), (show _ ≤ 108 by omega)⟩) hX (fun r_156 μ_154 H locs q_155 hX hz => ?_)
  obtain ⟨rfl, e_157⟩ := q_155
  rw [e_157] at hX
  refine W.eq (g2 := F0 m 61 ls [.int (nI (cHel σ (σ 4 0))), .int (nI 6), .ref q_13, .ref q_13]) rfl ?_
  refine n_iast hx hb hX k_142 (by decide) (by decide) dX3_digest_61 (fun H locs hX => ?_)
  obtain ⟨f_158, hf_159⟩ : ∃ z, z = upd f_132 6 (nI (cHel σ (σ 4 0))) := ⟨_, rfl⟩
  rw [← hf_159] at hX
  have w_160 : f_158 0 = nI (σ 0 0) := by rw [hf_159]; exact (updN (by decide)).trans w_134
  have w_161 : f_158 1 = nI (σ 0 0 / 24) := by rw [hf_159]; exact (updN (by decide)).trans w_135
  have w_162 : f_158 2 = nI (σ 3 0) := by rw [hf_159]; exact (updN (by decide)).trans w_136
  have w_163 : f_158 3 = nI (σ 4 0) := by rw [hf_159]; exact (updN (by decide)).trans w_137
  have w_164 : f_158 4 = nI (σ 1 0) := by rw [hf_159]; exact (updN (by decide)).trans w_138
  have w_165 : f_158 5 = nI (σ 2 0) := by rw [hf_159]; exact (updN (by decide)).trans w_139
  have w_166 : f_158 6 = nI (cHel σ (σ 4 0)) := by rw [hf_159]; exact updS
  obtain ⟨μ_167, e_168⟩ : ∃ z, z = va_up μ_140 q_13 (some (.inl (gI g, 8, .inl f_158))) := ⟨_, rfl⟩
  rw [← e_168] at hX
  have k_169 : μ_167 q_13 = some (.inl (gI g, 8, .inl f_158)) := by rw [e_168]; exact va_up_self _ _ _
  have k_170 := (congrFun e_168 (Ω 0)).trans ((va_up_ne _ _ ne_15).trans k_143)
  have k_171 := (congrFun e_168 (Ω 5)).trans ((va_up_ne _ _ ne_16).trans k_144)
  have k_172 := (congrFun e_168 (Ω 6)).trans ((va_up_ne _ _ ne_17).trans k_145)
  have k_173 := (congrFun e_168 (Ω 7)).trans ((va_up_ne _ _ ne_18).trans k_146)
  have k_174 := (congrFun e_168 (Ω 8)).trans ((va_up_ne _ _ ne_19).trans k_147)
  have k_175 := (congrFun e_168 (Ω 9)).trans ((va_up_ne _ _ ne_20).trans k_148)
  have k_176 := (congrFun e_168 (Ω 10)).trans ((va_up_ne _ _ ne_21).trans k_149)
  have k_177 := (congrFun e_168 (Ω 11)).trans ((va_up_ne _ _ ne_22).trans k_150)
  have k_178 := (congrFun e_168 (Ω 12)).trans ((va_up_ne _ _ ne_23).trans k_151)
  have k_179 := (congrFun e_168 (Ω 13)).trans ((va_up_ne _ _ ne_24).trans k_152)
  refine lv_dup hx hb dX3_digest_62 rfl ?_
  refine lv_bipush (v := nI 7) hx hb dX3_digest_63 (by decide) ?_
  refine lv_aload_n hx hb dX3_digest_65 rfl (lv_at hl 0 rfl) ?_
  refine lv_iconst (v := nI 5) hx hb dX3_digest_66 (by decide) ?_
  have hM_180 : mD g Ω 0 σ μ_167 := ⟨k_170, k_171, k_172, k_173, k_174, k_175, k_176, k_177, k_178, k_179, hD⟩
  refine w_call (w_runV (n := 1) (As := [.int (nI 5)]) (rest := [.int (nI 7), .ref q_13, .ref q_13]) hx hb hml hown hX (c_X3_best l g μ_167 H.size hM_180 hO (by omega) (by omega)) kw878 kw7 kw875 kw877 kp44 wn_X3_best rfl k_170 rfl ⟨Nat.le_of_ble_eq_true rfl, Nat.le_of_ble_eq_true rfl⟩ hl.1 rfl (Nat.le_of_ble_eq_true rfl) dX3_digest_67 ⟨(show _ ≤ 11 by omega), (show _ ≤ 108 by omega)⟩) hX (fun r_183 μ_181 H locs q_182 hX hz => ?_)
  obtain ⟨rfl, e_184⟩ := q_182
  rw [e_184] at hX
  refine W.eq (g2 := F0 m 70 ls [.int (vBst σ 5), .int (nI 7), .ref q_13, .ref q_13]) rfl ?_
  refine n_iast hx hb hX k_169 (by decide) (by decide) dX3_digest_70 (fun H locs hX => ?_)
  obtain ⟨f_185, hf_186⟩ : ∃ z, z = upd f_158 7 (vBst σ 5) := ⟨_, rfl⟩
  rw [← hf_186] at hX
  have w_187 : f_185 0 = nI (σ 0 0) := by rw [hf_186]; exact (updN (by decide)).trans w_160
  have w_188 : f_185 1 = nI (σ 0 0 / 24) := by rw [hf_186]; exact (updN (by decide)).trans w_161
  have w_189 : f_185 2 = nI (σ 3 0) := by rw [hf_186]; exact (updN (by decide)).trans w_162
  have w_190 : f_185 3 = nI (σ 4 0) := by rw [hf_186]; exact (updN (by decide)).trans w_163
  have w_191 : f_185 4 = nI (σ 1 0) := by rw [hf_186]; exact (updN (by decide)).trans w_164
  have w_192 : f_185 5 = nI (σ 2 0) := by rw [hf_186]; exact (updN (by decide)).trans w_165
  have w_193 : f_185 6 = nI (cHel σ (σ 4 0)) := by rw [hf_186]; exact (updN (by decide)).trans w_166
  have w_194 : f_185 7 = vBst σ 5 := by rw [hf_186]; exact updS
  obtain ⟨μ_195, e_196⟩ : ∃ z, z = va_up μ_167 q_13 (some (.inl (gI g, 8, .inl f_185))) := ⟨_, rfl⟩
  rw [← e_196] at hX
  have k_197 : μ_195 q_13 = some (.inl (gI g, 8, .inl f_185)) := by rw [e_196]; exact va_up_self _ _ _
  have k_198 := (congrFun e_196 (Ω 0)).trans ((va_up_ne _ _ ne_15).trans k_170)
  have k_199 := (congrFun e_196 (Ω 5)).trans ((va_up_ne _ _ ne_16).trans k_171)
  have k_200 := (congrFun e_196 (Ω 6)).trans ((va_up_ne _ _ ne_17).trans k_172)
  have k_201 := (congrFun e_196 (Ω 7)).trans ((va_up_ne _ _ ne_18).trans k_173)
  have k_202 := (congrFun e_196 (Ω 8)).trans ((va_up_ne _ _ ne_19).trans k_174)
  have k_203 := (congrFun e_196 (Ω 9)).trans ((va_up_ne _ _ ne_20).trans k_175)
  have k_204 := (congrFun e_196 (Ω 10)).trans ((va_up_ne _ _ ne_21).trans k_176)
  have k_205 := (congrFun e_196 (Ω 11)).trans ((va_up_ne _ _ ne_22).trans k_177)
  have k_206 := (congrFun e_196 (Ω 12)).trans ((va_up_ne _ _ ne_23).trans k_178)
  have k_207 := (congrFun e_196 (Ω 13)).trans ((va_up_ne _ _ ne_24).trans k_179)
  refine lv_astore_n (lv' := [(1, .ref q_13), (0, .ref (Ω 0))]) hx hb dX3_digest_71 rfl hl (by decide) rfl (fun ls hl => ?_)
  refine lv_ldc2 (v := 2267) hx hb hown (hX.w kw891) dX3_digest_72 ?_
  refine lv_lstore_n (lv' := [(2, .long (2267 : Int64)), (1, .ref q_13), (0, .ref (Ω 0))]) hx hb dX3_digest_75 rfl hl (by decide) rfl (fun ls hl => ?_)
  refine lv_aload_n hx hb dX3_digest_76 rfl (lv_at hl 1 rfl) ?_
  refine lv_astore (lv' := [(4, .ref q_13), (2, .long (2267 : Int64)), (1, .ref q_13), (0, .ref (Ω 0))]) hx hb dX3_digest_77 hl (by decide) rfl (fun ls hl => ?_)
  refine lv_aload hx hb dX3_digest_79 (lv_at hl 0 rfl) ?_
  refine n_alen hx hb hX k_197 dX3_digest_81 ?_
  refine lv_istore (lv' := [(5, .int (nI 8)), (4, .ref q_13), (2, .long (2267 : Int64)), (1, .ref q_13), (0, .ref (Ω 0))]) hx hb dX3_digest_82 hl (by decide) rfl (fun ls hl => ?_)
  refine lv_iconst (v := nI 0) hx hb dX3_digest_84 (by decide) ?_
  refine lv_istore (lv' := [(6, .int (nI 0)), (5, .int (nI 8)), (4, .ref q_13), (2, .long (2267 : Int64)), (1, .ref q_13), (0, .ref (Ω 0))]) hx hb dX3_digest_85 hl (by decide) rfl (fun ls hl => ?_)
  refine lv_iload hx hb dX3_digest_87 (lv_at hl 0 rfl) ?_
  refine lv_iload hx hb dX3_digest_89 (lv_at hl 1 rfl) ?_
  refine n_ge (tgt := 117) hx hb (by omega) (by omega) dX3_digest_91 (by decide) (fun h => absurd h (by omega)) (fun _ => ?_)
  refine lv_aload hx hb dX3_digest_94 (lv_at hl 2 rfl) ?_
  refine lv_iload hx hb dX3_digest_96 (lv_at hl 0 rfl) ?_
  refine n_iald hx hb hX k_197 (by decide) (by decide) dX3_digest_98 ?_
  refine W.eq (g2 := F0 m 99 ls [.int (nI (σ 0 0))]) (by rw [w_187]) ?_
  refine lv_istore (lv' := [(7, .int (nI (σ 0 0))), (6, .int (nI 0)), (5, .int (nI 8)), (4, .ref q_13), (2, .long (2267 : Int64)), (1, .ref q_13), (0, .ref (Ω 0))]) hx hb dX3_digest_99 hl (by decide) rfl (fun ls hl => ?_)
  refine lv_lload_n hx hb dX3_digest_101 rfl (lv_at hl 4 rfl) ?_
  refine lv_ldc2 (v := 31) hx hb hown (hX.w kw892) dX3_digest_102 ?_
  refine lv_lmul hx hb dX3_digest_105 ?_
  refine lv_iload hx hb dX3_digest_106 (lv_at hl 0 rfl) ?_
  refine lv_i2l hx hb dX3_digest_108 rfl ?_
  refine lv_ladd hx hb dX3_digest_109 ?_
  obtain ⟨dd_208, hd_209⟩ : ∃ z, z = ((2267 : Int64) * (31 : Int64)) + (Int32.toInt64 (nI (σ 0 0))) := ⟨_, rfl⟩
  refine W.eq (g2 := F0 m 110 ls [.long dd_208]) (by rw [hd_209]) ?_
  refine lv_lstore_n (lv' := [(2, .long dd_208), (7, .int (nI (σ 0 0))), (6, .int (nI 0)), (5, .int (nI 8)), (4, .ref q_13), (1, .ref q_13), (0, .ref (Ω 0))]) hx hb dX3_digest_110 rfl hl (by decide) rfl (fun ls hl => ?_)
  refine lv_iinc (v := nI 1) (lv' := [(6, .int (nI 1)), (2, .long dd_208), (7, .int (nI (σ 0 0))), (5, .int (nI 8)), (4, .ref q_13), (1, .ref q_13), (0, .ref (Ω 0))]) hx hb dX3_digest_111 hl (k := 2) rfl (nI_inc _) (by decide) rfl (fun ls hl => ?_)
  refine lv_goto (tgt := 87) hx hb dX3_digest_114 (by decide) ?_
  refine lv_iload hx hb dX3_digest_87 (lv_at hl 0 rfl) ?_
  refine lv_iload hx hb dX3_digest_89 (lv_at hl 3 rfl) ?_
  refine n_ge (tgt := 117) hx hb (by omega) (by omega) dX3_digest_91 (by decide) (fun h => absurd h (by omega)) (fun _ => ?_)
  refine lv_aload hx hb dX3_digest_94 (lv_at hl 4 rfl) ?_
  refine lv_iload hx hb dX3_digest_96 (lv_at hl 0 rfl) ?_
  refine n_iald hx hb hX k_197 (by decide) (by decide) dX3_digest_98 ?_
  refine W.eq (g2 := F0 m 99 ls [.int (nI (σ 0 0 / 24))]) (by rw [w_188]) ?_
  refine lv_istore (lv' := [(7, .int (nI (σ 0 0 / 24))), (6, .int (nI 1)), (2, .long dd_208), (5, .int (nI 8)), (4, .ref q_13), (1, .ref q_13), (0, .ref (Ω 0))]) hx hb dX3_digest_99 hl (by decide) rfl (fun ls hl => ?_)
  refine lv_lload_n hx hb dX3_digest_101 rfl (lv_at hl 2 rfl) ?_
  refine lv_ldc2 (v := 31) hx hb hown (hX.w kw892) dX3_digest_102 ?_
  refine lv_lmul hx hb dX3_digest_105 ?_
  refine lv_iload hx hb dX3_digest_106 (lv_at hl 0 rfl) ?_
  refine lv_i2l hx hb dX3_digest_108 rfl ?_
  refine lv_ladd hx hb dX3_digest_109 ?_
  obtain ⟨dd_210, hd_211⟩ : ∃ z, z = (dd_208 * (31 : Int64)) + (Int32.toInt64 (nI (σ 0 0 / 24))) := ⟨_, rfl⟩
  refine W.eq (g2 := F0 m 110 ls [.long dd_210]) (by rw [hd_211]) ?_
  refine lv_lstore_n (lv' := [(2, .long dd_210), (7, .int (nI (σ 0 0 / 24))), (6, .int (nI 1)), (5, .int (nI 8)), (4, .ref q_13), (1, .ref q_13), (0, .ref (Ω 0))]) hx hb dX3_digest_110 rfl hl (by decide) rfl (fun ls hl => ?_)
  refine lv_iinc (v := nI 2) (lv' := [(6, .int (nI 2)), (2, .long dd_210), (7, .int (nI (σ 0 0 / 24))), (5, .int (nI 8)), (4, .ref q_13), (1, .ref q_13), (0, .ref (Ω 0))]) hx hb dX3_digest_111 hl (k := 2) rfl (nI_inc _) (by decide) rfl (fun ls hl => ?_)
  refine lv_goto (tgt := 87) hx hb dX3_digest_114 (by decide) ?_
  refine lv_iload hx hb dX3_digest_87 (lv_at hl 0 rfl) ?_
  refine lv_iload hx hb dX3_digest_89 (lv_at hl 3 rfl) ?_
  refine n_ge (tgt := 117) hx hb (by omega) (by omega) dX3_digest_91 (by decide) (fun h => absurd h (by omega)) (fun _ => ?_)
  refine lv_aload hx hb dX3_digest_94 (lv_at hl 4 rfl) ?_
  refine lv_iload hx hb dX3_digest_96 (lv_at hl 0 rfl) ?_
  refine n_iald hx hb hX k_197 (by decide) (by decide) dX3_digest_98 ?_
  refine W.eq (g2 := F0 m 99 ls [.int (nI (σ 3 0))]) (by rw [w_189]) ?_
  refine lv_istore (lv' := [(7, .int (nI (σ 3 0))), (6, .int (nI 2)), (2, .long dd_210), (5, .int (nI 8)), (4, .ref q_13), (1, .ref q_13), (0, .ref (Ω 0))]) hx hb dX3_digest_99 hl (by decide) rfl (fun ls hl => ?_)
  refine lv_lload_n hx hb dX3_digest_101 rfl (lv_at hl 2 rfl) ?_
  refine lv_ldc2 (v := 31) hx hb hown (hX.w kw892) dX3_digest_102 ?_
  refine lv_lmul hx hb dX3_digest_105 ?_
  refine lv_iload hx hb dX3_digest_106 (lv_at hl 0 rfl) ?_
  refine lv_i2l hx hb dX3_digest_108 rfl ?_
  refine lv_ladd hx hb dX3_digest_109 ?_
  obtain ⟨dd_212, hd_213⟩ : ∃ z, z = (dd_210 * (31 : Int64)) + (Int32.toInt64 (nI (σ 3 0))) := ⟨_, rfl⟩
  refine W.eq (g2 := F0 m 110 ls [.long dd_212]) (by rw [hd_213]) ?_
  refine lv_lstore_n (lv' := [(2, .long dd_212), (7, .int (nI (σ 3 0))), (6, .int (nI 2)), (5, .int (nI 8)), (4, .ref q_13), (1, .ref q_13), (0, .ref (Ω 0))]) hx hb dX3_digest_110 rfl hl (by decide) rfl (fun ls hl => ?_)
  refine lv_iinc (v := nI 3) (lv' := [(6, .int (nI 3)), (2, .long dd_212), (7, .int (nI (σ 3 0))), (5, .int (nI 8)), (4, .ref q_13), (1, .ref q_13), (0, .ref (Ω 0))]) hx hb dX3_digest_111 hl (k := 2) rfl (nI_inc _) (by decide) rfl (fun ls hl => ?_)
  refine lv_goto (tgt := 87) hx hb dX3_digest_114 (by decide) ?_
  refine lv_iload hx hb dX3_digest_87 (lv_at hl 0 rfl) ?_
  refine lv_iload hx hb dX3_digest_89 (lv_at hl 3 rfl) ?_
  refine n_ge (tgt := 117) hx hb (by omega) (by omega) dX3_digest_91 (by decide) (fun h => absurd h (by omega)) (fun _ => ?_)
  refine lv_aload hx hb dX3_digest_94 (lv_at hl 4 rfl) ?_
  refine lv_iload hx hb dX3_digest_96 (lv_at hl 0 rfl) ?_
  refine n_iald hx hb hX k_197 (by decide) (by decide) dX3_digest_98 ?_
  refine W.eq (g2 := F0 m 99 ls [.int (nI (σ 4 0))]) (by rw [w_190]) ?_
  refine lv_istore (lv' := [(7, .int (nI (σ 4 0))), (6, .int (nI 3)), (2, .long dd_212), (5, .int (nI 8)), (4, .ref q_13), (1, .ref q_13), (0, .ref (Ω 0))]) hx hb dX3_digest_99 hl (by decide) rfl (fun ls hl => ?_)
  refine lv_lload_n hx hb dX3_digest_101 rfl (lv_at hl 2 rfl) ?_
  refine lv_ldc2 (v := 31) hx hb hown (hX.w kw892) dX3_digest_102 ?_
  refine lv_lmul hx hb dX3_digest_105 ?_
  refine lv_iload hx hb dX3_digest_106 (lv_at hl 0 rfl) ?_
  refine lv_i2l hx hb dX3_digest_108 rfl ?_
  refine lv_ladd hx hb dX3_digest_109 ?_
  obtain ⟨dd_214, hd_215⟩ : ∃ z, z = (dd_212 * (31 : Int64)) + (Int32.toInt64 (nI (σ 4 0))) := ⟨_, rfl⟩
  refine W.eq (g2 := F0 m 110 ls [.long dd_214]) (by rw [hd_215]) ?_
  refine lv_lstore_n (lv' := [(2, .long dd_214), (7, .int (nI (σ 4 0))), (6, .int (nI 3)), (5, .int (nI 8)), (4, .ref q_13), (1, .ref q_13), (0, .ref (Ω 0))]) hx hb dX3_digest_110 rfl hl (by decide) rfl (fun ls hl => ?_)
  refine lv_iinc (v := nI 4) (lv' := [(6, .int (nI 4)), (2, .long dd_214), (7, .int (nI (σ 4 0))), (5, .int (nI 8)), (4, .ref q_13), (1, .ref q_13), (0, .ref (Ω 0))]) hx hb dX3_digest_111 hl (k := 2) rfl (nI_inc _) (by decide) rfl (fun ls hl => ?_)
  refine lv_goto (tgt := 87) hx hb dX3_digest_114 (by decide) ?_
  refine lv_iload hx hb dX3_digest_87 (lv_at hl 0 rfl) ?_
  refine lv_iload hx hb dX3_digest_89 (lv_at hl 3 rfl) ?_
  refine n_ge (tgt := 117) hx hb (by omega) (by omega) dX3_digest_91 (by decide) (fun h => absurd h (by omega)) (fun _ => ?_)
  refine lv_aload hx hb dX3_digest_94 (lv_at hl 4 rfl) ?_
  refine lv_iload hx hb dX3_digest_96 (lv_at hl 0 rfl) ?_
  refine n_iald hx hb hX k_197 (by decide) (by decide) dX3_digest_98 ?_
  refine W.eq (g2 := F0 m 99 ls [.int (nI (σ 1 0))]) (by rw [w_191]) ?_
  refine lv_istore (lv' := [(7, .int (nI (σ 1 0))), (6, .int (nI 4)), (2, .long dd_214), (5, .int (nI 8)), (4, .ref q_13), (1, .ref q_13), (0, .ref (Ω 0))]) hx hb dX3_digest_99 hl (by decide) rfl (fun ls hl => ?_)
  refine lv_lload_n hx hb dX3_digest_101 rfl (lv_at hl 2 rfl) ?_
  refine lv_ldc2 (v := 31) hx hb hown (hX.w kw892) dX3_digest_102 ?_
  refine lv_lmul hx hb dX3_digest_105 ?_
  refine lv_iload hx hb dX3_digest_106 (lv_at hl 0 rfl) ?_
  refine lv_i2l hx hb dX3_digest_108 rfl ?_
  refine lv_ladd hx hb dX3_digest_109 ?_
  obtain ⟨dd_216, hd_217⟩ : ∃ z, z = (dd_214 * (31 : Int64)) + (Int32.toInt64 (nI (σ 1 0))) := ⟨_, rfl⟩
  refine W.eq (g2 := F0 m 110 ls [.long dd_216]) (by rw [hd_217]) ?_
  refine lv_lstore_n (lv' := [(2, .long dd_216), (7, .int (nI (σ 1 0))), (6, .int (nI 4)), (5, .int (nI 8)), (4, .ref q_13), (1, .ref q_13), (0, .ref (Ω 0))]) hx hb dX3_digest_110 rfl hl (by decide) rfl (fun ls hl => ?_)
  refine lv_iinc (v := nI 5) (lv' := [(6, .int (nI 5)), (2, .long dd_216), (7, .int (nI (σ 1 0))), (5, .int (nI 8)), (4, .ref q_13), (1, .ref q_13), (0, .ref (Ω 0))]) hx hb dX3_digest_111 hl (k := 2) rfl (nI_inc _) (by decide) rfl (fun ls hl => ?_)
  refine lv_goto (tgt := 87) hx hb dX3_digest_114 (by decide) ?_
  refine lv_iload hx hb dX3_digest_87 (lv_at hl 0 rfl) ?_
  refine lv_iload hx hb dX3_digest_89 (lv_at hl 3 rfl) ?_
  refine n_ge (tgt := 117) hx hb (by omega) (by omega) dX3_digest_91 (by decide) (fun h => absurd h (by omega)) (fun _ => ?_)
  refine lv_aload hx hb dX3_digest_94 (lv_at hl 4 rfl) ?_
  refine lv_iload hx hb dX3_digest_96 (lv_at hl 0 rfl) ?_
  refine n_iald hx hb hX k_197 (by decide) (by decide) dX3_digest_98 ?_
  refine W.eq (g2 := F0 m 99 ls [.int (nI (σ 2 0))]) (by rw [w_192]) ?_
  refine lv_istore (lv' := [(7, .int (nI (σ 2 0))), (6, .int (nI 5)), (2, .long dd_216), (5, .int (nI 8)), (4, .ref q_13), (1, .ref q_13), (0, .ref (Ω 0))]) hx hb dX3_digest_99 hl (by decide) rfl (fun ls hl => ?_)
  refine lv_lload_n hx hb dX3_digest_101 rfl (lv_at hl 2 rfl) ?_
  refine lv_ldc2 (v := 31) hx hb hown (hX.w kw892) dX3_digest_102 ?_
  refine lv_lmul hx hb dX3_digest_105 ?_
  refine lv_iload hx hb dX3_digest_106 (lv_at hl 0 rfl) ?_
  refine lv_i2l hx hb dX3_digest_108 rfl ?_
  refine lv_ladd hx hb dX3_digest_109 ?_
  obtain ⟨dd_218, hd_219⟩ : ∃ z, z = (dd_216 * (31 : Int64)) + (Int32.toInt64 (nI (σ 2 0))) := ⟨_, rfl⟩
  refine W.eq (g2 := F0 m 110 ls [.long dd_218]) (by rw [hd_219]) ?_
  refine lv_lstore_n (lv' := [(2, .long dd_218), (7, .int (nI (σ 2 0))), (6, .int (nI 5)), (5, .int (nI 8)), (4, .ref q_13), (1, .ref q_13), (0, .ref (Ω 0))]) hx hb dX3_digest_110 rfl hl (by decide) rfl (fun ls hl => ?_)
  refine lv_iinc (v := nI 6) (lv' := [(6, .int (nI 6)), (2, .long dd_218), (7, .int (nI (σ 2 0))), (5, .int (nI 8)), (4, .ref q_13), (1, .ref q_13), (0, .ref (Ω 0))]) hx hb dX3_digest_111 hl (k := 2) rfl (nI_inc _) (by decide) rfl (fun ls hl => ?_)
  refine lv_goto (tgt := 87) hx hb dX3_digest_114 (by decide) ?_
  refine lv_iload hx hb dX3_digest_87 (lv_at hl 0 rfl) ?_
  refine lv_iload hx hb dX3_digest_89 (lv_at hl 3 rfl) ?_
  refine n_ge (tgt := 117) hx hb (by omega) (by omega) dX3_digest_91 (by decide) (fun h => absurd h (by omega)) (fun _ => ?_)
  refine lv_aload hx hb dX3_digest_94 (lv_at hl 4 rfl) ?_
  refine lv_iload hx hb dX3_digest_96 (lv_at hl 0 rfl) ?_
  refine n_iald hx hb hX k_197 (by decide) (by decide) dX3_digest_98 ?_
  refine W.eq (g2 := F0 m 99 ls [.int (nI (cHel σ (σ 4 0)))]) (by rw [w_193]) ?_
  refine lv_istore (lv' := [(7, .int (nI (cHel σ (σ 4 0)))), (6, .int (nI 6)), (2, .long dd_218), (5, .int (nI 8)), (4, .ref q_13), (1, .ref q_13), (0, .ref (Ω 0))]) hx hb dX3_digest_99 hl (by decide) rfl (fun ls hl => ?_)
  refine lv_lload_n hx hb dX3_digest_101 rfl (lv_at hl 2 rfl) ?_
  refine lv_ldc2 (v := 31) hx hb hown (hX.w kw892) dX3_digest_102 ?_
  refine lv_lmul hx hb dX3_digest_105 ?_
  refine lv_iload hx hb dX3_digest_106 (lv_at hl 0 rfl) ?_
  refine lv_i2l hx hb dX3_digest_108 rfl ?_
  refine lv_ladd hx hb dX3_digest_109 ?_
  obtain ⟨dd_220, hd_221⟩ : ∃ z, z = (dd_218 * (31 : Int64)) + (Int32.toInt64 (nI (cHel σ (σ 4 0)))) := ⟨_, rfl⟩
  refine W.eq (g2 := F0 m 110 ls [.long dd_220]) (by rw [hd_221]) ?_
  refine lv_lstore_n (lv' := [(2, .long dd_220), (7, .int (nI (cHel σ (σ 4 0)))), (6, .int (nI 6)), (5, .int (nI 8)), (4, .ref q_13), (1, .ref q_13), (0, .ref (Ω 0))]) hx hb dX3_digest_110 rfl hl (by decide) rfl (fun ls hl => ?_)
  refine lv_iinc (v := nI 7) (lv' := [(6, .int (nI 7)), (2, .long dd_220), (7, .int (nI (cHel σ (σ 4 0)))), (5, .int (nI 8)), (4, .ref q_13), (1, .ref q_13), (0, .ref (Ω 0))]) hx hb dX3_digest_111 hl (k := 2) rfl (nI_inc _) (by decide) rfl (fun ls hl => ?_)
  refine lv_goto (tgt := 87) hx hb dX3_digest_114 (by decide) ?_
  refine lv_iload hx hb dX3_digest_87 (lv_at hl 0 rfl) ?_
  refine lv_iload hx hb dX3_digest_89 (lv_at hl 3 rfl) ?_
  refine n_ge (tgt := 117) hx hb (by omega) (by omega) dX3_digest_91 (by decide) (fun h => absurd h (by omega)) (fun _ => ?_)
  refine lv_aload hx hb dX3_digest_94 (lv_at hl 4 rfl) ?_
  refine lv_iload hx hb dX3_digest_96 (lv_at hl 0 rfl) ?_
  refine n_iald hx hb hX k_197 (by decide) (by decide) dX3_digest_98 ?_
  refine W.eq (g2 := F0 m 99 ls [.int (vBst σ 5)]) (by rw [w_194]) ?_
  refine lv_istore (lv' := [(7, .int (vBst σ 5)), (6, .int (nI 7)), (2, .long dd_220), (5, .int (nI 8)), (4, .ref q_13), (1, .ref q_13), (0, .ref (Ω 0))]) hx hb dX3_digest_99 hl (by decide) rfl (fun ls hl => ?_)
  refine lv_lload_n hx hb dX3_digest_101 rfl (lv_at hl 2 rfl) ?_
  refine lv_ldc2 (v := 31) hx hb hown (hX.w kw892) dX3_digest_102 ?_
  refine lv_lmul hx hb dX3_digest_105 ?_
  refine lv_iload hx hb dX3_digest_106 (lv_at hl 0 rfl) ?_
  refine lv_i2l hx hb dX3_digest_108 rfl ?_
  refine lv_ladd hx hb dX3_digest_109 ?_
  obtain ⟨dd_222, hd_223⟩ : ∃ z, z = (dd_220 * (31 : Int64)) + (Int32.toInt64 (vBst σ 5)) := ⟨_, rfl⟩
  refine W.eq (g2 := F0 m 110 ls [.long dd_222]) (by rw [hd_223]) ?_
  refine lv_lstore_n (lv' := [(2, .long dd_222), (7, .int (vBst σ 5)), (6, .int (nI 7)), (5, .int (nI 8)), (4, .ref q_13), (1, .ref q_13), (0, .ref (Ω 0))]) hx hb dX3_digest_110 rfl hl (by decide) rfl (fun ls hl => ?_)
  refine lv_iinc (v := nI 8) (lv' := [(6, .int (nI 8)), (2, .long dd_222), (7, .int (vBst σ 5)), (5, .int (nI 8)), (4, .ref q_13), (1, .ref q_13), (0, .ref (Ω 0))]) hx hb dX3_digest_111 hl (k := 2) rfl (nI_inc _) (by decide) rfl (fun ls hl => ?_)
  refine lv_goto (tgt := 87) hx hb dX3_digest_114 (by decide) ?_
  refine lv_iload hx hb dX3_digest_87 (lv_at hl 0 rfl) ?_
  refine lv_iload hx hb dX3_digest_89 (lv_at hl 3 rfl) ?_
  refine n_ge (tgt := 117) hx hb (by omega) (by omega) dX3_digest_91 (by decide) (fun _ => ?_) (fun h => absurd h (by omega))
  refine lv_iconst (v := nI 0) hx hb dX3_digest_117 (by decide) ?_
  refine lv_istore (lv' := [(4, .int (nI 0)), (6, .int (nI 8)), (2, .long dd_222), (7, .int (vBst σ 5)), (5, .int (nI 8)), (1, .ref q_13), (0, .ref (Ω 0))]) hx hb dX3_digest_118 hl (by decide) rfl (fun ls hl => ?_)
  have hdd : dd_222 = dgW σ (dg0 σ) 0 := by rw [hd_223, hd_221, hd_219, hd_217, hd_215, hd_213, hd_211, hd_209]; rfl
  rw [hdd] at hl
  have hloop : ∀ (n : Nat) (i : Nat) (H : Heap) (locs : List Loc) (ls : Array Slot), σ 3 0 < i + n → i ≤ σ 3 0 → wX g (wA μ zz) s H locs μ_195 → lv_has ls 10 [(4, .int (nI i)), (2, .long (dgW σ (dg0 σ) i)), (0, .ref (Ω 0))] → W p l e ({ frames := 4, cells := 11, slots := 108, locals := 98 } : Room) s m ([.ref (Ω 0)] : List Value).toArray below meth c H locs 1 8 (MQ below (wQc g μ zz (fun r μ' => r = some (.long (vDig σ)) ∧ mD g Ω 0 σ μ')) ([.ref (Ω 0)] : List Value).toArray s 11 108 (wA μ zz)) (F0 m 120 ls []) := by
    intro n
    induction n with
    | zero => intro i H locs ls hn hi hX hl; exact absurd hn (by omega)
    | succ n ih =>
      intro i H locs ls hn hi hX hl
      refine lv_iload hx hb dX3_digest_120 (lv_at hl 0 rfl) ?_
      refine lv_aload_n hx hb dX3_digest_122 rfl (lv_at hl 2 rfl) ?_
      refine gX3_1 hx hb hX hown k_198 kw630 dX3_digest_123 ?_
      refine n_ge (tgt := 174) hx hb (by omega) (by omega) dX3_digest_126 (by decide) (fun c_224 => ?_) (fun c_224 => ?_)
      · skip
        refine lv_iconst (v := nI 0) hx hb dX3_digest_174 (by decide) ?_
        refine lv_istore (lv' := [(4, .int (nI 0)), (2, .long (dgW σ (dg0 σ) i)), (0, .ref (Ω 0))]) hx hb dX3_digest_175 hl (by decide) rfl (fun ls hl => ?_)
        obtain rfl : i = σ 3 0 := by omega
        have hM8 : mD g Ω 0 σ μ_195 := ⟨k_198, k_199, k_200, k_201, k_202, k_203, k_204, k_205, k_206, k_207, hD⟩
        have hloop2 : ∀ (n : Nat) (i : Nat) (ν : wMu) (H : Heap) (locs : List Loc) (ls : Array Slot), σ 4 0 < i + n → i ≤ σ 4 0 → mD g Ω 0 σ ν → wX g (wA μ zz) s H locs ν → lv_has ls 10 [(4, .int (nI i)), (2, .long (dgC σ (dgW σ (dg0 σ) (σ 3 0)) i)), (0, .ref (Ω 0))] → W p l e ({ frames := 4, cells := 11, slots := 108, locals := 98 } : Room) s m ([.ref (Ω 0)] : List Value).toArray below meth c H locs (1 + i) (8 + 10 * i) (MQ below (wQc g μ zz (fun r μ' => r = some (.long (vDig σ)) ∧ mD g Ω 0 σ μ')) ([.ref (Ω 0)] : List Value).toArray s 11 108 (wA μ zz)) (F0 m 177 ls []) := by
          intro n
          induction n with
          | zero => intro i ν H locs ls hn hi hM1 hX hl; exact absurd hn (by omega)
          | succ n ih =>
            intro i ν H locs ls hn hi hM1 hX hl
            obtain ⟨r0, r5, r6, r7, r8, r9, r10, r11, r12, r13, hD⟩ := id hM1
            refine lv_iload hx hb dX3_digest_177 (lv_at hl 0 rfl) ?_
            refine lv_aload_n hx hb dX3_digest_179 rfl (lv_at hl 2 rfl) ?_
            refine gX3_2 hx hb hX hown r0 kw631 dX3_digest_180 ?_
            refine n_ge (tgt := 357) hx hb (by omega) (by omega) dX3_digest_183 (by decide) (fun c_225 => ?_) (fun c_225 => ?_)
            · skip
              refine lv_lload_n hx hb dX3_digest_357 rfl (lv_at hl 1 rfl) ?_
              obtain rfl : i = σ 4 0 := by omega
              exact w_lret hx hb hr hlocks hX ⟨rfl, hM1⟩ ⟨(show _ ≤ 11 by omega), (show _ ≤ 108 by omega)⟩ dX3_digest_358
            · skip
              have hj : i < σ 4 0 := by omega
              have ocb := o4 i hj
              have owb := o3 _ ocb.1
              refine lv_bipush (v := nI 10) hx hb dX3_digest_186 (by decide) ?_
              refine n_newI hx hb hX kw675 (by decide) (show _ ≤ 11 by omega) (show _ ≤ 108 by omega) dX3_digest_188 (fun q_226 H hq_227 hX => ?_)
              have ne_228 : (Ω 0) ≠ q_226 := fun z => by have h9 := r0; rw [z, hq_227] at h9; cases h9
              have ne_229 : (Ω 5) ≠ q_226 := fun z => by have h9 := r5; rw [z, hq_227] at h9; cases h9
              have ne_230 : (Ω 6) ≠ q_226 := fun z => by have h9 := r6; rw [z, hq_227] at h9; cases h9
              have ne_231 : (Ω 7) ≠ q_226 := fun z => by have h9 := r7; rw [z, hq_227] at h9; cases h9
              have ne_232 : (Ω 8) ≠ q_226 := fun z => by have h9 := r8; rw [z, hq_227] at h9; cases h9
              have ne_233 : (Ω 9) ≠ q_226 := fun z => by have h9 := r9; rw [z, hq_227] at h9; cases h9
              have ne_234 : (Ω 10) ≠ q_226 := fun z => by have h9 := r10; rw [z, hq_227] at h9; cases h9
              have ne_235 : (Ω 11) ≠ q_226 := fun z => by have h9 := r11; rw [z, hq_227] at h9; cases h9
              have ne_236 : (Ω 12) ≠ q_226 := fun z => by have h9 := r12; rw [z, hq_227] at h9; cases h9
              have ne_237 : (Ω 13) ≠ q_226 := fun z => by have h9 := r13; rw [z, hq_227] at h9; cases h9
              obtain ⟨μ_238, e_239⟩ : ∃ z, z = va_up ν q_226 (some (.inl (gI g, 10, .inl (fun _ => 0)))) := ⟨_, rfl⟩
              rw [← e_239] at hX
              have k_240 : μ_238 q_226 = some (.inl (gI g, 10, .inl (fun _ => 0))) := by rw [e_239]; exact va_up_self _ _ _
              have k_241 := (congrFun e_239 (Ω 0)).trans ((va_up_ne _ _ ne_228).trans r0)
              have k_242 := (congrFun e_239 (Ω 5)).trans ((va_up_ne _ _ ne_229).trans r5)
              have k_243 := (congrFun e_239 (Ω 6)).trans ((va_up_ne _ _ ne_230).trans r6)
              have k_244 := (congrFun e_239 (Ω 7)).trans ((va_up_ne _ _ ne_231).trans r7)
              have k_245 := (congrFun e_239 (Ω 8)).trans ((va_up_ne _ _ ne_232).trans r8)
              have k_246 := (congrFun e_239 (Ω 9)).trans ((va_up_ne _ _ ne_233).trans r9)
              have k_247 := (congrFun e_239 (Ω 10)).trans ((va_up_ne _ _ ne_234).trans r10)
              have k_248 := (congrFun e_239 (Ω 11)).trans ((va_up_ne _ _ ne_235).trans r11)
              have k_249 := (congrFun e_239 (Ω 12)).trans ((va_up_ne _ _ ne_236).trans r12)
              have k_250 := (congrFun e_239 (Ω 13)).trans ((va_up_ne _ _ ne_237).trans r13)
              refine W.eq (g2 := F0 m 190 ls [.ref q_226]) rfl ?_
              refine lv_dup hx hb dX3_digest_190 rfl ?_
              refine lv_iconst (v := nI 0) hx hb dX3_digest_191 (by decide) ?_
              refine lv_aload_n hx hb dX3_digest_192 rfl (lv_at hl 2 rfl) ?_
              refine gX3_9 hx hb hX hown k_241 kw638 dX3_digest_193 ?_
              refine lv_iload hx hb dX3_digest_196 (lv_at hl 0 rfl) ?_
              refine n_iald hx hb hX k_245 (by omega) (by omega) dX3_digest_198 ?_
              refine n_iast hx hb hX k_240 (by decide) (by decide) dX3_digest_199 (fun H locs hX => ?_)
              obtain ⟨f_251, hf_252⟩ : ∃ z, z = upd (fun _ => 0) 0 (nI (σ 8 i)) := ⟨_, rfl⟩
              rw [← hf_252] at hX
              have w_253 : f_251 0 = nI (σ 8 i) := by rw [hf_252]; exact updS
              obtain ⟨μ_254, e_255⟩ : ∃ z, z = va_up μ_238 q_226 (some (.inl (gI g, 10, .inl f_251))) := ⟨_, rfl⟩
              rw [← e_255] at hX
              have k_256 : μ_254 q_226 = some (.inl (gI g, 10, .inl f_251)) := by rw [e_255]; exact va_up_self _ _ _
              have k_257 := (congrFun e_255 (Ω 0)).trans ((va_up_ne _ _ ne_228).trans k_241)
              have k_258 := (congrFun e_255 (Ω 5)).trans ((va_up_ne _ _ ne_229).trans k_242)
              have k_259 := (congrFun e_255 (Ω 6)).trans ((va_up_ne _ _ ne_230).trans k_243)
              have k_260 := (congrFun e_255 (Ω 7)).trans ((va_up_ne _ _ ne_231).trans k_244)
              have k_261 := (congrFun e_255 (Ω 8)).trans ((va_up_ne _ _ ne_232).trans k_245)
              have k_262 := (congrFun e_255 (Ω 9)).trans ((va_up_ne _ _ ne_233).trans k_246)
              have k_263 := (congrFun e_255 (Ω 10)).trans ((va_up_ne _ _ ne_234).trans k_247)
              have k_264 := (congrFun e_255 (Ω 11)).trans ((va_up_ne _ _ ne_235).trans k_248)
              have k_265 := (congrFun e_255 (Ω 12)).trans ((va_up_ne _ _ ne_236).trans k_249)
              have k_266 := (congrFun e_255 (Ω 13)).trans ((va_up_ne _ _ ne_237).trans k_250)
              refine lv_dup hx hb dX3_digest_200 rfl ?_
              refine lv_iconst (v := nI 1) hx hb dX3_digest_201 (by decide) ?_
              refine lv_aload_n hx hb dX3_digest_202 rfl (lv_at hl 2 rfl) ?_
              refine gX3_11 hx hb hX hown k_257 kw640 dX3_digest_203 ?_
              refine lv_iload hx hb dX3_digest_206 (lv_at hl 0 rfl) ?_
              refine n_iald hx hb hX k_263 (by omega) (by omega) dX3_digest_208 ?_
              refine n_iast hx hb hX k_256 (by decide) (by decide) dX3_digest_209 (fun H locs hX => ?_)
              obtain ⟨f_267, hf_268⟩ : ∃ z, z = upd f_251 1 (nI (σ 10 i)) := ⟨_, rfl⟩
              rw [← hf_268] at hX
              have w_269 : f_267 0 = nI (σ 8 i) := by rw [hf_268]; exact (updN (by decide)).trans w_253
              have w_270 : f_267 1 = nI (σ 10 i) := by rw [hf_268]; exact updS
              obtain ⟨μ_271, e_272⟩ : ∃ z, z = va_up μ_254 q_226 (some (.inl (gI g, 10, .inl f_267))) := ⟨_, rfl⟩
              rw [← e_272] at hX
              have k_273 : μ_271 q_226 = some (.inl (gI g, 10, .inl f_267)) := by rw [e_272]; exact va_up_self _ _ _
              have k_274 := (congrFun e_272 (Ω 0)).trans ((va_up_ne _ _ ne_228).trans k_257)
              have k_275 := (congrFun e_272 (Ω 5)).trans ((va_up_ne _ _ ne_229).trans k_258)
              have k_276 := (congrFun e_272 (Ω 6)).trans ((va_up_ne _ _ ne_230).trans k_259)
              have k_277 := (congrFun e_272 (Ω 7)).trans ((va_up_ne _ _ ne_231).trans k_260)
              have k_278 := (congrFun e_272 (Ω 8)).trans ((va_up_ne _ _ ne_232).trans k_261)
              have k_279 := (congrFun e_272 (Ω 9)).trans ((va_up_ne _ _ ne_233).trans k_262)
              have k_280 := (congrFun e_272 (Ω 10)).trans ((va_up_ne _ _ ne_234).trans k_263)
              have k_281 := (congrFun e_272 (Ω 11)).trans ((va_up_ne _ _ ne_235).trans k_264)
              have k_282 := (congrFun e_272 (Ω 12)).trans ((va_up_ne _ _ ne_236).trans k_265)
              have k_283 := (congrFun e_272 (Ω 13)).trans ((va_up_ne _ _ ne_237).trans k_266)
              refine lv_dup hx hb dX3_digest_210 rfl ?_
              refine lv_iconst (v := nI 2) hx hb dX3_digest_211 (by decide) ?_
              refine lv_aload_n hx hb dX3_digest_212 rfl (lv_at hl 2 rfl) ?_
              refine gX3_12 hx hb hX hown k_274 kw641 dX3_digest_213 ?_
              refine lv_iload hx hb dX3_digest_216 (lv_at hl 0 rfl) ?_
              refine n_iald hx hb hX k_281 (by omega) (by omega) dX3_digest_218 ?_
              refine n_iast hx hb hX k_273 (by decide) (by decide) dX3_digest_219 (fun H locs hX => ?_)
              obtain ⟨f_284, hf_285⟩ : ∃ z, z = upd f_267 2 (nI (σ 11 i)) := ⟨_, rfl⟩
              rw [← hf_285] at hX
              have w_286 : f_284 0 = nI (σ 8 i) := by rw [hf_285]; exact (updN (by decide)).trans w_269
              have w_287 : f_284 1 = nI (σ 10 i) := by rw [hf_285]; exact (updN (by decide)).trans w_270
              have w_288 : f_284 2 = nI (σ 11 i) := by rw [hf_285]; exact updS
              obtain ⟨μ_289, e_290⟩ : ∃ z, z = va_up μ_271 q_226 (some (.inl (gI g, 10, .inl f_284))) := ⟨_, rfl⟩
              rw [← e_290] at hX
              have k_291 : μ_289 q_226 = some (.inl (gI g, 10, .inl f_284)) := by rw [e_290]; exact va_up_self _ _ _
              have k_292 := (congrFun e_290 (Ω 0)).trans ((va_up_ne _ _ ne_228).trans k_274)
              have k_293 := (congrFun e_290 (Ω 5)).trans ((va_up_ne _ _ ne_229).trans k_275)
              have k_294 := (congrFun e_290 (Ω 6)).trans ((va_up_ne _ _ ne_230).trans k_276)
              have k_295 := (congrFun e_290 (Ω 7)).trans ((va_up_ne _ _ ne_231).trans k_277)
              have k_296 := (congrFun e_290 (Ω 8)).trans ((va_up_ne _ _ ne_232).trans k_278)
              have k_297 := (congrFun e_290 (Ω 9)).trans ((va_up_ne _ _ ne_233).trans k_279)
              have k_298 := (congrFun e_290 (Ω 10)).trans ((va_up_ne _ _ ne_234).trans k_280)
              have k_299 := (congrFun e_290 (Ω 11)).trans ((va_up_ne _ _ ne_235).trans k_281)
              have k_300 := (congrFun e_290 (Ω 12)).trans ((va_up_ne _ _ ne_236).trans k_282)
              have k_301 := (congrFun e_290 (Ω 13)).trans ((va_up_ne _ _ ne_237).trans k_283)
              refine lv_dup hx hb dX3_digest_220 rfl ?_
              refine lv_iconst (v := nI 3) hx hb dX3_digest_221 (by decide) ?_
              refine lv_aload_n hx hb dX3_digest_222 rfl (lv_at hl 2 rfl) ?_
              refine gX3_13 hx hb hX hown k_292 kw642 dX3_digest_223 ?_
              refine lv_iload hx hb dX3_digest_226 (lv_at hl 0 rfl) ?_
              refine n_iald hx hb hX k_300 (by omega) (by omega) dX3_digest_228 ?_
              refine n_iast hx hb hX k_291 (by decide) (by decide) dX3_digest_229 (fun H locs hX => ?_)
              obtain ⟨f_302, hf_303⟩ : ∃ z, z = upd f_284 3 (nI (σ 12 i)) := ⟨_, rfl⟩
              rw [← hf_303] at hX
              have w_304 : f_302 0 = nI (σ 8 i) := by rw [hf_303]; exact (updN (by decide)).trans w_286
              have w_305 : f_302 1 = nI (σ 10 i) := by rw [hf_303]; exact (updN (by decide)).trans w_287
              have w_306 : f_302 2 = nI (σ 11 i) := by rw [hf_303]; exact (updN (by decide)).trans w_288
              have w_307 : f_302 3 = nI (σ 12 i) := by rw [hf_303]; exact updS
              obtain ⟨μ_308, e_309⟩ : ∃ z, z = va_up μ_289 q_226 (some (.inl (gI g, 10, .inl f_302))) := ⟨_, rfl⟩
              rw [← e_309] at hX
              have k_310 : μ_308 q_226 = some (.inl (gI g, 10, .inl f_302)) := by rw [e_309]; exact va_up_self _ _ _
              have k_311 := (congrFun e_309 (Ω 0)).trans ((va_up_ne _ _ ne_228).trans k_292)
              have k_312 := (congrFun e_309 (Ω 5)).trans ((va_up_ne _ _ ne_229).trans k_293)
              have k_313 := (congrFun e_309 (Ω 6)).trans ((va_up_ne _ _ ne_230).trans k_294)
              have k_314 := (congrFun e_309 (Ω 7)).trans ((va_up_ne _ _ ne_231).trans k_295)
              have k_315 := (congrFun e_309 (Ω 8)).trans ((va_up_ne _ _ ne_232).trans k_296)
              have k_316 := (congrFun e_309 (Ω 9)).trans ((va_up_ne _ _ ne_233).trans k_297)
              have k_317 := (congrFun e_309 (Ω 10)).trans ((va_up_ne _ _ ne_234).trans k_298)
              have k_318 := (congrFun e_309 (Ω 11)).trans ((va_up_ne _ _ ne_235).trans k_299)
              have k_319 := (congrFun e_309 (Ω 12)).trans ((va_up_ne _ _ ne_236).trans k_300)
              have k_320 := (congrFun e_309 (Ω 13)).trans ((va_up_ne _ _ ne_237).trans k_301)
              refine lv_dup hx hb dX3_digest_230 rfl ?_
              refine lv_iconst (v := nI 4) hx hb dX3_digest_231 (by decide) ?_
              refine lv_aload_n hx hb dX3_digest_232 rfl (lv_at hl 2 rfl) ?_
              refine gX3_14 hx hb hX hown k_311 kw643 dX3_digest_233 ?_
              refine lv_iload hx hb dX3_digest_236 (lv_at hl 0 rfl) ?_
              refine n_iald hx hb hX k_320 (by omega) (by omega) dX3_digest_238 ?_
              refine n_iast hx hb hX k_310 (by decide) (by decide) dX3_digest_239 (fun H locs hX => ?_)
              obtain ⟨f_321, hf_322⟩ : ∃ z, z = upd f_302 4 (nI (σ 13 i)) := ⟨_, rfl⟩
              rw [← hf_322] at hX
              have w_323 : f_321 0 = nI (σ 8 i) := by rw [hf_322]; exact (updN (by decide)).trans w_304
              have w_324 : f_321 1 = nI (σ 10 i) := by rw [hf_322]; exact (updN (by decide)).trans w_305
              have w_325 : f_321 2 = nI (σ 11 i) := by rw [hf_322]; exact (updN (by decide)).trans w_306
              have w_326 : f_321 3 = nI (σ 12 i) := by rw [hf_322]; exact (updN (by decide)).trans w_307
              have w_327 : f_321 4 = nI (σ 13 i) := by rw [hf_322]; exact updS
              obtain ⟨μ_328, e_329⟩ : ∃ z, z = va_up μ_308 q_226 (some (.inl (gI g, 10, .inl f_321))) := ⟨_, rfl⟩
              rw [← e_329] at hX
              have k_330 : μ_328 q_226 = some (.inl (gI g, 10, .inl f_321)) := by rw [e_329]; exact va_up_self _ _ _
              have k_331 := (congrFun e_329 (Ω 0)).trans ((va_up_ne _ _ ne_228).trans k_311)
              have k_332 := (congrFun e_329 (Ω 5)).trans ((va_up_ne _ _ ne_229).trans k_312)
              have k_333 := (congrFun e_329 (Ω 6)).trans ((va_up_ne _ _ ne_230).trans k_313)
              have k_334 := (congrFun e_329 (Ω 7)).trans ((va_up_ne _ _ ne_231).trans k_314)
              have k_335 := (congrFun e_329 (Ω 8)).trans ((va_up_ne _ _ ne_232).trans k_315)
              have k_336 := (congrFun e_329 (Ω 9)).trans ((va_up_ne _ _ ne_233).trans k_316)
              have k_337 := (congrFun e_329 (Ω 10)).trans ((va_up_ne _ _ ne_234).trans k_317)
              have k_338 := (congrFun e_329 (Ω 11)).trans ((va_up_ne _ _ ne_235).trans k_318)
              have k_339 := (congrFun e_329 (Ω 12)).trans ((va_up_ne _ _ ne_236).trans k_319)
              have k_340 := (congrFun e_329 (Ω 13)).trans ((va_up_ne _ _ ne_237).trans k_320)
              refine lv_dup hx hb dX3_digest_240 rfl ?_
              refine lv_iconst (v := nI 5) hx hb dX3_digest_241 (by decide) ?_
              refine lv_aload_n hx hb dX3_digest_242 rfl (lv_at hl 2 rfl) ?_
              refine lv_iload hx hb dX3_digest_243 (lv_at hl 0 rfl) ?_
              have hM_341 : mD g Ω 0 σ μ_328 := ⟨k_331, k_332, k_333, k_334, k_335, k_336, k_337, k_338, k_339, k_340, hD⟩
              refine w_call (w_runV (n := 1) (As := [.int (nI i)]) (rest := [.int (nI 5), .ref q_226, .ref q_226]) hx hb hml hown hX (c_X3_daysTo l g μ_328 H.size hM_341 hO hj) kw830 kw7 kw827 kw829 kp38 wn_X3_daysTo rfl k_331 rfl ⟨Nat.le_of_ble_eq_true rfl, Nat.le_of_ble_eq_true rfl⟩ hl.1 rfl (Nat.le_of_ble_eq_true rfl) dX3_digest_245 ⟨(show _ ≤ 11 by omega), (show _ ≤ 108 by omega)⟩) hX (fun r_344 μ_342 H locs q_343 hX hz => ?_)
              obtain ⟨rfl, e_345⟩ := q_343
              rw [e_345] at hX
              refine W.eq (g2 := F0 m 248 ls [.int (nI (vDay σ i)), .int (nI 5), .ref q_226, .ref q_226]) rfl ?_
              refine n_iast hx hb hX k_330 (by decide) (by decide) dX3_digest_248 (fun H locs hX => ?_)
              obtain ⟨f_346, hf_347⟩ : ∃ z, z = upd f_321 5 (nI (vDay σ i)) := ⟨_, rfl⟩
              rw [← hf_347] at hX
              have w_348 : f_346 0 = nI (σ 8 i) := by rw [hf_347]; exact (updN (by decide)).trans w_323
              have w_349 : f_346 1 = nI (σ 10 i) := by rw [hf_347]; exact (updN (by decide)).trans w_324
              have w_350 : f_346 2 = nI (σ 11 i) := by rw [hf_347]; exact (updN (by decide)).trans w_325
              have w_351 : f_346 3 = nI (σ 12 i) := by rw [hf_347]; exact (updN (by decide)).trans w_326
              have w_352 : f_346 4 = nI (σ 13 i) := by rw [hf_347]; exact (updN (by decide)).trans w_327
              have w_353 : f_346 5 = nI (vDay σ i) := by rw [hf_347]; exact updS
              obtain ⟨μ_354, e_355⟩ : ∃ z, z = va_up μ_328 q_226 (some (.inl (gI g, 10, .inl f_346))) := ⟨_, rfl⟩
              rw [← e_355] at hX
              have k_356 : μ_354 q_226 = some (.inl (gI g, 10, .inl f_346)) := by rw [e_355]; exact va_up_self _ _ _
              have k_357 := (congrFun e_355 (Ω 0)).trans ((va_up_ne _ _ ne_228).trans k_331)
              have k_358 := (congrFun e_355 (Ω 5)).trans ((va_up_ne _ _ ne_229).trans k_332)
              have k_359 := (congrFun e_355 (Ω 6)).trans ((va_up_ne _ _ ne_230).trans k_333)
              have k_360 := (congrFun e_355 (Ω 7)).trans ((va_up_ne _ _ ne_231).trans k_334)
              have k_361 := (congrFun e_355 (Ω 8)).trans ((va_up_ne _ _ ne_232).trans k_335)
              have k_362 := (congrFun e_355 (Ω 9)).trans ((va_up_ne _ _ ne_233).trans k_336)
              have k_363 := (congrFun e_355 (Ω 10)).trans ((va_up_ne _ _ ne_234).trans k_337)
              have k_364 := (congrFun e_355 (Ω 11)).trans ((va_up_ne _ _ ne_235).trans k_338)
              have k_365 := (congrFun e_355 (Ω 12)).trans ((va_up_ne _ _ ne_236).trans k_339)
              have k_366 := (congrFun e_355 (Ω 13)).trans ((va_up_ne _ _ ne_237).trans k_340)
              refine lv_dup hx hb dX3_digest_249 rfl ?_
              refine lv_bipush (v := nI 6) hx hb dX3_digest_250 (by decide) ?_
              refine lv_aload_n hx hb dX3_digest_252 rfl (lv_at hl 2 rfl) ?_
              refine lv_iload hx hb dX3_digest_253 (lv_at hl 0 rfl) ?_
              have hM_367 : mD g Ω 0 σ μ_354 := ⟨k_357, k_358, k_359, k_360, k_361, k_362, k_363, k_364, k_365, k_366, hD⟩
              refine w_call (w_runV (n := 1) (As := [.int (nI i)]) (rest := [.int (nI 6), .ref q_226, .ref q_226]) hx hb hml hown hX (c_X3_greatest l g μ_354 H.size hM_367 hO hj) kw838 kw7 kw835 kw837 kp39 wn_X3_greatest rfl k_357 rfl ⟨Nat.le_of_ble_eq_true rfl, Nat.le_of_ble_eq_true rfl⟩ hl.1 rfl (Nat.le_of_ble_eq_true rfl) dX3_digest_255 ⟨(show _ ≤ 11 by omega), (show _ ≤ 108 by omega)⟩) hX (fun r_370 μ_368 H locs q_369 hX hz => ?_)
              obtain ⟨rfl, e_371⟩ := q_369
              rw [e_371] at hX
              refine W.eq (g2 := F0 m 258 ls [.int (nI (vGrt σ i)), .int (nI 6), .ref q_226, .ref q_226]) rfl ?_
              refine n_iast hx hb hX k_356 (by decide) (by decide) dX3_digest_258 (fun H locs hX => ?_)
              obtain ⟨f_372, hf_373⟩ : ∃ z, z = upd f_346 6 (nI (vGrt σ i)) := ⟨_, rfl⟩
              rw [← hf_373] at hX
              have w_374 : f_372 0 = nI (σ 8 i) := by rw [hf_373]; exact (updN (by decide)).trans w_348
              have w_375 : f_372 1 = nI (σ 10 i) := by rw [hf_373]; exact (updN (by decide)).trans w_349
              have w_376 : f_372 2 = nI (σ 11 i) := by rw [hf_373]; exact (updN (by decide)).trans w_350
              have w_377 : f_372 3 = nI (σ 12 i) := by rw [hf_373]; exact (updN (by decide)).trans w_351
              have w_378 : f_372 4 = nI (σ 13 i) := by rw [hf_373]; exact (updN (by decide)).trans w_352
              have w_379 : f_372 5 = nI (vDay σ i) := by rw [hf_373]; exact (updN (by decide)).trans w_353
              have w_380 : f_372 6 = nI (vGrt σ i) := by rw [hf_373]; exact updS
              obtain ⟨μ_381, e_382⟩ : ∃ z, z = va_up μ_354 q_226 (some (.inl (gI g, 10, .inl f_372))) := ⟨_, rfl⟩
              rw [← e_382] at hX
              have k_383 : μ_381 q_226 = some (.inl (gI g, 10, .inl f_372)) := by rw [e_382]; exact va_up_self _ _ _
              have k_384 := (congrFun e_382 (Ω 0)).trans ((va_up_ne _ _ ne_228).trans k_357)
              have k_385 := (congrFun e_382 (Ω 5)).trans ((va_up_ne _ _ ne_229).trans k_358)
              have k_386 := (congrFun e_382 (Ω 6)).trans ((va_up_ne _ _ ne_230).trans k_359)
              have k_387 := (congrFun e_382 (Ω 7)).trans ((va_up_ne _ _ ne_231).trans k_360)
              have k_388 := (congrFun e_382 (Ω 8)).trans ((va_up_ne _ _ ne_232).trans k_361)
              have k_389 := (congrFun e_382 (Ω 9)).trans ((va_up_ne _ _ ne_233).trans k_362)
              have k_390 := (congrFun e_382 (Ω 10)).trans ((va_up_ne _ _ ne_234).trans k_363)
              have k_391 := (congrFun e_382 (Ω 11)).trans ((va_up_ne _ _ ne_235).trans k_364)
              have k_392 := (congrFun e_382 (Ω 12)).trans ((va_up_ne _ _ ne_236).trans k_365)
              have k_393 := (congrFun e_382 (Ω 13)).trans ((va_up_ne _ _ ne_237).trans k_366)
              refine lv_dup hx hb dX3_digest_259 rfl ?_
              refine lv_bipush (v := nI 7) hx hb dX3_digest_260 (by decide) ?_
              refine lv_aload_n hx hb dX3_digest_262 rfl (lv_at hl 2 rfl) ?_
              refine lv_iload hx hb dX3_digest_263 (lv_at hl 0 rfl) ?_
              refine lv_bipush (v := nI 10) hx hb dX3_digest_265 (by decide) ?_
              have hM_394 : mD g Ω 0 σ μ_381 := ⟨k_384, k_385, k_386, k_387, k_388, k_389, k_390, k_391, k_392, k_393, hD⟩
              refine w_call (w_runV (n := 2) (As := [.int (nI i), .int (nI 10)]) (rest := [.int (nI 7), .ref q_226, .ref q_226]) hx hb hml hown hX (c_X3_until l g μ_381 H.size hM_394 hO hj (by omega) (by omega)) kw846 kw7 kw843 kw845 kp40 wn_X3_until rfl k_384 rfl ⟨Nat.le_of_ble_eq_true rfl, Nat.le_of_ble_eq_true rfl⟩ hl.1 rfl (Nat.le_of_ble_eq_true rfl) dX3_digest_267 ⟨(show _ ≤ 11 by omega), (show _ ≤ 108 by omega)⟩) hX (fun r_397 μ_395 H locs q_396 hX hz => ?_)
              obtain ⟨rfl, e_398⟩ := q_396
              rw [e_398] at hX
              refine W.eq (g2 := F0 m 270 ls [.int (utl σ i 10 101 0), .int (nI 7), .ref q_226, .ref q_226]) rfl ?_
              refine n_iast hx hb hX k_383 (by decide) (by decide) dX3_digest_270 (fun H locs hX => ?_)
              obtain ⟨f_399, hf_400⟩ : ∃ z, z = upd f_372 7 (utl σ i 10 101 0) := ⟨_, rfl⟩
              rw [← hf_400] at hX
              have w_401 : f_399 0 = nI (σ 8 i) := by rw [hf_400]; exact (updN (by decide)).trans w_374
              have w_402 : f_399 1 = nI (σ 10 i) := by rw [hf_400]; exact (updN (by decide)).trans w_375
              have w_403 : f_399 2 = nI (σ 11 i) := by rw [hf_400]; exact (updN (by decide)).trans w_376
              have w_404 : f_399 3 = nI (σ 12 i) := by rw [hf_400]; exact (updN (by decide)).trans w_377
              have w_405 : f_399 4 = nI (σ 13 i) := by rw [hf_400]; exact (updN (by decide)).trans w_378
              have w_406 : f_399 5 = nI (vDay σ i) := by rw [hf_400]; exact (updN (by decide)).trans w_379
              have w_407 : f_399 6 = nI (vGrt σ i) := by rw [hf_400]; exact (updN (by decide)).trans w_380
              have w_408 : f_399 7 = utl σ i 10 101 0 := by rw [hf_400]; exact updS
              obtain ⟨μ_409, e_410⟩ : ∃ z, z = va_up μ_381 q_226 (some (.inl (gI g, 10, .inl f_399))) := ⟨_, rfl⟩
              rw [← e_410] at hX
              have k_411 : μ_409 q_226 = some (.inl (gI g, 10, .inl f_399)) := by rw [e_410]; exact va_up_self _ _ _
              have k_412 := (congrFun e_410 (Ω 0)).trans ((va_up_ne _ _ ne_228).trans k_384)
              have k_413 := (congrFun e_410 (Ω 5)).trans ((va_up_ne _ _ ne_229).trans k_385)
              have k_414 := (congrFun e_410 (Ω 6)).trans ((va_up_ne _ _ ne_230).trans k_386)
              have k_415 := (congrFun e_410 (Ω 7)).trans ((va_up_ne _ _ ne_231).trans k_387)
              have k_416 := (congrFun e_410 (Ω 8)).trans ((va_up_ne _ _ ne_232).trans k_388)
              have k_417 := (congrFun e_410 (Ω 9)).trans ((va_up_ne _ _ ne_233).trans k_389)
              have k_418 := (congrFun e_410 (Ω 10)).trans ((va_up_ne _ _ ne_234).trans k_390)
              have k_419 := (congrFun e_410 (Ω 11)).trans ((va_up_ne _ _ ne_235).trans k_391)
              have k_420 := (congrFun e_410 (Ω 12)).trans ((va_up_ne _ _ ne_236).trans k_392)
              have k_421 := (congrFun e_410 (Ω 13)).trans ((va_up_ne _ _ ne_237).trans k_393)
              refine lv_dup hx hb dX3_digest_271 rfl ?_
              refine lv_bipush (v := nI 8) hx hb dX3_digest_272 (by decide) ?_
              refine lv_aload_n hx hb dX3_digest_274 rfl (lv_at hl 2 rfl) ?_
              refine lv_iload hx hb dX3_digest_275 (lv_at hl 0 rfl) ?_
              refine lv_iconst (v := nI 4) hx hb dX3_digest_277 (by decide) ?_
              refine lv_bipush (v := nI 12) hx hb dX3_digest_278 (by decide) ?_
              refine lv_aload_n hx hb dX3_digest_280 rfl (lv_at hl 2 rfl) ?_
              refine gX3_7 hx hb hX hown k_412 kw636 dX3_digest_281 ?_
              refine lv_aload_n hx hb dX3_digest_284 rfl (lv_at hl 2 rfl) ?_
              refine gX3_9 hx hb hX hown k_412 kw638 dX3_digest_285 ?_
              refine lv_iload hx hb dX3_digest_288 (lv_at hl 0 rfl) ?_
              refine n_iald hx hb hX k_416 (by omega) (by omega) dX3_digest_290 ?_
              refine n_iald hx hb hX k_414 (by omega) (by omega) dX3_digest_291 ?_
              have hM_422 : mD g Ω 0 σ μ_409 := ⟨k_412, k_413, k_414, k_415, k_416, k_417, k_418, k_419, k_420, k_421, hD⟩
              refine w_call (w_runV (n := 4) (As := [.int (nI i), .int (nI 4), .int (nI 12), .int (nI (σ 6 (σ 8 i)))]) (rest := [.int (nI 8), .ref q_226, .ref q_226]) hx hb hml hown hX (c_X3_grants l g μ_409 H.size hM_422 hO hj (by omega) (by omega) (by omega) (by omega)) kw854 kw7 kw851 kw853 kp41 wn_X3_grants rfl k_412 rfl ⟨Nat.le_of_ble_eq_true rfl, Nat.le_of_ble_eq_true rfl⟩ hl.1 rfl (Nat.le_of_ble_eq_true rfl) dX3_digest_292 ⟨(show _ ≤ 11 by omega), (show _ ≤ 108 by omega)⟩) hX (fun r_425 μ_423 H locs q_424 hX hz => ?_)
              obtain ⟨rfl, e_426⟩ := q_424
              rw [e_426] at hX
              refine W.eq (g2 := F0 m 295 ls [.int (nI (tws σ i 4 12 (σ 6 (σ 8 i)))), .int (nI 8), .ref q_226, .ref q_226]) rfl ?_
              refine n_iast hx hb hX k_411 (by decide) (by decide) dX3_digest_295 (fun H locs hX => ?_)
              obtain ⟨f_427, hf_428⟩ : ∃ z, z = upd f_399 8 (nI (tws σ i 4 12 (σ 6 (σ 8 i)))) := ⟨_, rfl⟩
              rw [← hf_428] at hX
              have w_429 : f_427 0 = nI (σ 8 i) := by rw [hf_428]; exact (updN (by decide)).trans w_401
              have w_430 : f_427 1 = nI (σ 10 i) := by rw [hf_428]; exact (updN (by decide)).trans w_402
              have w_431 : f_427 2 = nI (σ 11 i) := by rw [hf_428]; exact (updN (by decide)).trans w_403
              have w_432 : f_427 3 = nI (σ 12 i) := by rw [hf_428]; exact (updN (by decide)).trans w_404
              have w_433 : f_427 4 = nI (σ 13 i) := by rw [hf_428]; exact (updN (by decide)).trans w_405
              have w_434 : f_427 5 = nI (vDay σ i) := by rw [hf_428]; exact (updN (by decide)).trans w_406
              have w_435 : f_427 6 = nI (vGrt σ i) := by rw [hf_428]; exact (updN (by decide)).trans w_407
              have w_436 : f_427 7 = utl σ i 10 101 0 := by rw [hf_428]; exact (updN (by decide)).trans w_408
              have w_437 : f_427 8 = nI (tws σ i 4 12 (σ 6 (σ 8 i))) := by rw [hf_428]; exact updS
              obtain ⟨μ_438, e_439⟩ : ∃ z, z = va_up μ_409 q_226 (some (.inl (gI g, 10, .inl f_427))) := ⟨_, rfl⟩
              rw [← e_439] at hX
              have k_440 : μ_438 q_226 = some (.inl (gI g, 10, .inl f_427)) := by rw [e_439]; exact va_up_self _ _ _
              have k_441 := (congrFun e_439 (Ω 0)).trans ((va_up_ne _ _ ne_228).trans k_412)
              have k_442 := (congrFun e_439 (Ω 5)).trans ((va_up_ne _ _ ne_229).trans k_413)
              have k_443 := (congrFun e_439 (Ω 6)).trans ((va_up_ne _ _ ne_230).trans k_414)
              have k_444 := (congrFun e_439 (Ω 7)).trans ((va_up_ne _ _ ne_231).trans k_415)
              have k_445 := (congrFun e_439 (Ω 8)).trans ((va_up_ne _ _ ne_232).trans k_416)
              have k_446 := (congrFun e_439 (Ω 9)).trans ((va_up_ne _ _ ne_233).trans k_417)
              have k_447 := (congrFun e_439 (Ω 10)).trans ((va_up_ne _ _ ne_234).trans k_418)
              have k_448 := (congrFun e_439 (Ω 11)).trans ((va_up_ne _ _ ne_235).trans k_419)
              have k_449 := (congrFun e_439 (Ω 12)).trans ((va_up_ne _ _ ne_236).trans k_420)
              have k_450 := (congrFun e_439 (Ω 13)).trans ((va_up_ne _ _ ne_237).trans k_421)
              refine lv_dup hx hb dX3_digest_296 rfl ?_
              refine lv_bipush (v := nI 9) hx hb dX3_digest_297 (by decide) ?_
              refine lv_aload_n hx hb dX3_digest_299 rfl (lv_at hl 2 rfl) ?_
              refine lv_iload hx hb dX3_digest_300 (lv_at hl 0 rfl) ?_
              refine lv_iconst (v := nI 3) hx hb dX3_digest_302 (by decide) ?_
              have hM_451 : mD g Ω 0 σ μ_438 := ⟨k_441, k_442, k_443, k_444, k_445, k_446, k_447, k_448, k_449, k_450, hD⟩
              refine w_call (w_runV (n := 2) (As := [.int (nI i), .int (nI 3)]) (rest := [.int (nI 9), .ref q_226, .ref q_226]) hx hb hml hown hX (c_X3_wanted l g μ_438 H.size hM_451 hO hj (by omega) (by omega)) kw862 kw7 kw859 kw861 kp42 wn_X3_wanted rfl k_441 rfl ⟨Nat.le_of_ble_eq_true rfl, Nat.le_of_ble_eq_true rfl⟩ hl.1 rfl (Nat.le_of_ble_eq_true rfl) dX3_digest_303 ⟨(show _ ≤ 11 by omega), (show _ ≤ 108 by omega)⟩) hX (fun r_454 μ_452 H locs q_453 hX hz => ?_)
              obtain ⟨rfl, e_455⟩ := q_453
              rw [e_455] at hX
              refine W.eq (g2 := F0 m 306 ls [.int (wtd σ i 3 21 0), .int (nI 9), .ref q_226, .ref q_226]) rfl ?_
              refine n_iast hx hb hX k_440 (by decide) (by decide) dX3_digest_306 (fun H locs hX => ?_)
              obtain ⟨f_456, hf_457⟩ : ∃ z, z = upd f_427 9 (wtd σ i 3 21 0) := ⟨_, rfl⟩
              rw [← hf_457] at hX
              have w_458 : f_456 0 = nI (σ 8 i) := by rw [hf_457]; exact (updN (by decide)).trans w_429
              have w_459 : f_456 1 = nI (σ 10 i) := by rw [hf_457]; exact (updN (by decide)).trans w_430
              have w_460 : f_456 2 = nI (σ 11 i) := by rw [hf_457]; exact (updN (by decide)).trans w_431
              have w_461 : f_456 3 = nI (σ 12 i) := by rw [hf_457]; exact (updN (by decide)).trans w_432
              have w_462 : f_456 4 = nI (σ 13 i) := by rw [hf_457]; exact (updN (by decide)).trans w_433
              have w_463 : f_456 5 = nI (vDay σ i) := by rw [hf_457]; exact (updN (by decide)).trans w_434
              have w_464 : f_456 6 = nI (vGrt σ i) := by rw [hf_457]; exact (updN (by decide)).trans w_435
              have w_465 : f_456 7 = utl σ i 10 101 0 := by rw [hf_457]; exact (updN (by decide)).trans w_436
              have w_466 : f_456 8 = nI (tws σ i 4 12 (σ 6 (σ 8 i))) := by rw [hf_457]; exact (updN (by decide)).trans w_437
              have w_467 : f_456 9 = wtd σ i 3 21 0 := by rw [hf_457]; exact updS
              obtain ⟨μ_468, e_469⟩ : ∃ z, z = va_up μ_438 q_226 (some (.inl (gI g, 10, .inl f_456))) := ⟨_, rfl⟩
              rw [← e_469] at hX
              have k_470 : μ_468 q_226 = some (.inl (gI g, 10, .inl f_456)) := by rw [e_469]; exact va_up_self _ _ _
              have k_471 := (congrFun e_469 (Ω 0)).trans ((va_up_ne _ _ ne_228).trans k_441)
              have k_472 := (congrFun e_469 (Ω 5)).trans ((va_up_ne _ _ ne_229).trans k_442)
              have k_473 := (congrFun e_469 (Ω 6)).trans ((va_up_ne _ _ ne_230).trans k_443)
              have k_474 := (congrFun e_469 (Ω 7)).trans ((va_up_ne _ _ ne_231).trans k_444)
              have k_475 := (congrFun e_469 (Ω 8)).trans ((va_up_ne _ _ ne_232).trans k_445)
              have k_476 := (congrFun e_469 (Ω 9)).trans ((va_up_ne _ _ ne_233).trans k_446)
              have k_477 := (congrFun e_469 (Ω 10)).trans ((va_up_ne _ _ ne_234).trans k_447)
              have k_478 := (congrFun e_469 (Ω 11)).trans ((va_up_ne _ _ ne_235).trans k_448)
              have k_479 := (congrFun e_469 (Ω 12)).trans ((va_up_ne _ _ ne_236).trans k_449)
              have k_480 := (congrFun e_469 (Ω 13)).trans ((va_up_ne _ _ ne_237).trans k_450)
              refine lv_astore (lv' := [(5, .ref q_226), (4, .int (nI i)), (2, .long (dgC σ (dgW σ (dg0 σ) (σ 3 0)) i)), (0, .ref (Ω 0))]) hx hb dX3_digest_307 hl (by decide) rfl (fun ls hl => ?_)
              refine lv_aload hx hb dX3_digest_309 (lv_at hl 0 rfl) ?_
              refine lv_astore (lv' := [(6, .ref q_226), (5, .ref q_226), (4, .int (nI i)), (2, .long (dgC σ (dgW σ (dg0 σ) (σ 3 0)) i)), (0, .ref (Ω 0))]) hx hb dX3_digest_311 hl (by decide) rfl (fun ls hl => ?_)
              refine lv_aload hx hb dX3_digest_313 (lv_at hl 0 rfl) ?_
              refine n_alen hx hb hX k_470 dX3_digest_315 ?_
              refine lv_istore (lv' := [(7, .int (nI 10)), (6, .ref q_226), (5, .ref q_226), (4, .int (nI i)), (2, .long (dgC σ (dgW σ (dg0 σ) (σ 3 0)) i)), (0, .ref (Ω 0))]) hx hb dX3_digest_316 hl (by decide) rfl (fun ls hl => ?_)
              refine lv_iconst (v := nI 0) hx hb dX3_digest_318 (by decide) ?_
              refine lv_istore (lv' := [(8, .int (nI 0)), (7, .int (nI 10)), (6, .ref q_226), (5, .ref q_226), (4, .int (nI i)), (2, .long (dgC σ (dgW σ (dg0 σ) (σ 3 0)) i)), (0, .ref (Ω 0))]) hx hb dX3_digest_319 hl (by decide) rfl (fun ls hl => ?_)
              refine lv_iload hx hb dX3_digest_321 (lv_at hl 0 rfl) ?_
              refine lv_iload hx hb dX3_digest_323 (lv_at hl 1 rfl) ?_
              refine n_ge (tgt := 351) hx hb (by omega) (by omega) dX3_digest_325 (by decide) (fun h => absurd h (by omega)) (fun _ => ?_)
              refine lv_aload hx hb dX3_digest_328 (lv_at hl 2 rfl) ?_
              refine lv_iload hx hb dX3_digest_330 (lv_at hl 0 rfl) ?_
              refine n_iald hx hb hX k_470 (by decide) (by decide) dX3_digest_332 ?_
              refine W.eq (g2 := F0 m 333 ls [.int (nI (σ 8 i))]) (by rw [w_458]) ?_
              refine lv_istore (lv' := [(9, .int (nI (σ 8 i))), (8, .int (nI 0)), (7, .int (nI 10)), (6, .ref q_226), (5, .ref q_226), (4, .int (nI i)), (2, .long (dgC σ (dgW σ (dg0 σ) (σ 3 0)) i)), (0, .ref (Ω 0))]) hx hb dX3_digest_333 hl (by decide) rfl (fun ls hl => ?_)
              refine lv_lload_n hx hb dX3_digest_335 rfl (lv_at hl 6 rfl) ?_
              refine lv_ldc2 (v := 31) hx hb hown (hX.w kw892) dX3_digest_336 ?_
              refine lv_lmul hx hb dX3_digest_339 ?_
              refine lv_iload hx hb dX3_digest_340 (lv_at hl 0 rfl) ?_
              refine lv_i2l hx hb dX3_digest_342 rfl ?_
              refine lv_ladd hx hb dX3_digest_343 ?_
              obtain ⟨dd_481, hd_482⟩ : ∃ z, z = ((dgC σ (dgW σ (dg0 σ) (σ 3 0)) i) * (31 : Int64)) + (Int32.toInt64 (nI (σ 8 i))) := ⟨_, rfl⟩
              refine W.eq (g2 := F0 m 344 ls [.long dd_481]) (by rw [hd_482]) ?_
              refine lv_lstore_n (lv' := [(2, .long dd_481), (9, .int (nI (σ 8 i))), (8, .int (nI 0)), (7, .int (nI 10)), (6, .ref q_226), (5, .ref q_226), (4, .int (nI i)), (0, .ref (Ω 0))]) hx hb dX3_digest_344 rfl hl (by decide) rfl (fun ls hl => ?_)
              refine lv_iinc (v := nI 1) (lv' := [(8, .int (nI 1)), (2, .long dd_481), (9, .int (nI (σ 8 i))), (7, .int (nI 10)), (6, .ref q_226), (5, .ref q_226), (4, .int (nI i)), (0, .ref (Ω 0))]) hx hb dX3_digest_345 hl (k := 2) rfl (nI_inc _) (by decide) rfl (fun ls hl => ?_)
              refine lv_goto (tgt := 321) hx hb dX3_digest_348 (by decide) ?_
              refine lv_iload hx hb dX3_digest_321 (lv_at hl 0 rfl) ?_
              refine lv_iload hx hb dX3_digest_323 (lv_at hl 3 rfl) ?_
              refine n_ge (tgt := 351) hx hb (by omega) (by omega) dX3_digest_325 (by decide) (fun h => absurd h (by omega)) (fun _ => ?_)
              refine lv_aload hx hb dX3_digest_328 (lv_at hl 4 rfl) ?_
              refine lv_iload hx hb dX3_digest_330 (lv_at hl 0 rfl) ?_
              refine n_iald hx hb hX k_470 (by decide) (by decide) dX3_digest_332 ?_
              refine W.eq (g2 := F0 m 333 ls [.int (nI (σ 10 i))]) (by rw [w_459]) ?_
              refine lv_istore (lv' := [(9, .int (nI (σ 10 i))), (8, .int (nI 1)), (2, .long dd_481), (7, .int (nI 10)), (6, .ref q_226), (5, .ref q_226), (4, .int (nI i)), (0, .ref (Ω 0))]) hx hb dX3_digest_333 hl (by decide) rfl (fun ls hl => ?_)
              refine lv_lload_n hx hb dX3_digest_335 rfl (lv_at hl 2 rfl) ?_
              refine lv_ldc2 (v := 31) hx hb hown (hX.w kw892) dX3_digest_336 ?_
              refine lv_lmul hx hb dX3_digest_339 ?_
              refine lv_iload hx hb dX3_digest_340 (lv_at hl 0 rfl) ?_
              refine lv_i2l hx hb dX3_digest_342 rfl ?_
              refine lv_ladd hx hb dX3_digest_343 ?_
              obtain ⟨dd_483, hd_484⟩ : ∃ z, z = (dd_481 * (31 : Int64)) + (Int32.toInt64 (nI (σ 10 i))) := ⟨_, rfl⟩
              refine W.eq (g2 := F0 m 344 ls [.long dd_483]) (by rw [hd_484]) ?_
              refine lv_lstore_n (lv' := [(2, .long dd_483), (9, .int (nI (σ 10 i))), (8, .int (nI 1)), (7, .int (nI 10)), (6, .ref q_226), (5, .ref q_226), (4, .int (nI i)), (0, .ref (Ω 0))]) hx hb dX3_digest_344 rfl hl (by decide) rfl (fun ls hl => ?_)
              refine lv_iinc (v := nI 2) (lv' := [(8, .int (nI 2)), (2, .long dd_483), (9, .int (nI (σ 10 i))), (7, .int (nI 10)), (6, .ref q_226), (5, .ref q_226), (4, .int (nI i)), (0, .ref (Ω 0))]) hx hb dX3_digest_345 hl (k := 2) rfl (nI_inc _) (by decide) rfl (fun ls hl => ?_)
              refine lv_goto (tgt := 321) hx hb dX3_digest_348 (by decide) ?_
              refine lv_iload hx hb dX3_digest_321 (lv_at hl 0 rfl) ?_
              refine lv_iload hx hb dX3_digest_323 (lv_at hl 3 rfl) ?_
              refine n_ge (tgt := 351) hx hb (by omega) (by omega) dX3_digest_325 (by decide) (fun h => absurd h (by omega)) (fun _ => ?_)
              refine lv_aload hx hb dX3_digest_328 (lv_at hl 4 rfl) ?_
              refine lv_iload hx hb dX3_digest_330 (lv_at hl 0 rfl) ?_
              refine n_iald hx hb hX k_470 (by decide) (by decide) dX3_digest_332 ?_
              refine W.eq (g2 := F0 m 333 ls [.int (nI (σ 11 i))]) (by rw [w_460]) ?_
              refine lv_istore (lv' := [(9, .int (nI (σ 11 i))), (8, .int (nI 2)), (2, .long dd_483), (7, .int (nI 10)), (6, .ref q_226), (5, .ref q_226), (4, .int (nI i)), (0, .ref (Ω 0))]) hx hb dX3_digest_333 hl (by decide) rfl (fun ls hl => ?_)
              refine lv_lload_n hx hb dX3_digest_335 rfl (lv_at hl 2 rfl) ?_
              refine lv_ldc2 (v := 31) hx hb hown (hX.w kw892) dX3_digest_336 ?_
              refine lv_lmul hx hb dX3_digest_339 ?_
              refine lv_iload hx hb dX3_digest_340 (lv_at hl 0 rfl) ?_
              refine lv_i2l hx hb dX3_digest_342 rfl ?_
              refine lv_ladd hx hb dX3_digest_343 ?_
              obtain ⟨dd_485, hd_486⟩ : ∃ z, z = (dd_483 * (31 : Int64)) + (Int32.toInt64 (nI (σ 11 i))) := ⟨_, rfl⟩
              refine W.eq (g2 := F0 m 344 ls [.long dd_485]) (by rw [hd_486]) ?_
              refine lv_lstore_n (lv' := [(2, .long dd_485), (9, .int (nI (σ 11 i))), (8, .int (nI 2)), (7, .int (nI 10)), (6, .ref q_226), (5, .ref q_226), (4, .int (nI i)), (0, .ref (Ω 0))]) hx hb dX3_digest_344 rfl hl (by decide) rfl (fun ls hl => ?_)
              refine lv_iinc (v := nI 3) (lv' := [(8, .int (nI 3)), (2, .long dd_485), (9, .int (nI (σ 11 i))), (7, .int (nI 10)), (6, .ref q_226), (5, .ref q_226), (4, .int (nI i)), (0, .ref (Ω 0))]) hx hb dX3_digest_345 hl (k := 2) rfl (nI_inc _) (by decide) rfl (fun ls hl => ?_)
              refine lv_goto (tgt := 321) hx hb dX3_digest_348 (by decide) ?_
              refine lv_iload hx hb dX3_digest_321 (lv_at hl 0 rfl) ?_
              refine lv_iload hx hb dX3_digest_323 (lv_at hl 3 rfl) ?_
              refine n_ge (tgt := 351) hx hb (by omega) (by omega) dX3_digest_325 (by decide) (fun h => absurd h (by omega)) (fun _ => ?_)
              refine lv_aload hx hb dX3_digest_328 (lv_at hl 4 rfl) ?_
              refine lv_iload hx hb dX3_digest_330 (lv_at hl 0 rfl) ?_
              refine n_iald hx hb hX k_470 (by decide) (by decide) dX3_digest_332 ?_
              refine W.eq (g2 := F0 m 333 ls [.int (nI (σ 12 i))]) (by rw [w_461]) ?_
              refine lv_istore (lv' := [(9, .int (nI (σ 12 i))), (8, .int (nI 3)), (2, .long dd_485), (7, .int (nI 10)), (6, .ref q_226), (5, .ref q_226), (4, .int (nI i)), (0, .ref (Ω 0))]) hx hb dX3_digest_333 hl (by decide) rfl (fun ls hl => ?_)
              refine lv_lload_n hx hb dX3_digest_335 rfl (lv_at hl 2 rfl) ?_
              refine lv_ldc2 (v := 31) hx hb hown (hX.w kw892) dX3_digest_336 ?_
              refine lv_lmul hx hb dX3_digest_339 ?_
              refine lv_iload hx hb dX3_digest_340 (lv_at hl 0 rfl) ?_
              refine lv_i2l hx hb dX3_digest_342 rfl ?_
              refine lv_ladd hx hb dX3_digest_343 ?_
              obtain ⟨dd_487, hd_488⟩ : ∃ z, z = (dd_485 * (31 : Int64)) + (Int32.toInt64 (nI (σ 12 i))) := ⟨_, rfl⟩
              refine W.eq (g2 := F0 m 344 ls [.long dd_487]) (by rw [hd_488]) ?_
              refine lv_lstore_n (lv' := [(2, .long dd_487), (9, .int (nI (σ 12 i))), (8, .int (nI 3)), (7, .int (nI 10)), (6, .ref q_226), (5, .ref q_226), (4, .int (nI i)), (0, .ref (Ω 0))]) hx hb dX3_digest_344 rfl hl (by decide) rfl (fun ls hl => ?_)
              refine lv_iinc (v := nI 4) (lv' := [(8, .int (nI 4)), (2, .long dd_487), (9, .int (nI (σ 12 i))), (7, .int (nI 10)), (6, .ref q_226), (5, .ref q_226), (4, .int (nI i)), (0, .ref (Ω 0))]) hx hb dX3_digest_345 hl (k := 2) rfl (nI_inc _) (by decide) rfl (fun ls hl => ?_)
              refine lv_goto (tgt := 321) hx hb dX3_digest_348 (by decide) ?_
              refine lv_iload hx hb dX3_digest_321 (lv_at hl 0 rfl) ?_
              refine lv_iload hx hb dX3_digest_323 (lv_at hl 3 rfl) ?_
              refine n_ge (tgt := 351) hx hb (by omega) (by omega) dX3_digest_325 (by decide) (fun h => absurd h (by omega)) (fun _ => ?_)
              refine lv_aload hx hb dX3_digest_328 (lv_at hl 4 rfl) ?_
              refine lv_iload hx hb dX3_digest_330 (lv_at hl 0 rfl) ?_
              refine n_iald hx hb hX k_470 (by decide) (by decide) dX3_digest_332 ?_
              refine W.eq (g2 := F0 m 333 ls [.int (nI (σ 13 i))]) (by rw [w_462]) ?_
              refine lv_istore (lv' := [(9, .int (nI (σ 13 i))), (8, .int (nI 4)), (2, .long dd_487), (7, .int (nI 10)), (6, .ref q_226), (5, .ref q_226), (4, .int (nI i)), (0, .ref (Ω 0))]) hx hb dX3_digest_333 hl (by decide) rfl (fun ls hl => ?_)
              refine lv_lload_n hx hb dX3_digest_335 rfl (lv_at hl 2 rfl) ?_
              refine lv_ldc2 (v := 31) hx hb hown (hX.w kw892) dX3_digest_336 ?_
              refine lv_lmul hx hb dX3_digest_339 ?_
              refine lv_iload hx hb dX3_digest_340 (lv_at hl 0 rfl) ?_
              refine lv_i2l hx hb dX3_digest_342 rfl ?_
              refine lv_ladd hx hb dX3_digest_343 ?_
              obtain ⟨dd_489, hd_490⟩ : ∃ z, z = (dd_487 * (31 : Int64)) + (Int32.toInt64 (nI (σ 13 i))) := ⟨_, rfl⟩
              refine W.eq (g2 := F0 m 344 ls [.long dd_489]) (by rw [hd_490]) ?_
              refine lv_lstore_n (lv' := [(2, .long dd_489), (9, .int (nI (σ 13 i))), (8, .int (nI 4)), (7, .int (nI 10)), (6, .ref q_226), (5, .ref q_226), (4, .int (nI i)), (0, .ref (Ω 0))]) hx hb dX3_digest_344 rfl hl (by decide) rfl (fun ls hl => ?_)
              refine lv_iinc (v := nI 5) (lv' := [(8, .int (nI 5)), (2, .long dd_489), (9, .int (nI (σ 13 i))), (7, .int (nI 10)), (6, .ref q_226), (5, .ref q_226), (4, .int (nI i)), (0, .ref (Ω 0))]) hx hb dX3_digest_345 hl (k := 2) rfl (nI_inc _) (by decide) rfl (fun ls hl => ?_)
              refine lv_goto (tgt := 321) hx hb dX3_digest_348 (by decide) ?_
              refine lv_iload hx hb dX3_digest_321 (lv_at hl 0 rfl) ?_
              refine lv_iload hx hb dX3_digest_323 (lv_at hl 3 rfl) ?_
              refine n_ge (tgt := 351) hx hb (by omega) (by omega) dX3_digest_325 (by decide) (fun h => absurd h (by omega)) (fun _ => ?_)
              refine lv_aload hx hb dX3_digest_328 (lv_at hl 4 rfl) ?_
              refine lv_iload hx hb dX3_digest_330 (lv_at hl 0 rfl) ?_
              refine n_iald hx hb hX k_470 (by decide) (by decide) dX3_digest_332 ?_
              refine W.eq (g2 := F0 m 333 ls [.int (nI (vDay σ i))]) (by rw [w_463]) ?_
              refine lv_istore (lv' := [(9, .int (nI (vDay σ i))), (8, .int (nI 5)), (2, .long dd_489), (7, .int (nI 10)), (6, .ref q_226), (5, .ref q_226), (4, .int (nI i)), (0, .ref (Ω 0))]) hx hb dX3_digest_333 hl (by decide) rfl (fun ls hl => ?_)
              refine lv_lload_n hx hb dX3_digest_335 rfl (lv_at hl 2 rfl) ?_
              refine lv_ldc2 (v := 31) hx hb hown (hX.w kw892) dX3_digest_336 ?_
              refine lv_lmul hx hb dX3_digest_339 ?_
              refine lv_iload hx hb dX3_digest_340 (lv_at hl 0 rfl) ?_
              refine lv_i2l hx hb dX3_digest_342 rfl ?_
              refine lv_ladd hx hb dX3_digest_343 ?_
              obtain ⟨dd_491, hd_492⟩ : ∃ z, z = (dd_489 * (31 : Int64)) + (Int32.toInt64 (nI (vDay σ i))) := ⟨_, rfl⟩
              refine W.eq (g2 := F0 m 344 ls [.long dd_491]) (by rw [hd_492]) ?_
              refine lv_lstore_n (lv' := [(2, .long dd_491), (9, .int (nI (vDay σ i))), (8, .int (nI 5)), (7, .int (nI 10)), (6, .ref q_226), (5, .ref q_226), (4, .int (nI i)), (0, .ref (Ω 0))]) hx hb dX3_digest_344 rfl hl (by decide) rfl (fun ls hl => ?_)
              refine lv_iinc (v := nI 6) (lv' := [(8, .int (nI 6)), (2, .long dd_491), (9, .int (nI (vDay σ i))), (7, .int (nI 10)), (6, .ref q_226), (5, .ref q_226), (4, .int (nI i)), (0, .ref (Ω 0))]) hx hb dX3_digest_345 hl (k := 2) rfl (nI_inc _) (by decide) rfl (fun ls hl => ?_)
              refine lv_goto (tgt := 321) hx hb dX3_digest_348 (by decide) ?_
              refine lv_iload hx hb dX3_digest_321 (lv_at hl 0 rfl) ?_
              refine lv_iload hx hb dX3_digest_323 (lv_at hl 3 rfl) ?_
              refine n_ge (tgt := 351) hx hb (by omega) (by omega) dX3_digest_325 (by decide) (fun h => absurd h (by omega)) (fun _ => ?_)
              refine lv_aload hx hb dX3_digest_328 (lv_at hl 4 rfl) ?_
              refine lv_iload hx hb dX3_digest_330 (lv_at hl 0 rfl) ?_
              refine n_iald hx hb hX k_470 (by decide) (by decide) dX3_digest_332 ?_
              refine W.eq (g2 := F0 m 333 ls [.int (nI (vGrt σ i))]) (by rw [w_464]) ?_
              refine lv_istore (lv' := [(9, .int (nI (vGrt σ i))), (8, .int (nI 6)), (2, .long dd_491), (7, .int (nI 10)), (6, .ref q_226), (5, .ref q_226), (4, .int (nI i)), (0, .ref (Ω 0))]) hx hb dX3_digest_333 hl (by decide) rfl (fun ls hl => ?_)
              refine lv_lload_n hx hb dX3_digest_335 rfl (lv_at hl 2 rfl) ?_
              refine lv_ldc2 (v := 31) hx hb hown (hX.w kw892) dX3_digest_336 ?_
              refine lv_lmul hx hb dX3_digest_339 ?_
              refine lv_iload hx hb dX3_digest_340 (lv_at hl 0 rfl) ?_
              refine lv_i2l hx hb dX3_digest_342 rfl ?_
              refine lv_ladd hx hb dX3_digest_343 ?_
              obtain ⟨dd_493, hd_494⟩ : ∃ z, z = (dd_491 * (31 : Int64)) + (Int32.toInt64 (nI (vGrt σ i))) := ⟨_, rfl⟩
              refine W.eq (g2 := F0 m 344 ls [.long dd_493]) (by rw [hd_494]) ?_
              refine lv_lstore_n (lv' := [(2, .long dd_493), (9, .int (nI (vGrt σ i))), (8, .int (nI 6)), (7, .int (nI 10)), (6, .ref q_226), (5, .ref q_226), (4, .int (nI i)), (0, .ref (Ω 0))]) hx hb dX3_digest_344 rfl hl (by decide) rfl (fun ls hl => ?_)
              refine lv_iinc (v := nI 7) (lv' := [(8, .int (nI 7)), (2, .long dd_493), (9, .int (nI (vGrt σ i))), (7, .int (nI 10)), (6, .ref q_226), (5, .ref q_226), (4, .int (nI i)), (0, .ref (Ω 0))]) hx hb dX3_digest_345 hl (k := 2) rfl (nI_inc _) (by decide) rfl (fun ls hl => ?_)
              refine lv_goto (tgt := 321) hx hb dX3_digest_348 (by decide) ?_
              refine lv_iload hx hb dX3_digest_321 (lv_at hl 0 rfl) ?_
              refine lv_iload hx hb dX3_digest_323 (lv_at hl 3 rfl) ?_
              refine n_ge (tgt := 351) hx hb (by omega) (by omega) dX3_digest_325 (by decide) (fun h => absurd h (by omega)) (fun _ => ?_)
              refine lv_aload hx hb dX3_digest_328 (lv_at hl 4 rfl) ?_
              refine lv_iload hx hb dX3_digest_330 (lv_at hl 0 rfl) ?_
              refine n_iald hx hb hX k_470 (by decide) (by decide) dX3_digest_332 ?_
              refine W.eq (g2 := F0 m 333 ls [.int (utl σ i 10 101 0)]) (by rw [w_465]) ?_
              refine lv_istore (lv' := [(9, .int (utl σ i 10 101 0)), (8, .int (nI 7)), (2, .long dd_493), (7, .int (nI 10)), (6, .ref q_226), (5, .ref q_226), (4, .int (nI i)), (0, .ref (Ω 0))]) hx hb dX3_digest_333 hl (by decide) rfl (fun ls hl => ?_)
              refine lv_lload_n hx hb dX3_digest_335 rfl (lv_at hl 2 rfl) ?_
              refine lv_ldc2 (v := 31) hx hb hown (hX.w kw892) dX3_digest_336 ?_
              refine lv_lmul hx hb dX3_digest_339 ?_
              refine lv_iload hx hb dX3_digest_340 (lv_at hl 0 rfl) ?_
              refine lv_i2l hx hb dX3_digest_342 rfl ?_
              refine lv_ladd hx hb dX3_digest_343 ?_
              obtain ⟨dd_495, hd_496⟩ : ∃ z, z = (dd_493 * (31 : Int64)) + (Int32.toInt64 (utl σ i 10 101 0)) := ⟨_, rfl⟩
              refine W.eq (g2 := F0 m 344 ls [.long dd_495]) (by rw [hd_496]) ?_
              refine lv_lstore_n (lv' := [(2, .long dd_495), (9, .int (utl σ i 10 101 0)), (8, .int (nI 7)), (7, .int (nI 10)), (6, .ref q_226), (5, .ref q_226), (4, .int (nI i)), (0, .ref (Ω 0))]) hx hb dX3_digest_344 rfl hl (by decide) rfl (fun ls hl => ?_)
              refine lv_iinc (v := nI 8) (lv' := [(8, .int (nI 8)), (2, .long dd_495), (9, .int (utl σ i 10 101 0)), (7, .int (nI 10)), (6, .ref q_226), (5, .ref q_226), (4, .int (nI i)), (0, .ref (Ω 0))]) hx hb dX3_digest_345 hl (k := 2) rfl (nI_inc _) (by decide) rfl (fun ls hl => ?_)
              refine lv_goto (tgt := 321) hx hb dX3_digest_348 (by decide) ?_
              refine lv_iload hx hb dX3_digest_321 (lv_at hl 0 rfl) ?_
              refine lv_iload hx hb dX3_digest_323 (lv_at hl 3 rfl) ?_
              refine n_ge (tgt := 351) hx hb (by omega) (by omega) dX3_digest_325 (by decide) (fun h => absurd h (by omega)) (fun _ => ?_)
              refine lv_aload hx hb dX3_digest_328 (lv_at hl 4 rfl) ?_
              refine lv_iload hx hb dX3_digest_330 (lv_at hl 0 rfl) ?_
              refine n_iald hx hb hX k_470 (by decide) (by decide) dX3_digest_332 ?_
              refine W.eq (g2 := F0 m 333 ls [.int (nI (tws σ i 4 12 (σ 6 (σ 8 i))))]) (by rw [w_466]) ?_
              refine lv_istore (lv' := [(9, .int (nI (tws σ i 4 12 (σ 6 (σ 8 i))))), (8, .int (nI 8)), (2, .long dd_495), (7, .int (nI 10)), (6, .ref q_226), (5, .ref q_226), (4, .int (nI i)), (0, .ref (Ω 0))]) hx hb dX3_digest_333 hl (by decide) rfl (fun ls hl => ?_)
              refine lv_lload_n hx hb dX3_digest_335 rfl (lv_at hl 2 rfl) ?_
              refine lv_ldc2 (v := 31) hx hb hown (hX.w kw892) dX3_digest_336 ?_
              refine lv_lmul hx hb dX3_digest_339 ?_
              refine lv_iload hx hb dX3_digest_340 (lv_at hl 0 rfl) ?_
              refine lv_i2l hx hb dX3_digest_342 rfl ?_
              refine lv_ladd hx hb dX3_digest_343 ?_
              obtain ⟨dd_497, hd_498⟩ : ∃ z, z = (dd_495 * (31 : Int64)) + (Int32.toInt64 (nI (tws σ i 4 12 (σ 6 (σ 8 i))))) := ⟨_, rfl⟩
              refine W.eq (g2 := F0 m 344 ls [.long dd_497]) (by rw [hd_498]) ?_
              refine lv_lstore_n (lv' := [(2, .long dd_497), (9, .int (nI (tws σ i 4 12 (σ 6 (σ 8 i))))), (8, .int (nI 8)), (7, .int (nI 10)), (6, .ref q_226), (5, .ref q_226), (4, .int (nI i)), (0, .ref (Ω 0))]) hx hb dX3_digest_344 rfl hl (by decide) rfl (fun ls hl => ?_)
              refine lv_iinc (v := nI 9) (lv' := [(8, .int (nI 9)), (2, .long dd_497), (9, .int (nI (tws σ i 4 12 (σ 6 (σ 8 i))))), (7, .int (nI 10)), (6, .ref q_226), (5, .ref q_226), (4, .int (nI i)), (0, .ref (Ω 0))]) hx hb dX3_digest_345 hl (k := 2) rfl (nI_inc _) (by decide) rfl (fun ls hl => ?_)
              refine lv_goto (tgt := 321) hx hb dX3_digest_348 (by decide) ?_
              refine lv_iload hx hb dX3_digest_321 (lv_at hl 0 rfl) ?_
              refine lv_iload hx hb dX3_digest_323 (lv_at hl 3 rfl) ?_
              refine n_ge (tgt := 351) hx hb (by omega) (by omega) dX3_digest_325 (by decide) (fun h => absurd h (by omega)) (fun _ => ?_)
              refine lv_aload hx hb dX3_digest_328 (lv_at hl 4 rfl) ?_
              refine lv_iload hx hb dX3_digest_330 (lv_at hl 0 rfl) ?_
              refine n_iald hx hb hX k_470 (by decide) (by decide) dX3_digest_332 ?_
              refine W.eq (g2 := F0 m 333 ls [.int (wtd σ i 3 21 0)]) (by rw [w_467]) ?_
              refine lv_istore (lv' := [(9, .int (wtd σ i 3 21 0)), (8, .int (nI 9)), (2, .long dd_497), (7, .int (nI 10)), (6, .ref q_226), (5, .ref q_226), (4, .int (nI i)), (0, .ref (Ω 0))]) hx hb dX3_digest_333 hl (by decide) rfl (fun ls hl => ?_)
              refine lv_lload_n hx hb dX3_digest_335 rfl (lv_at hl 2 rfl) ?_
              refine lv_ldc2 (v := 31) hx hb hown (hX.w kw892) dX3_digest_336 ?_
              refine lv_lmul hx hb dX3_digest_339 ?_
              refine lv_iload hx hb dX3_digest_340 (lv_at hl 0 rfl) ?_
              refine lv_i2l hx hb dX3_digest_342 rfl ?_
              refine lv_ladd hx hb dX3_digest_343 ?_
              obtain ⟨dd_499, hd_500⟩ : ∃ z, z = (dd_497 * (31 : Int64)) + (Int32.toInt64 (wtd σ i 3 21 0)) := ⟨_, rfl⟩
              refine W.eq (g2 := F0 m 344 ls [.long dd_499]) (by rw [hd_500]) ?_
              refine lv_lstore_n (lv' := [(2, .long dd_499), (9, .int (wtd σ i 3 21 0)), (8, .int (nI 9)), (7, .int (nI 10)), (6, .ref q_226), (5, .ref q_226), (4, .int (nI i)), (0, .ref (Ω 0))]) hx hb dX3_digest_344 rfl hl (by decide) rfl (fun ls hl => ?_)
              refine lv_iinc (v := nI 10) (lv' := [(8, .int (nI 10)), (2, .long dd_499), (9, .int (wtd σ i 3 21 0)), (7, .int (nI 10)), (6, .ref q_226), (5, .ref q_226), (4, .int (nI i)), (0, .ref (Ω 0))]) hx hb dX3_digest_345 hl (k := 2) rfl (nI_inc _) (by decide) rfl (fun ls hl => ?_)
              refine lv_goto (tgt := 321) hx hb dX3_digest_348 (by decide) ?_
              refine lv_iload hx hb dX3_digest_321 (lv_at hl 0 rfl) ?_
              refine lv_iload hx hb dX3_digest_323 (lv_at hl 3 rfl) ?_
              refine n_ge (tgt := 351) hx hb (by omega) (by omega) dX3_digest_325 (by decide) (fun _ => ?_) (fun h => absurd h (by omega))
              refine lv_iinc (v := nI (i + 1)) (lv' := [(4, .int (nI (i + 1))), (8, .int (nI 10)), (2, .long dd_499), (9, .int (wtd σ i 3 21 0)), (7, .int (nI 10)), (6, .ref q_226), (5, .ref q_226), (0, .ref (Ω 0))]) hx hb dX3_digest_351 hl (k := 6) rfl (nI_inc _) (by decide) rfl (fun ls hl => ?_)
              refine lv_goto (tgt := 177) hx hb dX3_digest_354 (by decide) ?_
              have hdd : dd_499 = dgC σ (dgW σ (dg0 σ) (σ 3 0)) (i + 1) := by rw [hd_500, hd_498, hd_496, hd_494, hd_492, hd_490, hd_488, hd_486, hd_484, hd_482]; rfl
              rw [hdd] at hl
              have hM9 : mD g Ω 0 σ μ_468 := ⟨k_471, k_472, k_473, k_474, k_475, k_476, k_477, k_478, k_479, k_480, hD⟩
              refine W_cs (c2 := 1 + (i + 1)) (s2 := 8 + 10 * (i + 1)) (by omega) (by omega) ?_
              refine ih (i + 1) _ H locs ls (by omega) (by omega) hM9 hX ?_
              exact lv_sub hl [0, 2, 7] rfl
        exact hloop2 (σ 4 0 + 1) 0 μ_195 H _ ls (by omega) (by omega) hM8 hX hl
      · skip
        refine lv_lload_n hx hb dX3_digest_129 rfl (lv_at hl 1 rfl) ?_
        refine lv_ldc2 (v := 31) hx hb hown (hX.w kw892) dX3_digest_130 ?_
        refine lv_lmul hx hb dX3_digest_133 ?_
        refine lv_aload_n hx hb dX3_digest_134 rfl (lv_at hl 2 rfl) ?_
        refine gX3_8 hx hb hX hown k_198 kw637 dX3_digest_135 ?_
        refine lv_iload hx hb dX3_digest_138 (lv_at hl 0 rfl) ?_
        refine n_iald hx hb hX k_201 (by omega) (by omega) dX3_digest_140 ?_
        refine lv_i2l hx hb dX3_digest_141 rfl ?_
        refine lv_ladd hx hb dX3_digest_142 ?_
        refine lv_ldc2 (v := 31) hx hb hown (hX.w kw892) dX3_digest_143 ?_
        refine lv_lmul hx hb dX3_digest_146 ?_
        refine lv_aload_n hx hb dX3_digest_147 rfl (lv_at hl 2 rfl) ?_
        refine lv_iload hx hb dX3_digest_148 (lv_at hl 0 rfl) ?_
        have hM_501 : mD g Ω 0 σ μ_195 := ⟨k_198, k_199, k_200, k_201, k_202, k_203, k_204, k_205, k_206, k_207, hD⟩
        refine w_call (w_runV (n := 1) (As := [.int (nI i)]) (rest := [.long ((((dgW σ (dg0 σ) i) * (31 : Int64)) + (Int32.toInt64 (nI (σ 7 i)))) * (31 : Int64))]) hx hb hml hown hX (c_X3_using l g μ_195 H.size hM_501 hO (show i < σ 3 0 by omega)) kw798 kw7 kw795 kw797 kp36 wn_X3_using rfl k_198 rfl ⟨Nat.le_of_ble_eq_true rfl, Nat.le_of_ble_eq_true rfl⟩ hl.1 rfl (Nat.le_of_ble_eq_true rfl) dX3_digest_150 ⟨(show _ ≤ 11 by omega), (show _ ≤ 108 by omega)⟩) hX (fun r_504 μ_502 H locs q_503 hX hz => ?_)
        obtain ⟨rfl, e_505⟩ := q_503
        rw [e_505] at hX
        refine W.eq (g2 := F0 m 153 ls [.int (nI (cUsr σ i (σ 4 0))), .long ((((dgW σ (dg0 σ) i) * (31 : Int64)) + (Int32.toInt64 (nI (σ 7 i)))) * (31 : Int64))]) rfl ?_
        refine lv_i2l hx hb dX3_digest_153 rfl ?_
        refine lv_ladd hx hb dX3_digest_154 ?_
        refine lv_ldc2 (v := 31) hx hb hown (hX.w kw892) dX3_digest_155 ?_
        refine lv_lmul hx hb dX3_digest_158 ?_
        refine lv_aload_n hx hb dX3_digest_159 rfl (lv_at hl 2 rfl) ?_
        refine lv_iload hx hb dX3_digest_160 (lv_at hl 0 rfl) ?_
        have hM_506 : mD g Ω 0 σ μ_195 := ⟨k_198, k_199, k_200, k_201, k_202, k_203, k_204, k_205, k_206, k_207, hD⟩
        refine w_call (w_runV (n := 1) (As := [.int (nI i)]) (rest := [.long ((((((dgW σ (dg0 σ) i) * (31 : Int64)) + (Int32.toInt64 (nI (σ 7 i)))) * (31 : Int64)) + (Int32.toInt64 (nI (cUsr σ i (σ 4 0))))) * (31 : Int64))]) hx hb hml hown hX (c_X3_untilFull l g μ_195 H.size hM_506 hO (show i < σ 3 0 by omega)) kw870 kw7 kw867 kw869 kp43 wn_X3_untilFull rfl k_198 rfl ⟨Nat.le_of_ble_eq_true rfl, Nat.le_of_ble_eq_true rfl⟩ hl.1 rfl (Nat.le_of_ble_eq_true rfl) dX3_digest_162 ⟨(show _ ≤ 11 by omega), (show _ ≤ 108 by omega)⟩) hX (fun r_509 μ_507 H locs q_508 hX hz => ?_)
        obtain ⟨rfl, e_510⟩ := q_508
        rw [e_510] at hX
        refine W.eq (g2 := F0 m 165 ls [.int (vFul σ i), .long ((((((dgW σ (dg0 σ) i) * (31 : Int64)) + (Int32.toInt64 (nI (σ 7 i)))) * (31 : Int64)) + (Int32.toInt64 (nI (cUsr σ i (σ 4 0))))) * (31 : Int64))]) rfl ?_
        refine lv_i2l hx hb dX3_digest_165 rfl ?_
        refine lv_ladd hx hb dX3_digest_166 ?_
        refine lv_lstore_n (lv' := [(2, .long (((((((dgW σ (dg0 σ) i) * (31 : Int64)) + (Int32.toInt64 (nI (σ 7 i)))) * (31 : Int64)) + (Int32.toInt64 (nI (cUsr σ i (σ 4 0))))) * (31 : Int64)) + (Int32.toInt64 (vFul σ i)))), (4, .int (nI i)), (0, .ref (Ω 0))]) hx hb dX3_digest_167 rfl hl (by decide) rfl (fun ls hl => ?_)
        refine lv_iinc (v := nI (i + 1)) (lv' := [(4, .int (nI (i + 1))), (2, .long (((((((dgW σ (dg0 σ) i) * (31 : Int64)) + (Int32.toInt64 (nI (σ 7 i)))) * (31 : Int64)) + (Int32.toInt64 (nI (cUsr σ i (σ 4 0))))) * (31 : Int64)) + (Int32.toInt64 (vFul σ i)))), (0, .ref (Ω 0))]) hx hb dX3_digest_168 hl (k := 1) rfl (nI_inc _) (by decide) rfl (fun ls hl => ?_)
        refine lv_goto (tgt := 120) hx hb dX3_digest_171 (by decide) ?_
        refine ih (i + 1) H locs ls (by omega) (by omega) hX ?_
        exact lv_sub hl [0, 1, 2] rfl
  exact hloop (σ 3 0 + 1) 0 H _ ls (by omega) (by omega) hX (lv_sub hl [0, 2, 6] rfl)

