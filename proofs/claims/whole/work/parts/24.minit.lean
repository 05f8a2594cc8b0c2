theorem updS {f : Nat → Int32} {j : Nat} {v : Int32} : upd f j v j = v := by rw [upd, if_pos rfl]
theorem updN {f : Nat → Int32} {i j : Nat} {v : Int32} (h : i ≠ j) : upd f j v i = f i := by rw [upd, if_neg h]
def Ωi (o q5 q6 q7 q8 q9 q10 q11 q12 q13 : Nat) : Nat → Nat := fun k => match k with
  | 0 => o
  | 5 => q5
  | 6 => q6
  | 7 => q7
  | 8 => q8
  | 9 => q9
  | 10 => q10
  | 11 => q11
  | 12 => q12
  | 13 => q13
  | _ => 0
set_option maxHeartbeats 4000000 in
set_option maxRecDepth 100000 in
/-- a new one -/
theorem c_X3_init (l : Launch) (g : wG) (μ : wMu) (zz : Nat) {o : Nat} (h0 : μ o = some (.inr (4, [.int 0, .int 0, .int 0, .int 0, .int 0, .int 0, .null, .null, .null, .null, .null, .null, .null, .null, .null]))) : wMet l yX3_init cX3_init 1 none 1 9 72 12 g [.ref o] μ zz (fun r μ' => r = none ∧ (∃ Ω : Nat → Nat, Ω 0 = o ∧ mD g Ω 0 (fun _ _ => 0) μ') ∧ ∀ z e, z ≠ o → μ z = some e → μ' z = some e) := by
  refine wMet.of (by decide) (Nat.le_of_ble_eq_true rfl) ?_
  intro p e s m below meth c ls hx hb hr hml hown hlocks hin hl hsz hX
  have hl : lv_has ls 1 [(0, .ref o)] := hl
  refine lv_aload_n hx hb dX3_init_0 rfl (lv_at hl 0 rfl) ?_
  refine W.objInit hx hb hown (hX.w kw628) (hX.w kInsObj) (hX.w kCdObj) rfl (by rw [hml]; exact hl.1) rfl dX3_init_1 (Nat.le_of_ble_eq_true rfl) (Nat.le_of_ble_eq_true rfl) ?_
  refine W.eq (g2 := F0 m 4 ls []) rfl ?_
  refine lv_aload_n hx hb dX3_init_4 rfl (lv_at hl 0 rfl) ?_
  refine lv_iconst (v := nI 4) hx hb dX3_init_5 (by decide) ?_
  refine n_newI hx hb hX kw675 (by decide) (Nat.le_of_ble_eq_true rfl) (Nat.le_of_ble_eq_true rfl) dX3_init_6 (fun q_1 H hq_2 hX => ?_)
  have ne_3 : o ≠ q_1 := fun z => by have h9 := h0; rw [z, hq_2] at h9; cases h9
  obtain ⟨μ_4, e_5⟩ : ∃ z, z = va_up μ q_1 (some (.inl (gI g, 4, .inl (fun _ => 0)))) := ⟨_, rfl⟩
  rw [← e_5] at hX
  have k_6 : μ_4 q_1 = some (.inl (gI g, 4, .inl (fun _ => 0))) := by rw [e_5]; exact va_up_self _ _ _
  have k_7 := (congrFun e_5 o).trans ((va_up_ne _ _ ne_3).trans h0)
  refine W.eq (g2 := F0 m 8 ls [.ref q_1, .ref o]) rfl ?_
  refine pX3_6 hx hb hin hX hown k_7 kw635 dX3_init_8 (fun H locs hX => ?_)
  obtain ⟨μ_8, e_9⟩ : ∃ z, z = va_up μ_4 o (some (.inr (4, [.int 0, .int 0, .int 0, .int 0, .int 0, .int 0, .ref q_1, .null, .null, .null, .null, .null, .null, .null, .null]))) := ⟨_, rfl⟩
  rw [← e_9] at hX
  have k_10 : μ_8 o = some (.inr (4, [.int 0, .int 0, .int 0, .int 0, .int 0, .int 0, .ref q_1, .null, .null, .null, .null, .null, .null, .null, .null])) := by rw [e_9]; exact va_up_self _ _ _
  have k_11 := (congrFun e_9 q_1).trans ((va_up_ne _ _ (Ne.symm ne_3)).trans k_6)
  refine lv_aload_n hx hb dX3_init_11 rfl (lv_at hl 0 rfl) ?_
  refine lv_iconst (v := nI 4) hx hb dX3_init_12 (by decide) ?_
  refine n_newI hx hb hX kw675 (by decide) (Nat.le_of_ble_eq_true rfl) (Nat.le_of_ble_eq_true rfl) dX3_init_13 (fun q_12 H hq_13 hX => ?_)
  have ne_14 : o ≠ q_12 := fun z => by have h9 := k_10; rw [z, hq_13] at h9; cases h9
  have ne_15 : q_1 ≠ q_12 := fun z => by have h9 := k_11; rw [z, hq_13] at h9; cases h9
  obtain ⟨μ_16, e_17⟩ : ∃ z, z = va_up μ_8 q_12 (some (.inl (gI g, 4, .inl (fun _ => 0)))) := ⟨_, rfl⟩
  rw [← e_17] at hX
  have k_18 : μ_16 q_12 = some (.inl (gI g, 4, .inl (fun _ => 0))) := by rw [e_17]; exact va_up_self _ _ _
  have k_19 := (congrFun e_17 o).trans ((va_up_ne _ _ ne_14).trans k_10)
  have k_20 := (congrFun e_17 q_1).trans ((va_up_ne _ _ ne_15).trans k_11)
  refine W.eq (g2 := F0 m 15 ls [.ref q_12, .ref o]) rfl ?_
  refine pX3_7 hx hb hin hX hown k_19 kw636 dX3_init_15 (fun H locs hX => ?_)
  obtain ⟨μ_21, e_22⟩ : ∃ z, z = va_up μ_16 o (some (.inr (4, [.int 0, .int 0, .int 0, .int 0, .int 0, .int 0, .ref q_1, .ref q_12, .null, .null, .null, .null, .null, .null, .null]))) := ⟨_, rfl⟩
  rw [← e_22] at hX
  have k_23 : μ_21 o = some (.inr (4, [.int 0, .int 0, .int 0, .int 0, .int 0, .int 0, .ref q_1, .ref q_12, .null, .null, .null, .null, .null, .null, .null])) := by rw [e_22]; exact va_up_self _ _ _
  have k_24 := (congrFun e_22 q_1).trans ((va_up_ne _ _ (Ne.symm ne_3)).trans k_20)
  have k_25 := (congrFun e_22 q_12).trans ((va_up_ne _ _ (Ne.symm ne_14)).trans k_18)
  refine lv_aload_n hx hb dX3_init_18 rfl (lv_at hl 0 rfl) ?_
  refine lv_iconst (v := nI 4) hx hb dX3_init_19 (by decide) ?_
  refine n_newI hx hb hX kw675 (by decide) (Nat.le_of_ble_eq_true rfl) (Nat.le_of_ble_eq_true rfl) dX3_init_20 (fun q_26 H hq_27 hX => ?_)
  have ne_28 : o ≠ q_26 := fun z => by have h9 := k_23; rw [z, hq_27] at h9; cases h9
  have ne_29 : q_1 ≠ q_26 := fun z => by have h9 := k_24; rw [z, hq_27] at h9; cases h9
  have ne_30 : q_12 ≠ q_26 := fun z => by have h9 := k_25; rw [z, hq_27] at h9; cases h9
  obtain ⟨μ_31, e_32⟩ : ∃ z, z = va_up μ_21 q_26 (some (.inl (gI g, 4, .inl (fun _ => 0)))) := ⟨_, rfl⟩
  rw [← e_32] at hX
  have k_33 : μ_31 q_26 = some (.inl (gI g, 4, .inl (fun _ => 0))) := by rw [e_32]; exact va_up_self _ _ _
  have k_34 := (congrFun e_32 o).trans ((va_up_ne _ _ ne_28).trans k_23)
  have k_35 := (congrFun e_32 q_1).trans ((va_up_ne _ _ ne_29).trans k_24)
  have k_36 := (congrFun e_32 q_12).trans ((va_up_ne _ _ ne_30).trans k_25)
  refine W.eq (g2 := F0 m 22 ls [.ref q_26, .ref o]) rfl ?_
  refine pX3_8 hx hb hin hX hown k_34 kw637 dX3_init_22 (fun H locs hX => ?_)
  obtain ⟨μ_37, e_38⟩ : ∃ z, z = va_up μ_31 o (some (.inr (4, [.int 0, .int 0, .int 0, .int 0, .int 0, .int 0, .ref q_1, .ref q_12, .ref q_26, .null, .null, .null, .null, .null, .null]))) := ⟨_, rfl⟩
  rw [← e_38] at hX
  have k_39 : μ_37 o = some (.inr (4, [.int 0, .int 0, .int 0, .int 0, .int 0, .int 0, .ref q_1, .ref q_12, .ref q_26, .null, .null, .null, .null, .null, .null])) := by rw [e_38]; exact va_up_self _ _ _
  have k_40 := (congrFun e_38 q_1).trans ((va_up_ne _ _ (Ne.symm ne_3)).trans k_35)
  have k_41 := (congrFun e_38 q_12).trans ((va_up_ne _ _ (Ne.symm ne_14)).trans k_36)
  have k_42 := (congrFun e_38 q_26).trans ((va_up_ne _ _ (Ne.symm ne_28)).trans k_33)
  refine lv_aload_n hx hb dX3_init_25 rfl (lv_at hl 0 rfl) ?_
  refine lv_bipush (v := nI 10) hx hb dX3_init_26 (by decide) ?_
  refine n_newI hx hb hX kw675 (by decide) (Nat.le_of_ble_eq_true rfl) (Nat.le_of_ble_eq_true rfl) dX3_init_28 (fun q_43 H hq_44 hX => ?_)
  have ne_45 : o ≠ q_43 := fun z => by have h9 := k_39; rw [z, hq_44] at h9; cases h9
  have ne_46 : q_1 ≠ q_43 := fun z => by have h9 := k_40; rw [z, hq_44] at h9; cases h9
  have ne_47 : q_12 ≠ q_43 := fun z => by have h9 := k_41; rw [z, hq_44] at h9; cases h9
  have ne_48 : q_26 ≠ q_43 := fun z => by have h9 := k_42; rw [z, hq_44] at h9; cases h9
  obtain ⟨μ_49, e_50⟩ : ∃ z, z = va_up μ_37 q_43 (some (.inl (gI g, 10, .inl (fun _ => 0)))) := ⟨_, rfl⟩
  rw [← e_50] at hX
  have k_51 : μ_49 q_43 = some (.inl (gI g, 10, .inl (fun _ => 0))) := by rw [e_50]; exact va_up_self _ _ _
  have k_52 := (congrFun e_50 o).trans ((va_up_ne _ _ ne_45).trans k_39)
  have k_53 := (congrFun e_50 q_1).trans ((va_up_ne _ _ ne_46).trans k_40)
  have k_54 := (congrFun e_50 q_12).trans ((va_up_ne _ _ ne_47).trans k_41)
  have k_55 := (congrFun e_50 q_26).trans ((va_up_ne _ _ ne_48).trans k_42)
  refine W.eq (g2 := F0 m 30 ls [.ref q_43, .ref o]) rfl ?_
  refine pX3_9 hx hb hin hX hown k_52 kw638 dX3_init_30 (fun H locs hX => ?_)
  obtain ⟨μ_56, e_57⟩ : ∃ z, z = va_up μ_49 o (some (.inr (4, [.int 0, .int 0, .int 0, .int 0, .int 0, .int 0, .ref q_1, .ref q_12, .ref q_26, .ref q_43, .null, .null, .null, .null, .null]))) := ⟨_, rfl⟩
  rw [← e_57] at hX
  have k_58 : μ_56 o = some (.inr (4, [.int 0, .int 0, .int 0, .int 0, .int 0, .int 0, .ref q_1, .ref q_12, .ref q_26, .ref q_43, .null, .null, .null, .null, .null])) := by rw [e_57]; exact va_up_self _ _ _
  have k_59 := (congrFun e_57 q_1).trans ((va_up_ne _ _ (Ne.symm ne_3)).trans k_53)
  have k_60 := (congrFun e_57 q_12).trans ((va_up_ne _ _ (Ne.symm ne_14)).trans k_54)
  have k_61 := (congrFun e_57 q_26).trans ((va_up_ne _ _ (Ne.symm ne_28)).trans k_55)
  have k_62 := (congrFun e_57 q_43).trans ((va_up_ne _ _ (Ne.symm ne_45)).trans k_51)
  refine lv_aload_n hx hb dX3_init_33 rfl (lv_at hl 0 rfl) ?_
  refine lv_bipush (v := nI 10) hx hb dX3_init_34 (by decide) ?_
  refine n_newI hx hb hX kw675 (by decide) (Nat.le_of_ble_eq_true rfl) (Nat.le_of_ble_eq_true rfl) dX3_init_36 (fun q_63 H hq_64 hX => ?_)
  have ne_65 : o ≠ q_63 := fun z => by have h9 := k_58; rw [z, hq_64] at h9; cases h9
  have ne_66 : q_1 ≠ q_63 := fun z => by have h9 := k_59; rw [z, hq_64] at h9; cases h9
  have ne_67 : q_12 ≠ q_63 := fun z => by have h9 := k_60; rw [z, hq_64] at h9; cases h9
  have ne_68 : q_26 ≠ q_63 := fun z => by have h9 := k_61; rw [z, hq_64] at h9; cases h9
  have ne_69 : q_43 ≠ q_63 := fun z => by have h9 := k_62; rw [z, hq_64] at h9; cases h9
  obtain ⟨μ_70, e_71⟩ : ∃ z, z = va_up μ_56 q_63 (some (.inl (gI g, 10, .inl (fun _ => 0)))) := ⟨_, rfl⟩
  rw [← e_71] at hX
  have k_72 : μ_70 q_63 = some (.inl (gI g, 10, .inl (fun _ => 0))) := by rw [e_71]; exact va_up_self _ _ _
  have k_73 := (congrFun e_71 o).trans ((va_up_ne _ _ ne_65).trans k_58)
  have k_74 := (congrFun e_71 q_1).trans ((va_up_ne _ _ ne_66).trans k_59)
  have k_75 := (congrFun e_71 q_12).trans ((va_up_ne _ _ ne_67).trans k_60)
  have k_76 := (congrFun e_71 q_26).trans ((va_up_ne _ _ ne_68).trans k_61)
  have k_77 := (congrFun e_71 q_43).trans ((va_up_ne _ _ ne_69).trans k_62)
  refine W.eq (g2 := F0 m 38 ls [.ref q_63, .ref o]) rfl ?_
  refine pX3_10 hx hb hin hX hown k_73 kw639 dX3_init_38 (fun H locs hX => ?_)
  obtain ⟨μ_78, e_79⟩ : ∃ z, z = va_up μ_70 o (some (.inr (4, [.int 0, .int 0, .int 0, .int 0, .int 0, .int 0, .ref q_1, .ref q_12, .ref q_26, .ref q_43, .ref q_63, .null, .null, .null, .null]))) := ⟨_, rfl⟩
  rw [← e_79] at hX
  have k_80 : μ_78 o = some (.inr (4, [.int 0, .int 0, .int 0, .int 0, .int 0, .int 0, .ref q_1, .ref q_12, .ref q_26, .ref q_43, .ref q_63, .null, .null, .null, .null])) := by rw [e_79]; exact va_up_self _ _ _
  have k_81 := (congrFun e_79 q_1).trans ((va_up_ne _ _ (Ne.symm ne_3)).trans k_74)
  have k_82 := (congrFun e_79 q_12).trans ((va_up_ne _ _ (Ne.symm ne_14)).trans k_75)
  have k_83 := (congrFun e_79 q_26).trans ((va_up_ne _ _ (Ne.symm ne_28)).trans k_76)
  have k_84 := (congrFun e_79 q_43).trans ((va_up_ne _ _ (Ne.symm ne_45)).trans k_77)
  have k_85 := (congrFun e_79 q_63).trans ((va_up_ne _ _ (Ne.symm ne_65)).trans k_72)
  refine lv_aload_n hx hb dX3_init_41 rfl (lv_at hl 0 rfl) ?_
  refine lv_bipush (v := nI 10) hx hb dX3_init_42 (by decide) ?_
  refine n_newI hx hb hX kw675 (by decide) (Nat.le_of_ble_eq_true rfl) (Nat.le_of_ble_eq_true rfl) dX3_init_44 (fun q_86 H hq_87 hX => ?_)
  have ne_88 : o ≠ q_86 := fun z => by have h9 := k_80; rw [z, hq_87] at h9; cases h9
  have ne_89 : q_1 ≠ q_86 := fun z => by have h9 := k_81; rw [z, hq_87] at h9; cases h9
  have ne_90 : q_12 ≠ q_86 := fun z => by have h9 := k_82; rw [z, hq_87] at h9; cases h9
  have ne_91 : q_26 ≠ q_86 := fun z => by have h9 := k_83; rw [z, hq_87] at h9; cases h9
  have ne_92 : q_43 ≠ q_86 := fun z => by have h9 := k_84; rw [z, hq_87] at h9; cases h9
  have ne_93 : q_63 ≠ q_86 := fun z => by have h9 := k_85; rw [z, hq_87] at h9; cases h9
  obtain ⟨μ_94, e_95⟩ : ∃ z, z = va_up μ_78 q_86 (some (.inl (gI g, 10, .inl (fun _ => 0)))) := ⟨_, rfl⟩
  rw [← e_95] at hX
  have k_96 : μ_94 q_86 = some (.inl (gI g, 10, .inl (fun _ => 0))) := by rw [e_95]; exact va_up_self _ _ _
  have k_97 := (congrFun e_95 o).trans ((va_up_ne _ _ ne_88).trans k_80)
  have k_98 := (congrFun e_95 q_1).trans ((va_up_ne _ _ ne_89).trans k_81)
  have k_99 := (congrFun e_95 q_12).trans ((va_up_ne _ _ ne_90).trans k_82)
  have k_100 := (congrFun e_95 q_26).trans ((va_up_ne _ _ ne_91).trans k_83)
  have k_101 := (congrFun e_95 q_43).trans ((va_up_ne _ _ ne_92).trans k_84)
  have k_102 := (congrFun e_95 q_63).trans ((va_up_ne _ _ ne_93).trans k_85)
  refine W.eq (g2 := F0 m 46 ls [.ref q_86, .ref o]) rfl ?_
  refine pX3_11 hx hb hin hX hown k_97 kw640 dX3_init_46 (fun H locs hX => ?_)
  obtain ⟨μ_103, e_104⟩ : ∃ z, z = va_up μ_94 o (some (.inr (4, [.int 0, .int 0, .int 0, .int 0, .int 0, .int 0, .ref q_1, .ref q_12, .ref q_26, .ref q_43, .ref q_63, .ref q_86, .null, .null, .null]))) := ⟨_, rfl⟩
  rw [← e_104] at hX
  have k_105 : μ_103 o = some (.inr (4, [.int 0, .int 0, .int 0, .int 0, .int 0, .int 0, .ref q_1, .ref q_12, .ref q_26, .ref q_43, .ref q_63, .ref q_86, .null, .null, .null])) := by rw [e_104]; exact va_up_self _ _ _
  have k_106 := (congrFun e_104 q_1).trans ((va_up_ne _ _ (Ne.symm ne_3)).trans k_98)
  have k_107 := (congrFun e_104 q_12).trans ((va_up_ne _ _ (Ne.symm ne_14)).trans k_99)
  have k_108 := (congrFun e_104 q_26).trans ((va_up_ne _ _ (Ne.symm ne_28)).trans k_100)
  have k_109 := (congrFun e_104 q_43).trans ((va_up_ne _ _ (Ne.symm ne_45)).trans k_101)
  have k_110 := (congrFun e_104 q_63).trans ((va_up_ne _ _ (Ne.symm ne_65)).trans k_102)
  have k_111 := (congrFun e_104 q_86).trans ((va_up_ne _ _ (Ne.symm ne_88)).trans k_96)
  refine lv_aload_n hx hb dX3_init_49 rfl (lv_at hl 0 rfl) ?_
  refine lv_bipush (v := nI 10) hx hb dX3_init_50 (by decide) ?_
  refine n_newI hx hb hX kw675 (by decide) (Nat.le_of_ble_eq_true rfl) (Nat.le_of_ble_eq_true rfl) dX3_init_52 (fun q_112 H hq_113 hX => ?_)
  have ne_114 : o ≠ q_112 := fun z => by have h9 := k_105; rw [z, hq_113] at h9; cases h9
  have ne_115 : q_1 ≠ q_112 := fun z => by have h9 := k_106; rw [z, hq_113] at h9; cases h9
  have ne_116 : q_12 ≠ q_112 := fun z => by have h9 := k_107; rw [z, hq_113] at h9; cases h9
  have ne_117 : q_26 ≠ q_112 := fun z => by have h9 := k_108; rw [z, hq_113] at h9; cases h9
  have ne_118 : q_43 ≠ q_112 := fun z => by have h9 := k_109; rw [z, hq_113] at h9; cases h9
  have ne_119 : q_63 ≠ q_112 := fun z => by have h9 := k_110; rw [z, hq_113] at h9; cases h9
  have ne_120 : q_86 ≠ q_112 := fun z => by have h9 := k_111; rw [z, hq_113] at h9; cases h9
  obtain ⟨μ_121, e_122⟩ : ∃ z, z = va_up μ_103 q_112 (some (.inl (gI g, 10, .inl (fun _ => 0)))) := ⟨_, rfl⟩
  rw [← e_122] at hX
  have k_123 : μ_121 q_112 = some (.inl (gI g, 10, .inl (fun _ => 0))) := by rw [e_122]; exact va_up_self _ _ _
  have k_124 := (congrFun e_122 o).trans ((va_up_ne _ _ ne_114).trans k_105)
  have k_125 := (congrFun e_122 q_1).trans ((va_up_ne _ _ ne_115).trans k_106)
  have k_126 := (congrFun e_122 q_12).trans ((va_up_ne _ _ ne_116).trans k_107)
  have k_127 := (congrFun e_122 q_26).trans ((va_up_ne _ _ ne_117).trans k_108)
  have k_128 := (congrFun e_122 q_43).trans ((va_up_ne _ _ ne_118).trans k_109)
  have k_129 := (congrFun e_122 q_63).trans ((va_up_ne _ _ ne_119).trans k_110)
  have k_130 := (congrFun e_122 q_86).trans ((va_up_ne _ _ ne_120).trans k_111)
  refine W.eq (g2 := F0 m 54 ls [.ref q_112, .ref o]) rfl ?_
  refine pX3_12 hx hb hin hX hown k_124 kw641 dX3_init_54 (fun H locs hX => ?_)
  obtain ⟨μ_131, e_132⟩ : ∃ z, z = va_up μ_121 o (some (.inr (4, [.int 0, .int 0, .int 0, .int 0, .int 0, .int 0, .ref q_1, .ref q_12, .ref q_26, .ref q_43, .ref q_63, .ref q_86, .ref q_112, .null, .null]))) := ⟨_, rfl⟩
  rw [← e_132] at hX
  have k_133 : μ_131 o = some (.inr (4, [.int 0, .int 0, .int 0, .int 0, .int 0, .int 0, .ref q_1, .ref q_12, .ref q_26, .ref q_43, .ref q_63, .ref q_86, .ref q_112, .null, .null])) := by rw [e_132]; exact va_up_self _ _ _
  have k_134 := (congrFun e_132 q_1).trans ((va_up_ne _ _ (Ne.symm ne_3)).trans k_125)
  have k_135 := (congrFun e_132 q_12).trans ((va_up_ne _ _ (Ne.symm ne_14)).trans k_126)
  have k_136 := (congrFun e_132 q_26).trans ((va_up_ne _ _ (Ne.symm ne_28)).trans k_127)
  have k_137 := (congrFun e_132 q_43).trans ((va_up_ne _ _ (Ne.symm ne_45)).trans k_128)
  have k_138 := (congrFun e_132 q_63).trans ((va_up_ne _ _ (Ne.symm ne_65)).trans k_129)
  have k_139 := (congrFun e_132 q_86).trans ((va_up_ne _ _ (Ne.symm ne_88)).trans k_130)
  have k_140 := (congrFun e_132 q_112).trans ((va_up_ne _ _ (Ne.symm ne_114)).trans k_123)
  refine lv_aload_n hx hb dX3_init_57 rfl (lv_at hl 0 rfl) ?_
  refine lv_bipush (v := nI 10) hx hb dX3_init_58 (by decide) ?_
  refine n_newI hx hb hX kw675 (by decide) (Nat.le_of_ble_eq_true rfl) (Nat.le_of_ble_eq_true rfl) dX3_init_60 (fun q_141 H hq_142 hX => ?_)
  have ne_143 : o ≠ q_141 := fun z => by have h9 := k_133; rw [z, hq_142] at h9; cases h9
  have ne_144 : q_1 ≠ q_141 := fun z => by have h9 := k_134; rw [z, hq_142] at h9; cases h9
  have ne_145 : q_12 ≠ q_141 := fun z => by have h9 := k_135; rw [z, hq_142] at h9; cases h9
  have ne_146 : q_26 ≠ q_141 := fun z => by have h9 := k_136; rw [z, hq_142] at h9; cases h9
  have ne_147 : q_43 ≠ q_141 := fun z => by have h9 := k_137; rw [z, hq_142] at h9; cases h9
  have ne_148 : q_63 ≠ q_141 := fun z => by have h9 := k_138; rw [z, hq_142] at h9; cases h9
  have ne_149 : q_86 ≠ q_141 := fun z => by have h9 := k_139; rw [z, hq_142] at h9; cases h9
  have ne_150 : q_112 ≠ q_141 := fun z => by have h9 := k_140; rw [z, hq_142] at h9; cases h9
  obtain ⟨μ_151, e_152⟩ : ∃ z, z = va_up μ_131 q_141 (some (.inl (gI g, 10, .inl (fun _ => 0)))) := ⟨_, rfl⟩
  rw [← e_152] at hX
  have k_153 : μ_151 q_141 = some (.inl (gI g, 10, .inl (fun _ => 0))) := by rw [e_152]; exact va_up_self _ _ _
  have k_154 := (congrFun e_152 o).trans ((va_up_ne _ _ ne_143).trans k_133)
  have k_155 := (congrFun e_152 q_1).trans ((va_up_ne _ _ ne_144).trans k_134)
  have k_156 := (congrFun e_152 q_12).trans ((va_up_ne _ _ ne_145).trans k_135)
  have k_157 := (congrFun e_152 q_26).trans ((va_up_ne _ _ ne_146).trans k_136)
  have k_158 := (congrFun e_152 q_43).trans ((va_up_ne _ _ ne_147).trans k_137)
  have k_159 := (congrFun e_152 q_63).trans ((va_up_ne _ _ ne_148).trans k_138)
  have k_160 := (congrFun e_152 q_86).trans ((va_up_ne _ _ ne_149).trans k_139)
  have k_161 := (congrFun e_152 q_112).trans ((va_up_ne _ _ ne_150).trans k_140)
  refine W.eq (g2 := F0 m 62 ls [.ref q_141, .ref o]) rfl ?_
  refine pX3_13 hx hb hin hX hown k_154 kw642 dX3_init_62 (fun H locs hX => ?_)
  obtain ⟨μ_162, e_163⟩ : ∃ z, z = va_up μ_151 o (some (.inr (4, [.int 0, .int 0, .int 0, .int 0, .int 0, .int 0, .ref q_1, .ref q_12, .ref q_26, .ref q_43, .ref q_63, .ref q_86, .ref q_112, .ref q_141, .null]))) := ⟨_, rfl⟩
  rw [← e_163] at hX
  have k_164 : μ_162 o = some (.inr (4, [.int 0, .int 0, .int 0, .int 0, .int 0, .int 0, .ref q_1, .ref q_12, .ref q_26, .ref q_43, .ref q_63, .ref q_86, .ref q_112, .ref q_141, .null])) := by rw [e_163]; exact va_up_self _ _ _
  have k_165 := (congrFun e_163 q_1).trans ((va_up_ne _ _ (Ne.symm ne_3)).trans k_155)
  have k_166 := (congrFun e_163 q_12).trans ((va_up_ne _ _ (Ne.symm ne_14)).trans k_156)
  have k_167 := (congrFun e_163 q_26).trans ((va_up_ne _ _ (Ne.symm ne_28)).trans k_157)
  have k_168 := (congrFun e_163 q_43).trans ((va_up_ne _ _ (Ne.symm ne_45)).trans k_158)
  have k_169 := (congrFun e_163 q_63).trans ((va_up_ne _ _ (Ne.symm ne_65)).trans k_159)
  have k_170 := (congrFun e_163 q_86).trans ((va_up_ne _ _ (Ne.symm ne_88)).trans k_160)
  have k_171 := (congrFun e_163 q_112).trans ((va_up_ne _ _ (Ne.symm ne_114)).trans k_161)
  have k_172 := (congrFun e_163 q_141).trans ((va_up_ne _ _ (Ne.symm ne_143)).trans k_153)
  refine lv_aload_n hx hb dX3_init_65 rfl (lv_at hl 0 rfl) ?_
  refine lv_bipush (v := nI 10) hx hb dX3_init_66 (by decide) ?_
  refine n_newI hx hb hX kw675 (by decide) (Nat.le_of_ble_eq_true rfl) (Nat.le_of_ble_eq_true rfl) dX3_init_68 (fun q_173 H hq_174 hX => ?_)
  have ne_175 : o ≠ q_173 := fun z => by have h9 := k_164; rw [z, hq_174] at h9; cases h9
  have ne_176 : q_1 ≠ q_173 := fun z => by have h9 := k_165; rw [z, hq_174] at h9; cases h9
  have ne_177 : q_12 ≠ q_173 := fun z => by have h9 := k_166; rw [z, hq_174] at h9; cases h9
  have ne_178 : q_26 ≠ q_173 := fun z => by have h9 := k_167; rw [z, hq_174] at h9; cases h9
  have ne_179 : q_43 ≠ q_173 := fun z => by have h9 := k_168; rw [z, hq_174] at h9; cases h9
  have ne_180 : q_63 ≠ q_173 := fun z => by have h9 := k_169; rw [z, hq_174] at h9; cases h9
  have ne_181 : q_86 ≠ q_173 := fun z => by have h9 := k_170; rw [z, hq_174] at h9; cases h9
  have ne_182 : q_112 ≠ q_173 := fun z => by have h9 := k_171; rw [z, hq_174] at h9; cases h9
  have ne_183 : q_141 ≠ q_173 := fun z => by have h9 := k_172; rw [z, hq_174] at h9; cases h9
  obtain ⟨μ_184, e_185⟩ : ∃ z, z = va_up μ_162 q_173 (some (.inl (gI g, 10, .inl (fun _ => 0)))) := ⟨_, rfl⟩
  rw [← e_185] at hX
  have k_186 : μ_184 q_173 = some (.inl (gI g, 10, .inl (fun _ => 0))) := by rw [e_185]; exact va_up_self _ _ _
  have k_187 := (congrFun e_185 o).trans ((va_up_ne _ _ ne_175).trans k_164)
  have k_188 := (congrFun e_185 q_1).trans ((va_up_ne _ _ ne_176).trans k_165)
  have k_189 := (congrFun e_185 q_12).trans ((va_up_ne _ _ ne_177).trans k_166)
  have k_190 := (congrFun e_185 q_26).trans ((va_up_ne _ _ ne_178).trans k_167)
  have k_191 := (congrFun e_185 q_43).trans ((va_up_ne _ _ ne_179).trans k_168)
  have k_192 := (congrFun e_185 q_63).trans ((va_up_ne _ _ ne_180).trans k_169)
  have k_193 := (congrFun e_185 q_86).trans ((va_up_ne _ _ ne_181).trans k_170)
  have k_194 := (congrFun e_185 q_112).trans ((va_up_ne _ _ ne_182).trans k_171)
  have k_195 := (congrFun e_185 q_141).trans ((va_up_ne _ _ ne_183).trans k_172)
  refine W.eq (g2 := F0 m 70 ls [.ref q_173, .ref o]) rfl ?_
  refine pX3_14 hx hb hin hX hown k_187 kw643 dX3_init_70 (fun H locs hX => ?_)
  obtain ⟨μ_196, e_197⟩ : ∃ z, z = va_up μ_184 o (some (.inr (4, [.int 0, .int 0, .int 0, .int 0, .int 0, .int 0, .ref q_1, .ref q_12, .ref q_26, .ref q_43, .ref q_63, .ref q_86, .ref q_112, .ref q_141, .ref q_173]))) := ⟨_, rfl⟩
  rw [← e_197] at hX
  have k_198 : μ_196 o = some (.inr (4, [.int 0, .int 0, .int 0, .int 0, .int 0, .int 0, .ref q_1, .ref q_12, .ref q_26, .ref q_43, .ref q_63, .ref q_86, .ref q_112, .ref q_141, .ref q_173])) := by rw [e_197]; exact va_up_self _ _ _
  have k_199 := (congrFun e_197 q_1).trans ((va_up_ne _ _ (Ne.symm ne_3)).trans k_188)
  have k_200 := (congrFun e_197 q_12).trans ((va_up_ne _ _ (Ne.symm ne_14)).trans k_189)
  have k_201 := (congrFun e_197 q_26).trans ((va_up_ne _ _ (Ne.symm ne_28)).trans k_190)
  have k_202 := (congrFun e_197 q_43).trans ((va_up_ne _ _ (Ne.symm ne_45)).trans k_191)
  have k_203 := (congrFun e_197 q_63).trans ((va_up_ne _ _ (Ne.symm ne_65)).trans k_192)
  have k_204 := (congrFun e_197 q_86).trans ((va_up_ne _ _ (Ne.symm ne_88)).trans k_193)
  have k_205 := (congrFun e_197 q_112).trans ((va_up_ne _ _ (Ne.symm ne_114)).trans k_194)
  have k_206 := (congrFun e_197 q_141).trans ((va_up_ne _ _ (Ne.symm ne_143)).trans k_195)
  have k_207 := (congrFun e_197 q_173).trans ((va_up_ne _ _ (Ne.symm ne_175)).trans k_186)
  have kz0 : ∀ z e, z ≠ o → μ z = some e → μ z = some e := fun _ _ _ h => h
  have hn_208 : ∀ z e, z ≠ o → μ z = some e → z ≠ q_1 := fun z e n h c => by have h9 := kz0 z e n h; rw [c, hq_2] at h9; cases h9
  have kz_209 : ∀ z e, z ≠ o → μ z = some e → μ_4 z = some e := fun z e n h => (congrFun e_5 z).trans ((va_up_ne _ _ (hn_208 z e n h)).trans (kz0 z e n h))
  have kz_210 : ∀ z e, z ≠ o → μ z = some e → μ_8 z = some e := fun z e n h => (congrFun e_9 z).trans ((va_up_ne _ _ n).trans (kz_209 z e n h))
  have hn_211 : ∀ z e, z ≠ o → μ z = some e → z ≠ q_12 := fun z e n h c => by have h9 := kz_210 z e n h; rw [c, hq_13] at h9; cases h9
  have kz_212 : ∀ z e, z ≠ o → μ z = some e → μ_16 z = some e := fun z e n h => (congrFun e_17 z).trans ((va_up_ne _ _ (hn_211 z e n h)).trans (kz_210 z e n h))
  have kz_213 : ∀ z e, z ≠ o → μ z = some e → μ_21 z = some e := fun z e n h => (congrFun e_22 z).trans ((va_up_ne _ _ n).trans (kz_212 z e n h))
  have hn_214 : ∀ z e, z ≠ o → μ z = some e → z ≠ q_26 := fun z e n h c => by have h9 := kz_213 z e n h; rw [c, hq_27] at h9; cases h9
  have kz_215 : ∀ z e, z ≠ o → μ z = some e → μ_31 z = some e := fun z e n h => (congrFun e_32 z).trans ((va_up_ne _ _ (hn_214 z e n h)).trans (kz_213 z e n h))
  have kz_216 : ∀ z e, z ≠ o → μ z = some e → μ_37 z = some e := fun z e n h => (congrFun e_38 z).trans ((va_up_ne _ _ n).trans (kz_215 z e n h))
  have hn_217 : ∀ z e, z ≠ o → μ z = some e → z ≠ q_43 := fun z e n h c => by have h9 := kz_216 z e n h; rw [c, hq_44] at h9; cases h9
  have kz_218 : ∀ z e, z ≠ o → μ z = some e → μ_49 z = some e := fun z e n h => (congrFun e_50 z).trans ((va_up_ne _ _ (hn_217 z e n h)).trans (kz_216 z e n h))
  have kz_219 : ∀ z e, z ≠ o → μ z = some e → μ_56 z = some e := fun z e n h => (congrFun e_57 z).trans ((va_up_ne _ _ n).trans (kz_218 z e n h))
  have hn_220 : ∀ z e, z ≠ o → μ z = some e → z ≠ q_63 := fun z e n h c => by have h9 := kz_219 z e n h; rw [c, hq_64] at h9; cases h9
  have kz_221 : ∀ z e, z ≠ o → μ z = some e → μ_70 z = some e := fun z e n h => (congrFun e_71 z).trans ((va_up_ne _ _ (hn_220 z e n h)).trans (kz_219 z e n h))
  have kz_222 : ∀ z e, z ≠ o → μ z = some e → μ_78 z = some e := fun z e n h => (congrFun e_79 z).trans ((va_up_ne _ _ n).trans (kz_221 z e n h))
  have hn_223 : ∀ z e, z ≠ o → μ z = some e → z ≠ q_86 := fun z e n h c => by have h9 := kz_222 z e n h; rw [c, hq_87] at h9; cases h9
  have kz_224 : ∀ z e, z ≠ o → μ z = some e → μ_94 z = some e := fun z e n h => (congrFun e_95 z).trans ((va_up_ne _ _ (hn_223 z e n h)).trans (kz_222 z e n h))
  have kz_225 : ∀ z e, z ≠ o → μ z = some e → μ_103 z = some e := fun z e n h => (congrFun e_104 z).trans ((va_up_ne _ _ n).trans (kz_224 z e n h))
  have hn_226 : ∀ z e, z ≠ o → μ z = some e → z ≠ q_112 := fun z e n h c => by have h9 := kz_225 z e n h; rw [c, hq_113] at h9; cases h9
  have kz_227 : ∀ z e, z ≠ o → μ z = some e → μ_121 z = some e := fun z e n h => (congrFun e_122 z).trans ((va_up_ne _ _ (hn_226 z e n h)).trans (kz_225 z e n h))
  have kz_228 : ∀ z e, z ≠ o → μ z = some e → μ_131 z = some e := fun z e n h => (congrFun e_132 z).trans ((va_up_ne _ _ n).trans (kz_227 z e n h))
  have hn_229 : ∀ z e, z ≠ o → μ z = some e → z ≠ q_141 := fun z e n h c => by have h9 := kz_228 z e n h; rw [c, hq_142] at h9; cases h9
  have kz_230 : ∀ z e, z ≠ o → μ z = some e → μ_151 z = some e := fun z e n h => (congrFun e_152 z).trans ((va_up_ne _ _ (hn_229 z e n h)).trans (kz_228 z e n h))
  have kz_231 : ∀ z e, z ≠ o → μ z = some e → μ_162 z = some e := fun z e n h => (congrFun e_163 z).trans ((va_up_ne _ _ n).trans (kz_230 z e n h))
  have hn_232 : ∀ z e, z ≠ o → μ z = some e → z ≠ q_173 := fun z e n h c => by have h9 := kz_231 z e n h; rw [c, hq_174] at h9; cases h9
  have kz_233 : ∀ z e, z ≠ o → μ z = some e → μ_184 z = some e := fun z e n h => (congrFun e_185 z).trans ((va_up_ne _ _ (hn_232 z e n h)).trans (kz_231 z e n h))
  have kz_234 : ∀ z e, z ≠ o → μ z = some e → μ_196 z = some e := fun z e n h => (congrFun e_197 z).trans ((va_up_ne _ _ n).trans (kz_233 z e n h))
  have hDD : ∀ i j, i < j → 5 ≤ i → j ≤ 13 → Ωi o q_1 q_12 q_26 q_43 q_63 q_86 q_112 q_141 q_173 i ≠ Ωi o q_1 q_12 q_26 q_43 q_63 q_86 q_112 q_141 q_173 j := by
    intro i j h1 h2 h3
    obtain rfl | rfl | rfl | rfl | rfl | rfl | rfl | rfl : i = 5 ∨ i = 6 ∨ i = 7 ∨ i = 8 ∨ i = 9 ∨ i = 10 ∨ i = 11 ∨ i = 12 := by omega
    · obtain rfl | rfl | rfl | rfl | rfl | rfl | rfl | rfl : j = 6 ∨ j = 7 ∨ j = 8 ∨ j = 9 ∨ j = 10 ∨ j = 11 ∨ j = 12 ∨ j = 13 := by omega
      · exact ne_15
      · exact ne_29
      · exact ne_46
      · exact ne_66
      · exact ne_89
      · exact ne_115
      · exact ne_144
      · exact ne_176
    · obtain rfl | rfl | rfl | rfl | rfl | rfl | rfl : j = 7 ∨ j = 8 ∨ j = 9 ∨ j = 10 ∨ j = 11 ∨ j = 12 ∨ j = 13 := by omega
      · exact ne_30
      · exact ne_47
      · exact ne_67
      · exact ne_90
      · exact ne_116
      · exact ne_145
      · exact ne_177
    · obtain rfl | rfl | rfl | rfl | rfl | rfl : j = 8 ∨ j = 9 ∨ j = 10 ∨ j = 11 ∨ j = 12 ∨ j = 13 := by omega
      · exact ne_48
      · exact ne_68
      · exact ne_91
      · exact ne_117
      · exact ne_146
      · exact ne_178
    · obtain rfl | rfl | rfl | rfl | rfl : j = 9 ∨ j = 10 ∨ j = 11 ∨ j = 12 ∨ j = 13 := by omega
      · exact ne_69
      · exact ne_92
      · exact ne_118
      · exact ne_147
      · exact ne_179
    · obtain rfl | rfl | rfl | rfl : j = 10 ∨ j = 11 ∨ j = 12 ∨ j = 13 := by omega
      · exact ne_93
      · exact ne_119
      · exact ne_148
      · exact ne_180
    · obtain rfl | rfl | rfl : j = 11 ∨ j = 12 ∨ j = 13 := by omega
      · exact ne_120
      · exact ne_149
      · exact ne_181
    · obtain rfl | rfl : j = 12 ∨ j = 13 := by omega
      · exact ne_150
      · exact ne_182
    · obtain rfl : j = 13 := by omega
      · exact ne_183
  exact w_vret hx hb hr hlocks hX ⟨rfl, ⟨Ωi o q_1 q_12 q_26 q_43 q_63 q_86 q_112 q_141 q_173, rfl, k_198, k_199, k_200, k_201, k_202, k_203, k_204, k_205, k_206, k_207, hDD⟩, kz_234⟩ ⟨Nat.le_of_ble_eq_true rfl, Nat.le_of_ble_eq_true rfl⟩ dX3_init_73

