/-! THE MODEL: its cells, and what it answers -/
abbrev cM (Ω : Nat → Nat) (th : Nat) (σ : sSt) : va_E := .inr (4, [.int (nI th), .int (nI (σ 3 0)), .int (nI (σ 4 0)), .int (nI (σ 0 0)), .int (nI (σ 1 0)), .int (nI (σ 2 0)), .ref (Ω 5), .ref (Ω 6), .ref (Ω 7), .ref (Ω 8), .ref (Ω 9), .ref (Ω 10), .ref (Ω 11), .ref (Ω 12), .ref (Ω 13)])
abbrev cR (g : wG) (σ : sSt) (n k : Nat) : va_E := .inl (gI g, n, .inl (fun i => nI (σ k i)))
def mD (g : wG) (Ω : Nat → Nat) (th : Nat) (σ : sSt) (μ : wMu) : Prop :=
  μ (Ω 0) = some (cM Ω th σ) ∧ μ (Ω 5) = some (cR g σ 4 5) ∧ μ (Ω 6) = some (cR g σ 4 6) ∧ μ (Ω 7) = some (cR g σ 4 7) ∧ μ (Ω 8) = some (cR g σ 10 8) ∧ μ (Ω 9) = some (cR g σ 10 9) ∧ μ (Ω 10) = some (cR g σ 10 10) ∧ μ (Ω 11) = some (cR g σ 10 11) ∧ μ (Ω 12) = some (cR g σ 10 12) ∧ μ (Ω 13) = some (cR g σ 10 13) ∧ (∀ i j, i < j → 5 ≤ i → j ≤ 13 → Ω i ≠ Ω j)
def cd1 (p : Prop) [Decidable p] : Nat := if p then 0 else 1
def cd2 (p q : Prop) [Decidable p] [Decidable q] : Nat := if p then (if q then 0 else 2) else 1
def cd3 (p q r : Prop) [Decidable p] [Decidable q] [Decidable r] : Nat := if p then (if q then (if r then 0 else 3) else 2) else 1
def nx (c : Nat) (a b : sSt) : sSt := if c = 0 then a else b
theorem cd1_0 {p : Prop} [Decidable p] (h : p) : cd1 p = 0 := if_pos h
theorem cd1_1 {p : Prop} [Decidable p] (h : ¬ p) : cd1 p = 1 := if_neg h
theorem cd2_0 {p q : Prop} [Decidable p] [Decidable q] (h : p) (h2 : q) : cd2 p q = 0 := (if_pos h).trans (if_pos h2)
theorem cd2_1 {p q : Prop} [Decidable p] [Decidable q] (h : ¬ p) : cd2 p q = 1 := if_neg h
theorem cd2_2 {p q : Prop} [Decidable p] [Decidable q] (h : p) (h2 : ¬ q) : cd2 p q = 2 := (if_pos h).trans (if_neg h2)
theorem cd3_0 {p q r : Prop} [Decidable p] [Decidable q] [Decidable r] (h : p) (h2 : q) (h3 : r) : cd3 p q r = 0 := (if_pos h).trans ((if_pos h2).trans (if_pos h3))
theorem cd3_1 {p q r : Prop} [Decidable p] [Decidable q] [Decidable r] (h : ¬ p) : cd3 p q r = 1 := if_neg h
theorem cd3_2 {p q r : Prop} [Decidable p] [Decidable q] [Decidable r] (h : p) (h2 : ¬ q) : cd3 p q r = 2 := (if_pos h).trans (if_neg h2)
theorem cd3_3 {p q r : Prop} [Decidable p] [Decidable q] [Decidable r] (h : p) (h2 : q) (h3 : ¬ r) : cd3 p q r = 3 := (if_pos h).trans ((if_pos h2).trans (if_neg h3))
theorem nI_upd (τ : sSt) (k j v : Nat) : upd (fun i => nI (τ k i)) j (nI v) = fun i => nI (up2 τ k j v k i) := by
  funext i
  by_cases h : i = j
  · rw [h, up2_self, upd, if_pos rfl]
  · rw [up2_ni _ h, upd, if_neg h]

set_option maxHeartbeats 4000000 in
set_option maxRecDepth 100000 in
/-- what was thrown -/
theorem c_X3_thrown (l : Launch) (g : wG) (μ : wMu) (zz : Nat) {Ω : Nat → Nat} {σ : sSt} {th : Nat} (hM : mD g Ω th σ μ) (hO : sOk σ)  : wMet l yX3_thrown cX3_thrown 1 (some .int) 0 0 0 0 g [.ref (Ω 0)] μ zz (fun r μ' => r = some (.int (nI th)) ∧ μ' = μ) := by
  refine wMet.of (by decide) (Nat.le_of_ble_eq_true rfl) ?_
  intro p e s m below meth c ls hx hb hr hml hown hlocks hin hl hsz hX
  have hl : lv_has ls 1 [(0, .ref (Ω 0))] := hl
  obtain ⟨r0, r5, r6, r7, r8, r9, r10, r11, r12, r13, hD⟩ := id hM
  obtain ⟨o1, o2, o3, o4, o5, o6, o7⟩ := id hO
  refine lv_aload_n hx hb dX3_thrown_0 rfl (lv_at hl 0 rfl) ?_
  refine gX3_0 hx hb hX hown r0 kw629 dX3_thrown_1 ?_
  exact w_iret hx hb hr hlocks hX ⟨rfl, rfl⟩ ⟨Nat.le_of_ble_eq_true rfl, Nat.le_of_ble_eq_true rfl⟩ dX3_thrown_4

set_option maxHeartbeats 4000000 in
set_option maxRecDepth 100000 in
/-- no -/
theorem c_X3_no (l : Launch) (g : wG) (μ : wMu) (zz : Nat) {Ω : Nat → Nat} {σ : sSt} {th : Nat} (hM : mD g Ω th σ μ) (hO : sOk σ) {k : Nat} : wMet l yX3_no cX3_no 2 (some .int) 0 0 0 0 g [.ref (Ω 0), .int (nI k)] μ zz (fun r μ' => r = some (.int (nI 0)) ∧ mD g Ω k σ μ') := by
  refine wMet.of (by decide) (Nat.le_of_ble_eq_true rfl) ?_
  intro p e s m below meth c ls hx hb hr hml hown hlocks hin hl hsz hX
  have hl : lv_has ls 2 [(0, .ref (Ω 0)), (1, .int (nI k))] := hl
  obtain ⟨r0, r5, r6, r7, r8, r9, r10, r11, r12, r13, hD⟩ := id hM
  obtain ⟨o1, o2, o3, o4, o5, o6, o7⟩ := id hO
  refine lv_aload_n hx hb dX3_no_0 rfl (lv_at hl 0 rfl) ?_
  refine lv_iload_n hx hb dX3_no_1 rfl (lv_at hl 1 rfl) ?_
  refine pX3_0 hx hb hX hown r0 kw629 dX3_no_2 (fun H locs hX => ?_)
  obtain ⟨μ_1, e_2⟩ : ∃ z, z = va_up μ (Ω 0) (some (.inr (4, [.int (nI k), .int (nI (σ 3 0)), .int (nI (σ 4 0)), .int (nI (σ 0 0)), .int (nI (σ 1 0)), .int (nI (σ 2 0)), .ref (Ω 5), .ref (Ω 6), .ref (Ω 7), .ref (Ω 8), .ref (Ω 9), .ref (Ω 10), .ref (Ω 11), .ref (Ω 12), .ref (Ω 13)]))) := ⟨_, rfl⟩
  rw [← e_2] at hX
  have k_3 : μ_1 (Ω 0) = some (.inr (4, [.int (nI k), .int (nI (σ 3 0)), .int (nI (σ 4 0)), .int (nI (σ 0 0)), .int (nI (σ 1 0)), .int (nI (σ 2 0)), .ref (Ω 5), .ref (Ω 6), .ref (Ω 7), .ref (Ω 8), .ref (Ω 9), .ref (Ω 10), .ref (Ω 11), .ref (Ω 12), .ref (Ω 13)])) := by rw [e_2]; exact va_up_self _ _ _
  have k_4 := (congrFun e_2 (Ω 5)).trans ((va_up_ne _ _ (Ne.symm (kd_ne r0 r5 rfl))).trans r5)
  have k_5 := (congrFun e_2 (Ω 6)).trans ((va_up_ne _ _ (Ne.symm (kd_ne r0 r6 rfl))).trans r6)
  have k_6 := (congrFun e_2 (Ω 7)).trans ((va_up_ne _ _ (Ne.symm (kd_ne r0 r7 rfl))).trans r7)
  have k_7 := (congrFun e_2 (Ω 8)).trans ((va_up_ne _ _ (Ne.symm (kd_ne r0 r8 rfl))).trans r8)
  have k_8 := (congrFun e_2 (Ω 9)).trans ((va_up_ne _ _ (Ne.symm (kd_ne r0 r9 rfl))).trans r9)
  have k_9 := (congrFun e_2 (Ω 10)).trans ((va_up_ne _ _ (Ne.symm (kd_ne r0 r10 rfl))).trans r10)
  have k_10 := (congrFun e_2 (Ω 11)).trans ((va_up_ne _ _ (Ne.symm (kd_ne r0 r11 rfl))).trans r11)
  have k_11 := (congrFun e_2 (Ω 12)).trans ((va_up_ne _ _ (Ne.symm (kd_ne r0 r12 rfl))).trans r12)
  have k_12 := (congrFun e_2 (Ω 13)).trans ((va_up_ne _ _ (Ne.symm (kd_ne r0 r13 rfl))).trans r13)
  refine lv_iconst (v := nI 0) hx hb dX3_no_5 (by decide) ?_
  exact w_iret hx hb hr hlocks hX ⟨rfl, ⟨k_3, k_4, k_5, k_6, k_7, k_8, k_9, k_10, k_11, k_12, hD⟩⟩ ⟨Nat.le_of_ble_eq_true rfl, Nat.le_of_ble_eq_true rfl⟩ dX3_no_6

set_option maxHeartbeats 4000000 in
set_option maxRecDepth 100000 in
/-- no -/
theorem c_X3_isNot (l : Launch) (g : wG) (μ : wMu) (zz : Nat) {Ω : Nat → Nat} {σ : sSt} {th : Nat} (hM : mD g Ω th σ μ) (hO : sOk σ) {k : Nat} : wMet l yX3_isNot cX3_isNot 2 (some .boolean) 0 0 0 0 g [.ref (Ω 0), .int (nI k)] μ zz (fun r μ' => r = some (.int (nI 0)) ∧ mD g Ω k σ μ') := by
  refine wMet.of (by decide) (Nat.le_of_ble_eq_true rfl) ?_
  intro p e s m below meth c ls hx hb hr hml hown hlocks hin hl hsz hX
  have hl : lv_has ls 2 [(0, .ref (Ω 0)), (1, .int (nI k))] := hl
  obtain ⟨r0, r5, r6, r7, r8, r9, r10, r11, r12, r13, hD⟩ := id hM
  obtain ⟨o1, o2, o3, o4, o5, o6, o7⟩ := id hO
  refine lv_aload_n hx hb dX3_isNot_0 rfl (lv_at hl 0 rfl) ?_
  refine lv_iload_n hx hb dX3_isNot_1 rfl (lv_at hl 1 rfl) ?_
  refine pX3_0 hx hb hX hown r0 kw629 dX3_isNot_2 (fun H locs hX => ?_)
  obtain ⟨μ_1, e_2⟩ : ∃ z, z = va_up μ (Ω 0) (some (.inr (4, [.int (nI k), .int (nI (σ 3 0)), .int (nI (σ 4 0)), .int (nI (σ 0 0)), .int (nI (σ 1 0)), .int (nI (σ 2 0)), .ref (Ω 5), .ref (Ω 6), .ref (Ω 7), .ref (Ω 8), .ref (Ω 9), .ref (Ω 10), .ref (Ω 11), .ref (Ω 12), .ref (Ω 13)]))) := ⟨_, rfl⟩
  rw [← e_2] at hX
  have k_3 : μ_1 (Ω 0) = some (.inr (4, [.int (nI k), .int (nI (σ 3 0)), .int (nI (σ 4 0)), .int (nI (σ 0 0)), .int (nI (σ 1 0)), .int (nI (σ 2 0)), .ref (Ω 5), .ref (Ω 6), .ref (Ω 7), .ref (Ω 8), .ref (Ω 9), .ref (Ω 10), .ref (Ω 11), .ref (Ω 12), .ref (Ω 13)])) := by rw [e_2]; exact va_up_self _ _ _
  have k_4 := (congrFun e_2 (Ω 5)).trans ((va_up_ne _ _ (Ne.symm (kd_ne r0 r5 rfl))).trans r5)
  have k_5 := (congrFun e_2 (Ω 6)).trans ((va_up_ne _ _ (Ne.symm (kd_ne r0 r6 rfl))).trans r6)
  have k_6 := (congrFun e_2 (Ω 7)).trans ((va_up_ne _ _ (Ne.symm (kd_ne r0 r7 rfl))).trans r7)
  have k_7 := (congrFun e_2 (Ω 8)).trans ((va_up_ne _ _ (Ne.symm (kd_ne r0 r8 rfl))).trans r8)
  have k_8 := (congrFun e_2 (Ω 9)).trans ((va_up_ne _ _ (Ne.symm (kd_ne r0 r9 rfl))).trans r9)
  have k_9 := (congrFun e_2 (Ω 10)).trans ((va_up_ne _ _ (Ne.symm (kd_ne r0 r10 rfl))).trans r10)
  have k_10 := (congrFun e_2 (Ω 11)).trans ((va_up_ne _ _ (Ne.symm (kd_ne r0 r11 rfl))).trans r11)
  have k_11 := (congrFun e_2 (Ω 12)).trans ((va_up_ne _ _ (Ne.symm (kd_ne r0 r12 rfl))).trans r12)
  have k_12 := (congrFun e_2 (Ω 13)).trans ((va_up_ne _ _ (Ne.symm (kd_ne r0 r13 rfl))).trans r13)
  refine lv_iconst (v := nI 0) hx hb dX3_isNot_5 (by decide) ?_
  exact w_zret hx hb hr hlocks hX (by first | rfl | decide) ⟨rfl, ⟨k_3, k_4, k_5, k_6, k_7, k_8, k_9, k_10, k_11, k_12, hD⟩⟩ ⟨Nat.le_of_ble_eq_true rfl, Nat.le_of_ble_eq_true rfl⟩ dX3_isNot_6

set_option maxHeartbeats 4000000 in
set_option maxRecDepth 100000 in
/-- yes -/
theorem c_X3_ok (l : Launch) (g : wG) (μ : wMu) (zz : Nat) {Ω : Nat → Nat} {σ : sSt} {th : Nat} (hM : mD g Ω th σ μ) (hO : sOk σ) {v : Int32} : wMet l yX3_ok cX3_ok 2 (some .int) 0 0 0 0 g [.ref (Ω 0), .int v] μ zz (fun r μ' => r = some (.int v) ∧ mD g Ω 0 σ μ') := by
  refine wMet.of (by decide) (Nat.le_of_ble_eq_true rfl) ?_
  intro p e s m below meth c ls hx hb hr hml hown hlocks hin hl hsz hX
  have hl : lv_has ls 2 [(0, .ref (Ω 0)), (1, .int v)] := hl
  obtain ⟨r0, r5, r6, r7, r8, r9, r10, r11, r12, r13, hD⟩ := id hM
  obtain ⟨o1, o2, o3, o4, o5, o6, o7⟩ := id hO
  refine lv_aload_n hx hb dX3_ok_0 rfl (lv_at hl 0 rfl) ?_
  refine lv_iconst (v := nI 0) hx hb dX3_ok_1 (by decide) ?_
  refine pX3_0 hx hb hX hown r0 kw629 dX3_ok_2 (fun H locs hX => ?_)
  obtain ⟨μ_1, e_2⟩ : ∃ z, z = va_up μ (Ω 0) (some (.inr (4, [.int (nI 0), .int (nI (σ 3 0)), .int (nI (σ 4 0)), .int (nI (σ 0 0)), .int (nI (σ 1 0)), .int (nI (σ 2 0)), .ref (Ω 5), .ref (Ω 6), .ref (Ω 7), .ref (Ω 8), .ref (Ω 9), .ref (Ω 10), .ref (Ω 11), .ref (Ω 12), .ref (Ω 13)]))) := ⟨_, rfl⟩
  rw [← e_2] at hX
  have k_3 : μ_1 (Ω 0) = some (.inr (4, [.int (nI 0), .int (nI (σ 3 0)), .int (nI (σ 4 0)), .int (nI (σ 0 0)), .int (nI (σ 1 0)), .int (nI (σ 2 0)), .ref (Ω 5), .ref (Ω 6), .ref (Ω 7), .ref (Ω 8), .ref (Ω 9), .ref (Ω 10), .ref (Ω 11), .ref (Ω 12), .ref (Ω 13)])) := by rw [e_2]; exact va_up_self _ _ _
  have k_4 := (congrFun e_2 (Ω 5)).trans ((va_up_ne _ _ (Ne.symm (kd_ne r0 r5 rfl))).trans r5)
  have k_5 := (congrFun e_2 (Ω 6)).trans ((va_up_ne _ _ (Ne.symm (kd_ne r0 r6 rfl))).trans r6)
  have k_6 := (congrFun e_2 (Ω 7)).trans ((va_up_ne _ _ (Ne.symm (kd_ne r0 r7 rfl))).trans r7)
  have k_7 := (congrFun e_2 (Ω 8)).trans ((va_up_ne _ _ (Ne.symm (kd_ne r0 r8 rfl))).trans r8)
  have k_8 := (congrFun e_2 (Ω 9)).trans ((va_up_ne _ _ (Ne.symm (kd_ne r0 r9 rfl))).trans r9)
  have k_9 := (congrFun e_2 (Ω 10)).trans ((va_up_ne _ _ (Ne.symm (kd_ne r0 r10 rfl))).trans r10)
  have k_10 := (congrFun e_2 (Ω 11)).trans ((va_up_ne _ _ (Ne.symm (kd_ne r0 r11 rfl))).trans r11)
  have k_11 := (congrFun e_2 (Ω 12)).trans ((va_up_ne _ _ (Ne.symm (kd_ne r0 r12 rfl))).trans r12)
  have k_12 := (congrFun e_2 (Ω 13)).trans ((va_up_ne _ _ (Ne.symm (kd_ne r0 r13 rfl))).trans r13)
  refine lv_iload_n hx hb dX3_ok_5 rfl (lv_at hl 1 rfl) ?_
  exact w_iret hx hb hr hlocks hX ⟨rfl, ⟨k_3, k_4, k_5, k_6, k_7, k_8, k_9, k_10, k_11, k_12, hD⟩⟩ ⟨Nat.le_of_ble_eq_true rfl, Nat.le_of_ble_eq_true rfl⟩ dX3_ok_6

set_option maxHeartbeats 4000000 in
set_option maxRecDepth 100000 in
/-- in a range -/
theorem c_X3_isIn (l : Launch) (g : wG) (μ : wMu) (zz : Nat) {x hi : Int32} {a : Nat} (h1 : a < 2 ^ 31) : wMet l yX3_isIn cX3_isIn 3 (some .boolean) 0 0 0 0 g [.int x, .int (nI a), .int hi] μ zz (fun r μ' => ((r = some (.int (nI 1)) ∧ (a : Int) ≤ x.toInt ∧ x.toInt ≤ hi.toInt) ∨ (r = some (.int (nI 0)) ∧ ¬ ((a : Int) ≤ x.toInt ∧ x.toInt ≤ hi.toInt))) ∧ μ' = μ) := by
  refine wMet.of (by decide) (Nat.le_of_ble_eq_true rfl) ?_
  intro p e s m below meth c ls hx hb hr hml hown hlocks hin hl hsz hX
  have hl : lv_has ls 3 [(0, .int x), (1, .int (nI a)), (2, .int hi)] := hl
  refine lv_iload_n hx hb dX3_isIn_0 rfl (lv_at hl 0 rfl) ?_
  refine lv_iload_n hx hb dX3_isIn_1 rfl (lv_at hl 1 rfl) ?_
  refine lv_icmp_lt (tgt := 14) hx hb dX3_isIn_2 (by decide) (fun c_1 => ?_) (fun c_1 => ?_)
  · skip
    rw [lt_nI h1] at c_1
    refine lv_iconst (v := nI 0) hx hb dX3_isIn_14 (by decide) ?_
    exact w_zret hx hb hr hlocks hX (by first | rfl | decide) ⟨Or.inr ⟨rfl, by omega⟩, rfl⟩ ⟨Nat.le_of_ble_eq_true rfl, Nat.le_of_ble_eq_true rfl⟩ dX3_isIn_15
  · skip
    rw [lt_nI h1] at c_1
    refine lv_iload_n hx hb dX3_isIn_5 rfl (lv_at hl 0 rfl) ?_
    refine lv_iload_n hx hb dX3_isIn_6 rfl (lv_at hl 2 rfl) ?_
    refine lv_icmp_gt (tgt := 14) hx hb dX3_isIn_7 (by decide) (fun c_2 => ?_) (fun c_2 => ?_)
    · skip
      rw [Int32.lt_iff_toInt_lt] at c_2
      refine lv_iconst (v := nI 0) hx hb dX3_isIn_14 (by decide) ?_
      exact w_zret hx hb hr hlocks hX (by first | rfl | decide) ⟨Or.inr ⟨rfl, by omega⟩, rfl⟩ ⟨Nat.le_of_ble_eq_true rfl, Nat.le_of_ble_eq_true rfl⟩ dX3_isIn_15
    · skip
      rw [Int32.lt_iff_toInt_lt] at c_2
      refine lv_iconst (v := nI 1) hx hb dX3_isIn_10 (by decide) ?_
      refine lv_goto (tgt := 15) hx hb dX3_isIn_11 (by decide) ?_
      exact w_zret hx hb hr hlocks hX (by first | rfl | decide) ⟨Or.inl ⟨rfl, by omega⟩, rfl⟩ ⟨Nat.le_of_ble_eq_true rfl, Nat.le_of_ble_eq_true rfl⟩ dX3_isIn_15

set_option maxHeartbeats 4000000 in
set_option maxRecDepth 100000 in
/-- a number of one -/
theorem c_X3_isWand (l : Launch) (g : wG) (μ : wMu) (zz : Nat) {Ω : Nat → Nat} {σ : sSt} {th : Nat} (hM : mD g Ω th σ μ) (hO : sOk σ) {x : Int32} : wMet l yX3_isWand cX3_isWand 2 (some .boolean) 1 0 0 22 g [.ref (Ω 0), .int x] μ zz (fun r μ' => ((r = some (.int (nI 1)) ∧ isX x (σ 3 0)) ∨ (r = some (.int (nI 0)) ∧ ¬ (isX x (σ 3 0)))) ∧ μ' = μ) := by
  refine wMet.of (by decide) (Nat.le_of_ble_eq_true rfl) ?_
  intro p e s m below meth c ls hx hb hr hml hown hlocks hin hl hsz hX
  have hl : lv_has ls 2 [(0, .ref (Ω 0)), (1, .int x)] := hl
  obtain ⟨r0, r5, r6, r7, r8, r9, r10, r11, r12, r13, hD⟩ := id hM
  obtain ⟨o1, o2, o3, o4, o5, o6, o7⟩ := id hO
  refine lv_iload_n hx hb dX3_isWand_0 rfl (lv_at hl 1 rfl) ?_
  refine lv_iconst (v := nI 0) hx hb dX3_isWand_1 (by decide) ?_
  refine lv_aload_n hx hb dX3_isWand_2 rfl (lv_at hl 0 rfl) ?_
  refine gX3_1 hx hb hX hown r0 kw630 dX3_isWand_3 ?_
  refine lv_iconst (v := nI 1) hx hb dX3_isWand_6 (by decide) ?_
  refine n_isub hx hb dX3_isWand_7 rfl ?_
  refine w_call (w_runS (n := 3) (As := [.int x, .int (nI 0), .int ((nI (σ 3 0)) - (nI 1))]) (rest := []) hx hb hml hown hX (c_X3_isIn l g μ s.heap.size (by decide)) kw686 kw7 kw684 kw685 wn_X3_isIn rfl ⟨Nat.le_of_ble_eq_true rfl, Nat.le_of_ble_eq_true rfl⟩ hl.1 rfl (Nat.le_of_ble_eq_true rfl) dX3_isWand_8 ⟨Nat.le_of_ble_eq_true rfl, Nat.le_of_ble_eq_true rfl⟩) hX (fun r_3 μ_1 H locs q_2 hX hz => ?_)
  obtain ⟨q_5, e_4⟩ := q_2
  rw [e_4] at hX
  obtain ⟨rfl, p_6⟩ | ⟨rfl, p_7⟩ := q_5
  · skip
    refine W.eq (g2 := F0 m 11 ls [.int (nI 1)]) rfl ?_
    rw [pk_sub_toInt (by omega) (by omega)] at p_6
    exact w_zret hx hb hr hlocks hX (by first | rfl | decide) ⟨Or.inl ⟨rfl, (by unfold isX; omega)⟩, rfl⟩ ⟨Nat.le_of_ble_eq_true rfl, Nat.le_of_ble_eq_true rfl⟩ dX3_isWand_11
  · skip
    refine W.eq (g2 := F0 m 11 ls [.int (nI 0)]) rfl ?_
    rw [pk_sub_toInt (by omega) (by omega)] at p_7
    exact w_zret hx hb hr hlocks hX (by first | rfl | decide) ⟨Or.inr ⟨rfl, (by unfold isX; omega)⟩, rfl⟩ ⟨Nat.le_of_ble_eq_true rfl, Nat.le_of_ble_eq_true rfl⟩ dX3_isWand_11

set_option maxHeartbeats 4000000 in
set_option maxRecDepth 100000 in
/-- a number of one -/
theorem c_X3_isChild (l : Launch) (g : wG) (μ : wMu) (zz : Nat) {Ω : Nat → Nat} {σ : sSt} {th : Nat} (hM : mD g Ω th σ μ) (hO : sOk σ) {x : Int32} : wMet l yX3_isChild cX3_isChild 2 (some .boolean) 1 0 0 22 g [.ref (Ω 0), .int x] μ zz (fun r μ' => ((r = some (.int (nI 1)) ∧ isX x (σ 4 0)) ∨ (r = some (.int (nI 0)) ∧ ¬ (isX x (σ 4 0)))) ∧ μ' = μ) := by
  refine wMet.of (by decide) (Nat.le_of_ble_eq_true rfl) ?_
  intro p e s m below meth c ls hx hb hr hml hown hlocks hin hl hsz hX
  have hl : lv_has ls 2 [(0, .ref (Ω 0)), (1, .int x)] := hl
  obtain ⟨r0, r5, r6, r7, r8, r9, r10, r11, r12, r13, hD⟩ := id hM
  obtain ⟨o1, o2, o3, o4, o5, o6, o7⟩ := id hO
  refine lv_iload_n hx hb dX3_isChild_0 rfl (lv_at hl 1 rfl) ?_
  refine lv_iconst (v := nI 0) hx hb dX3_isChild_1 (by decide) ?_
  refine lv_aload_n hx hb dX3_isChild_2 rfl (lv_at hl 0 rfl) ?_
  refine gX3_2 hx hb hX hown r0 kw631 dX3_isChild_3 ?_
  refine lv_iconst (v := nI 1) hx hb dX3_isChild_6 (by decide) ?_
  refine n_isub hx hb dX3_isChild_7 rfl ?_
  refine w_call (w_runS (n := 3) (As := [.int x, .int (nI 0), .int ((nI (σ 4 0)) - (nI 1))]) (rest := []) hx hb hml hown hX (c_X3_isIn l g μ s.heap.size (by decide)) kw686 kw7 kw684 kw685 wn_X3_isIn rfl ⟨Nat.le_of_ble_eq_true rfl, Nat.le_of_ble_eq_true rfl⟩ hl.1 rfl (Nat.le_of_ble_eq_true rfl) dX3_isChild_8 ⟨Nat.le_of_ble_eq_true rfl, Nat.le_of_ble_eq_true rfl⟩) hX (fun r_3 μ_1 H locs q_2 hX hz => ?_)
  obtain ⟨q_5, e_4⟩ := q_2
  rw [e_4] at hX
  obtain ⟨rfl, p_6⟩ | ⟨rfl, p_7⟩ := q_5
  · skip
    refine W.eq (g2 := F0 m 11 ls [.int (nI 1)]) rfl ?_
    rw [pk_sub_toInt (by omega) (by omega)] at p_6
    exact w_zret hx hb hr hlocks hX (by first | rfl | decide) ⟨Or.inl ⟨rfl, (by unfold isX; omega)⟩, rfl⟩ ⟨Nat.le_of_ble_eq_true rfl, Nat.le_of_ble_eq_true rfl⟩ dX3_isChild_11
  · skip
    refine W.eq (g2 := F0 m 11 ls [.int (nI 0)]) rfl ?_
    rw [pk_sub_toInt (by omega) (by omega)] at p_7
    exact w_zret hx hb hr hlocks hX (by first | rfl | decide) ⟨Or.inr ⟨rfl, (by unfold isX; omega)⟩, rfl⟩ ⟨Nat.le_of_ble_eq_true rfl, Nat.le_of_ble_eq_true rfl⟩ dX3_isChild_11

set_option maxHeartbeats 4000000 in
set_option maxRecDepth 100000 in
/-- a size -/
theorem c_X3_isSize (l : Launch) (g : wG) (μ : wMu) (zz : Nat) {x : Int32} : wMet l yX3_isSize cX3_isSize 1 (some .boolean) 1 0 0 22 g [.int x] μ zz (fun r μ' => ((r = some (.int (nI 1)) ∧ isI x 1 20) ∨ (r = some (.int (nI 0)) ∧ ¬ (isI x 1 20))) ∧ μ' = μ) := by
  refine wMet.of (by decide) (Nat.le_of_ble_eq_true rfl) ?_
  intro p e s m below meth c ls hx hb hr hml hown hlocks hin hl hsz hX
  have hl : lv_has ls 1 [(0, .int x)] := hl
  refine lv_iload_n hx hb dX3_isSize_0 rfl (lv_at hl 0 rfl) ?_
  refine lv_iconst (v := nI 1) hx hb dX3_isSize_1 (by decide) ?_
  refine lv_bipush (v := nI 20) hx hb dX3_isSize_2 (by decide) ?_
  refine w_call (w_runS (n := 3) (As := [.int x, .int (nI 1), .int (nI 20)]) (rest := []) hx hb hml hown hX (c_X3_isIn l g μ s.heap.size (by decide)) kw686 kw7 kw684 kw685 wn_X3_isIn rfl ⟨Nat.le_of_ble_eq_true rfl, Nat.le_of_ble_eq_true rfl⟩ hl.1 rfl (Nat.le_of_ble_eq_true rfl) dX3_isSize_4 ⟨Nat.le_of_ble_eq_true rfl, Nat.le_of_ble_eq_true rfl⟩) hX (fun r_3 μ_1 H locs q_2 hX hz => ?_)
  obtain ⟨q_5, e_4⟩ := q_2
  rw [e_4] at hX
  obtain ⟨rfl, p_6⟩ | ⟨rfl, p_7⟩ := q_5
  · skip
    refine W.eq (g2 := F0 m 7 ls [.int (nI 1)]) rfl ?_
    rw [nI_toInt (by decide)] at p_6
    exact w_zret hx hb hr hlocks hX (by first | rfl | decide) ⟨Or.inl ⟨rfl, p_6⟩, rfl⟩ ⟨Nat.le_of_ble_eq_true rfl, Nat.le_of_ble_eq_true rfl⟩ dX3_isSize_7
  · skip
    refine W.eq (g2 := F0 m 7 ls [.int (nI 0)]) rfl ?_
    rw [nI_toInt (by decide)] at p_7
    exact w_zret hx hb hr hlocks hX (by first | rfl | decide) ⟨Or.inr ⟨rfl, p_7⟩, rfl⟩ ⟨Nat.le_of_ble_eq_true rfl, Nat.le_of_ble_eq_true rfl⟩ dX3_isSize_7

set_option maxHeartbeats 4000000 in
set_option maxRecDepth 100000 in
/-- the day -/
theorem c_X3_dayOf (l : Launch) (g : wG) (μ : wMu) (zz : Nat) {h : Nat} (h1 : h < 2 ^ 31) : wMet l yX3_dayOf cX3_dayOf 1 (some .int) 0 0 0 0 g [.int (nI h)] μ zz (fun r μ' => r = some (.int (nI (h / 24))) ∧ μ' = μ) := by
  refine wMet.of (by decide) (Nat.le_of_ble_eq_true rfl) ?_
  intro p e s m below meth c ls hx hb hr hml hown hlocks hin hl hsz hX
  have hl : lv_has ls 1 [(0, .int (nI h))] := hl
  refine lv_iload_n hx hb dX3_dayOf_0 rfl (lv_at hl 0 rfl) ?_
  refine lv_bipush (v := nI 24) hx hb dX3_dayOf_1 (by decide) ?_
  refine n_idiv hx hb dX3_dayOf_3 (by decide) (pk_div (by omega) (by decide) (by decide)) ?_
  exact w_iret hx hb hr hlocks hX ⟨rfl, rfl⟩ ⟨Nat.le_of_ble_eq_true rfl, Nat.le_of_ble_eq_true rfl⟩ dX3_dayOf_4

set_option maxHeartbeats 4000000 in
set_option maxRecDepth 100000 in
/-- the burst in so many hours -/
theorem c_X3_burstIn (l : Launch) (g : wG) (μ : wMu) (zz : Nat) {Ω : Nat → Nat} {σ : sSt} {th : Nat} (hM : mD g Ω th σ μ) (hO : sOk σ) {j k : Nat} (hj : j < σ 4 0) (hk : k ≤ 100) : wMet l yX3_burstIn cX3_burstIn 4 (some .int) 1 0 0 20 g [.ref (Ω 0), .int (nI j), .int (nI k)] μ zz (fun r μ' => r = some (.int (nI (bIn σ j k))) ∧ μ' = μ) := by
  refine wMet.of (by decide) (Nat.le_of_ble_eq_true rfl) ?_
  intro p e s m below meth c ls hx hb hr hml hown hlocks hin hl hsz hX
  have hl : lv_has ls 4 [(0, .ref (Ω 0)), (1, .int (nI j)), (2, .int (nI k))] := hl
  obtain ⟨r0, r5, r6, r7, r8, r9, r10, r11, r12, r13, hD⟩ := id hM
  obtain ⟨o1, o2, o3, o4, o5, o6, o7⟩ := id hO
  have ocb := o4 j hj
  refine lv_aload_n hx hb dX3_burstIn_0 rfl (lv_at hl 0 rfl) ?_
  refine gX3_3 hx hb hX hown r0 kw632 dX3_burstIn_1 ?_
  refine lv_iload_n hx hb dX3_burstIn_4 rfl (lv_at hl 2 rfl) ?_
  refine n_iadd hx hb dX3_burstIn_5 (nI_add _ _) ?_
  refine w_call (w_runS (n := 1) (As := [.int (nI ((σ 0 0) + k))]) (rest := []) hx hb hml hown hX (c_X3_dayOf l g μ s.heap.size (by omega)) kw701 kw7 kw699 kw700 wn_X3_dayOf rfl ⟨Nat.le_of_ble_eq_true rfl, Nat.le_of_ble_eq_true rfl⟩ hl.1 rfl (Nat.le_of_ble_eq_true rfl) dX3_burstIn_6 ⟨Nat.le_of_ble_eq_true rfl, Nat.le_of_ble_eq_true rfl⟩) hX (fun r_3 μ_1 H locs q_2 hX hz => ?_)
  obtain ⟨rfl, e_4⟩ := q_2
  rw [e_4] at hX
  refine W.eq (g2 := F0 m 9 ls [.int (nI (((σ 0 0) + k) / 24))]) rfl ?_
  refine lv_istore_n (lv' := [(3, .int (nI (((σ 0 0) + k) / 24))), (0, .ref (Ω 0)), (1, .int (nI j)), (2, .int (nI k))]) hx hb dX3_burstIn_9 rfl hl (by decide) rfl (fun ls hl => ?_)
  refine lv_iload_n hx hb dX3_burstIn_10 rfl (lv_at hl 0 rfl) ?_
  refine lv_aload_n hx hb dX3_burstIn_11 rfl (lv_at hl 1 rfl) ?_
  refine gX3_3 hx hb hX hown r0 kw632 dX3_burstIn_12 ?_
  refine w_call (w_runS (n := 1) (As := [.int (nI (σ 0 0))]) (rest := [.int (nI (((σ 0 0) + k) / 24))]) hx hb hml hown hX (c_X3_dayOf l g μ H.size (by omega)) kw701 kw7 kw699 kw700 wn_X3_dayOf rfl ⟨Nat.le_of_ble_eq_true rfl, Nat.le_of_ble_eq_true rfl⟩ hl.1 rfl (Nat.le_of_ble_eq_true rfl) dX3_burstIn_15 ⟨Nat.le_of_ble_eq_true rfl, Nat.le_of_ble_eq_true rfl⟩) hX (fun r_7 μ_5 H locs q_6 hX hz => ?_)
  obtain ⟨rfl, e_8⟩ := q_6
  rw [e_8] at hX
  refine W.eq (g2 := F0 m 18 ls [.int (nI ((σ 0 0) / 24)), .int (nI (((σ 0 0) + k) / 24))]) rfl ?_
  refine n_ne (tgt := 28) hx hb (by omega) (by omega) dX3_burstIn_18 (by decide) (fun c_9 => ?_) (fun c_9 => ?_)
  · skip
    refine lv_iload_n hx hb dX3_burstIn_28 rfl (lv_at hl 0 rfl) ?_
    refine lv_bipush (v := nI 30) hx hb dX3_burstIn_29 (by decide) ?_
    refine n_irem hx hb dX3_burstIn_31 (by decide) (pk_rem (by omega) (by decide) (by decide)) ?_
    refine lv_aload_n hx hb dX3_burstIn_32 rfl (lv_at hl 1 rfl) ?_
    refine gX3_10 hx hb hX hown r0 kw639 dX3_burstIn_33 ?_
    refine lv_iload_n hx hb dX3_burstIn_36 rfl (lv_at hl 2 rfl) ?_
    refine n_iald hx hb hX r9 (by omega) (by omega) dX3_burstIn_37 ?_
    refine n_ne (tgt := 46) hx hb (by omega) (by omega) dX3_burstIn_38 (by decide) (fun c_10 => ?_) (fun c_10 => ?_)
    · skip
      refine lv_iconst (v := nI 0) hx hb dX3_burstIn_46 (by decide) ?_
      exact w_iret hx hb hr hlocks hX ⟨by unfold bIn bstD; rw [if_neg (by omega), if_neg (by omega)], rfl⟩ ⟨Nat.le_of_ble_eq_true rfl, Nat.le_of_ble_eq_true rfl⟩ dX3_burstIn_47
    · skip
      refine lv_bipush (v := nI 12) hx hb dX3_burstIn_41 (by decide) ?_
      refine lv_goto (tgt := 47) hx hb dX3_burstIn_43 (by decide) ?_
      exact w_iret hx hb hr hlocks hX ⟨by unfold bIn bstD; rw [if_neg (by omega), if_pos (by omega)], rfl⟩ ⟨Nat.le_of_ble_eq_true rfl, Nat.le_of_ble_eq_true rfl⟩ dX3_burstIn_47
  · skip
    refine lv_aload_n hx hb dX3_burstIn_21 rfl (lv_at hl 1 rfl) ?_
    refine gX3_11 hx hb hX hown r0 kw640 dX3_burstIn_22 ?_
    refine lv_iload_n hx hb dX3_burstIn_25 rfl (lv_at hl 2 rfl) ?_
    refine n_iald hx hb hX r10 (by omega) (by omega) dX3_burstIn_26 ?_
    exact w_iret hx hb hr hlocks hX ⟨by unfold bIn; rw [if_pos (by omega)], rfl⟩ ⟨Nat.le_of_ble_eq_true rfl, Nat.le_of_ble_eq_true rfl⟩ dX3_burstIn_27

set_option maxHeartbeats 4000000 in
set_option maxRecDepth 100000 in
/-- all grains -/
theorem c_X3_all (l : Launch) (g : wG) (μ : wMu) (zz : Nat) {Ω : Nat → Nat} {σ : sSt} {th : Nat} (hM : mD g Ω th σ μ) (hO : sOk σ) {j : Nat} (hj : j < σ 4 0) : wMet l yX3_all cX3_all 2 (some .int) 0 0 0 0 g [.ref (Ω 0), .int (nI j)] μ zz (fun r μ' => r = some (.int (nI (σ 10 j + σ 7 (σ 8 j)))) ∧ μ' = μ) := by
  refine wMet.of (by decide) (Nat.le_of_ble_eq_true rfl) ?_
  intro p e s m below meth c ls hx hb hr hml hown hlocks hin hl hsz hX
  have hl : lv_has ls 2 [(0, .ref (Ω 0)), (1, .int (nI j))] := hl
  obtain ⟨r0, r5, r6, r7, r8, r9, r10, r11, r12, r13, hD⟩ := id hM
  obtain ⟨o1, o2, o3, o4, o5, o6, o7⟩ := id hO
  have ocb := o4 j hj
  refine lv_aload_n hx hb dX3_all_0 rfl (lv_at hl 0 rfl) ?_
  refine gX3_11 hx hb hX hown r0 kw640 dX3_all_1 ?_
  refine lv_iload_n hx hb dX3_all_4 rfl (lv_at hl 1 rfl) ?_
  refine n_iald hx hb hX r10 (by omega) (by omega) dX3_all_5 ?_
  refine lv_aload_n hx hb dX3_all_6 rfl (lv_at hl 0 rfl) ?_
  refine gX3_8 hx hb hX hown r0 kw637 dX3_all_7 ?_
  refine lv_aload_n hx hb dX3_all_10 rfl (lv_at hl 0 rfl) ?_
  refine gX3_9 hx hb hX hown r0 kw638 dX3_all_11 ?_
  refine lv_iload_n hx hb dX3_all_14 rfl (lv_at hl 1 rfl) ?_
  refine n_iald hx hb hX r8 (by omega) (by omega) dX3_all_15 ?_
  refine n_iald hx hb hX r7 (by omega) (by omega) dX3_all_16 ?_
  refine n_iadd hx hb dX3_all_17 (nI_add _ _) ?_
  exact w_iret hx hb hr hlocks hX ⟨rfl, rfl⟩ ⟨Nat.le_of_ble_eq_true rfl, Nat.le_of_ble_eq_true rfl⟩ dX3_all_18

set_option maxHeartbeats 4000000 in
set_option maxRecDepth 100000 in
/-- granted or not -/
theorem c_X3_isGranted (l : Launch) (g : wG) (μ : wMu) (zz : Nat) {Ω : Nat → Nat} {σ : sSt} {th : Nat} (hM : mD g Ω th σ μ) (hO : sOk σ) {j sz : Nat} (hj : j < σ 4 0) (hz : sz ≤ 20) : wMet l yX3_isGranted cX3_isGranted 3 (some .boolean) 1 0 0 21 g [.ref (Ω 0), .int (nI j), .int (nI sz)] μ zz (fun r μ' => ((r = some (.int (nI 1)) ∧ okW σ j sz) ∨ (r = some (.int (nI 0)) ∧ ¬ (okW σ j sz))) ∧ μ' = μ) := by
  refine wMet.of (by decide) (Nat.le_of_ble_eq_true rfl) ?_
  intro p e s m below meth c ls hx hb hr hml hown hlocks hin hl hsz hX
  have hl : lv_has ls 3 [(0, .ref (Ω 0)), (1, .int (nI j)), (2, .int (nI sz))] := hl
  obtain ⟨r0, r5, r6, r7, r8, r9, r10, r11, r12, r13, hD⟩ := id hM
  obtain ⟨o1, o2, o3, o4, o5, o6, o7⟩ := id hO
  have ocb := o4 j hj
  have owb := o3 _ ocb.1
  refine lv_aload_n hx hb dX3_isGranted_0 rfl (lv_at hl 0 rfl) ?_
  refine gX3_12 hx hb hX hown r0 kw641 dX3_isGranted_1 ?_
  refine lv_iload_n hx hb dX3_isGranted_4 rfl (lv_at hl 1 rfl) ?_
  refine n_iald hx hb hX r11 (by omega) (by omega) dX3_isGranted_5 ?_
  refine n_if_ne (tgt := 22) hx hb (by omega) dX3_isGranted_6 (by decide) (fun c_1 => ?_) (fun c_1 => ?_)
  · skip
    refine lv_iconst (v := nI 0) hx hb dX3_isGranted_22 (by decide) ?_
    exact w_zret hx hb hr hlocks hX (by first | rfl | decide) ⟨Or.inr ⟨rfl, by unfold okW; omega⟩, rfl⟩ ⟨Nat.le_of_ble_eq_true rfl, Nat.le_of_ble_eq_true rfl⟩ dX3_isGranted_23
  · skip
    refine lv_aload_n hx hb dX3_isGranted_9 rfl (lv_at hl 0 rfl) ?_
    refine lv_iload_n hx hb dX3_isGranted_10 rfl (lv_at hl 1 rfl) ?_
    refine w_call (w_runV (n := 1) (As := [.int (nI j)]) (rest := []) hx hb hml hown hX (c_X3_all l g μ s.heap.size hM hO hj) kw732 kw7 kw729 kw731 kp31 wn_X3_all rfl r0 rfl ⟨Nat.le_of_ble_eq_true rfl, Nat.le_of_ble_eq_true rfl⟩ hl.1 rfl (Nat.le_of_ble_eq_true rfl) dX3_isGranted_11 ⟨Nat.le_of_ble_eq_true rfl, Nat.le_of_ble_eq_true rfl⟩) hX (fun r_4 μ_2 H locs q_3 hX hz => ?_)
    obtain ⟨rfl, e_5⟩ := q_3
    rw [e_5] at hX
    refine W.eq (g2 := F0 m 14 ls [.int (nI (σ 10 j + σ 7 (σ 8 j)))]) rfl ?_
    refine lv_iload_n hx hb dX3_isGranted_14 rfl (lv_at hl 2 rfl) ?_
    refine n_lt (tgt := 22) hx hb (by omega) (by omega) dX3_isGranted_15 (by decide) (fun c_6 => ?_) (fun c_6 => ?_)
    · skip
      refine lv_iconst (v := nI 0) hx hb dX3_isGranted_22 (by decide) ?_
      exact w_zret hx hb hr hlocks hX (by first | rfl | decide) ⟨Or.inr ⟨rfl, by unfold okW; omega⟩, rfl⟩ ⟨Nat.le_of_ble_eq_true rfl, Nat.le_of_ble_eq_true rfl⟩ dX3_isGranted_23
    · skip
      refine lv_iconst (v := nI 1) hx hb dX3_isGranted_18 (by decide) ?_
      refine lv_goto (tgt := 23) hx hb dX3_isGranted_19 (by decide) ?_
      exact w_zret hx hb hr hlocks hX (by first | rfl | decide) ⟨Or.inl ⟨rfl, by unfold okW; omega⟩, rfl⟩ ⟨Nat.le_of_ble_eq_true rfl, Nat.le_of_ble_eq_true rfl⟩ dX3_isGranted_23

set_option maxHeartbeats 4000000 in
set_option maxRecDepth 100000 in
/-- what is left -/
theorem c_X3_leaves (l : Launch) (g : wG) (μ : wMu) (zz : Nat) {Ω : Nat → Nat} {σ : sSt} {th : Nat} (hM : mD g Ω th σ μ) (hO : sOk σ) {j sz : Nat} (hj : j < σ 4 0) (hz : sz ≤ 20) (hk : okW σ j sz) : wMet l yX3_leaves cX3_leaves 3 (some .int) 1 0 0 21 g [.ref (Ω 0), .int (nI j), .int (nI sz)] μ zz (fun r μ' => r = some (.int (nI (lft σ j sz))) ∧ μ' = μ) := by
  refine wMet.of (by decide) (Nat.le_of_ble_eq_true rfl) ?_
  intro p e s m below meth c ls hx hb hr hml hown hlocks hin hl hsz hX
  have hl : lv_has ls 3 [(0, .ref (Ω 0)), (1, .int (nI j)), (2, .int (nI sz))] := hl
  obtain ⟨r0, r5, r6, r7, r8, r9, r10, r11, r12, r13, hD⟩ := id hM
  obtain ⟨o1, o2, o3, o4, o5, o6, o7⟩ := id hO
  have ocb := o4 j hj
  have owb := o3 _ ocb.1
  have okb := hk.2
  refine lv_aload_n hx hb dX3_leaves_0 rfl (lv_at hl 0 rfl) ?_
  refine gX3_8 hx hb hX hown r0 kw637 dX3_leaves_1 ?_
  refine lv_aload_n hx hb dX3_leaves_4 rfl (lv_at hl 0 rfl) ?_
  refine gX3_9 hx hb hX hown r0 kw638 dX3_leaves_5 ?_
  refine lv_iload_n hx hb dX3_leaves_8 rfl (lv_at hl 1 rfl) ?_
  refine n_iald hx hb hX r8 (by omega) (by omega) dX3_leaves_9 ?_
  refine n_iald hx hb hX r7 (by omega) (by omega) dX3_leaves_10 ?_
  refine lv_iconst (v := nI 0) hx hb dX3_leaves_11 (by decide) ?_
  refine lv_iload_n hx hb dX3_leaves_12 rfl (lv_at hl 2 rfl) ?_
  refine lv_aload_n hx hb dX3_leaves_13 rfl (lv_at hl 0 rfl) ?_
  refine gX3_11 hx hb hX hown r0 kw640 dX3_leaves_14 ?_
  refine lv_iload_n hx hb dX3_leaves_17 rfl (lv_at hl 1 rfl) ?_
  refine n_iald hx hb hX r10 (by omega) (by omega) dX3_leaves_18 ?_
  refine n_isub hx hb dX3_leaves_19 rfl ?_
  refine n_mmax hx hb (hml.trans hl.1.symm) hX hown kw738 kStMax kInMath kCdMax ⟨Nat.le_of_ble_eq_true rfl, Nat.le_of_ble_eq_true rfl⟩ ⟨Nat.le_of_ble_eq_true rfl, Nat.le_of_ble_eq_true rfl⟩ dX3_leaves_20 (nI_max0 (by omega) (by omega)) ?_
  refine n_isub hx hb dX3_leaves_23 (pk_sub (by omega)) ?_
  exact w_iret hx hb hr hlocks hX ⟨rfl, rfl⟩ ⟨Nat.le_of_ble_eq_true rfl, Nat.le_of_ble_eq_true rfl⟩ dX3_leaves_24

set_option maxHeartbeats 4000000 in
set_option maxRecDepth 100000 in
/-- the greatest wish -/
theorem c_X3_greatest (l : Launch) (g : wG) (μ : wMu) (zz : Nat) {Ω : Nat → Nat} {σ : sSt} {th : Nat} (hM : mD g Ω th σ μ) (hO : sOk σ) {j : Nat} (hj : j < σ 4 0) : wMet l yX3_greatest cX3_greatest 2 (some .int) 1 0 0 21 g [.ref (Ω 0), .int (nI j)] μ zz (fun r μ' => r = some (.int (nI (vGrt σ j))) ∧ μ' = μ) := by
  refine wMet.of (by decide) (Nat.le_of_ble_eq_true rfl) ?_
  intro p e s m below meth c ls hx hb hr hml hown hlocks hin hl hsz hX
  have hl : lv_has ls 2 [(0, .ref (Ω 0)), (1, .int (nI j))] := hl
  obtain ⟨r0, r5, r6, r7, r8, r9, r10, r11, r12, r13, hD⟩ := id hM
  obtain ⟨o1, o2, o3, o4, o5, o6, o7⟩ := id hO
  have ocb := o4 j hj
  have owb := o3 _ ocb.1
  refine lv_aload_n hx hb dX3_greatest_0 rfl (lv_at hl 0 rfl) ?_
  refine gX3_12 hx hb hX hown r0 kw641 dX3_greatest_1 ?_
  refine lv_iload_n hx hb dX3_greatest_4 rfl (lv_at hl 1 rfl) ?_
  refine n_iald hx hb hX r11 (by omega) (by omega) dX3_greatest_5 ?_
  refine n_if_le (tgt := 13) hx hb (by omega) dX3_greatest_6 (by decide) (fun c_1 => ?_) (fun c_1 => ?_)
  · skip
    refine lv_bipush (v := nI 20) hx hb dX3_greatest_13 (by decide) ?_
    refine lv_aload_n hx hb dX3_greatest_15 rfl (lv_at hl 0 rfl) ?_
    refine lv_iload_n hx hb dX3_greatest_16 rfl (lv_at hl 1 rfl) ?_
    refine w_call (w_runV (n := 1) (As := [.int (nI j)]) (rest := [.int (nI 20)]) hx hb hml hown hX (c_X3_all l g μ s.heap.size hM hO hj) kw732 kw7 kw729 kw731 kp31 wn_X3_all rfl r0 rfl ⟨Nat.le_of_ble_eq_true rfl, Nat.le_of_ble_eq_true rfl⟩ hl.1 rfl (Nat.le_of_ble_eq_true rfl) dX3_greatest_17 ⟨Nat.le_of_ble_eq_true rfl, Nat.le_of_ble_eq_true rfl⟩) hX (fun r_4 μ_2 H locs q_3 hX hz => ?_)
    obtain ⟨rfl, e_5⟩ := q_3
    rw [e_5] at hX
    refine W.eq (g2 := F0 m 20 ls [.int (nI (σ 10 j + σ 7 (σ 8 j))), .int (nI 20)]) rfl ?_
    refine n_mmin hx hb (hml.trans hl.1.symm) hX hown kw737 kStMin kInMath kCdMin ⟨Nat.le_of_ble_eq_true rfl, Nat.le_of_ble_eq_true rfl⟩ ⟨Nat.le_of_ble_eq_true rfl, Nat.le_of_ble_eq_true rfl⟩ dX3_greatest_20 (nI_min (by omega) (by omega)) ?_
    exact w_iret hx hb hr hlocks hX ⟨by unfold vGrt; rw [if_neg (by omega)], rfl⟩ ⟨Nat.le_of_ble_eq_true rfl, Nat.le_of_ble_eq_true rfl⟩ dX3_greatest_23
  · skip
    refine lv_iconst (v := nI 0) hx hb dX3_greatest_9 (by decide) ?_
    refine lv_goto (tgt := 23) hx hb dX3_greatest_10 (by decide) ?_
    exact w_iret hx hb hr hlocks hX ⟨by unfold vGrt; rw [if_pos (by omega)], rfl⟩ ⟨Nat.le_of_ble_eq_true rfl, Nat.le_of_ble_eq_true rfl⟩ dX3_greatest_23

set_option maxHeartbeats 4000000 in
set_option maxRecDepth 100000 in
/-- days to the birthday -/
theorem c_X3_daysTo (l : Launch) (g : wG) (μ : wMu) (zz : Nat) {Ω : Nat → Nat} {σ : sSt} {th : Nat} (hM : mD g Ω th σ μ) (hO : sOk σ) {j : Nat} (hj : j < σ 4 0) : wMet l yX3_daysTo cX3_daysTo 2 (some .int) 1 0 0 20 g [.ref (Ω 0), .int (nI j)] μ zz (fun r μ' => r = some (.int (nI (vDay σ j))) ∧ μ' = μ) := by
  refine wMet.of (by decide) (Nat.le_of_ble_eq_true rfl) ?_
  intro p e s m below meth c ls hx hb hr hml hown hlocks hin hl hsz hX
  have hl : lv_has ls 2 [(0, .ref (Ω 0)), (1, .int (nI j))] := hl
  obtain ⟨r0, r5, r6, r7, r8, r9, r10, r11, r12, r13, hD⟩ := id hM
  obtain ⟨o1, o2, o3, o4, o5, o6, o7⟩ := id hO
  have ocb := o4 j hj
  refine lv_aload_n hx hb dX3_daysTo_0 rfl (lv_at hl 0 rfl) ?_
  refine gX3_10 hx hb hX hown r0 kw639 dX3_daysTo_1 ?_
  refine lv_iload_n hx hb dX3_daysTo_4 rfl (lv_at hl 1 rfl) ?_
  refine n_iald hx hb hX r9 (by omega) (by omega) dX3_daysTo_5 ?_
  refine lv_bipush (v := nI 30) hx hb dX3_daysTo_6 (by decide) ?_
  refine n_iadd hx hb dX3_daysTo_8 (nI_add _ _) ?_
  refine lv_aload_n hx hb dX3_daysTo_9 rfl (lv_at hl 0 rfl) ?_
  refine gX3_3 hx hb hX hown r0 kw632 dX3_daysTo_10 ?_
  refine w_call (w_runS (n := 1) (As := [.int (nI (σ 0 0))]) (rest := [.int (nI ((σ 9 j) + 30))]) hx hb hml hown hX (c_X3_dayOf l g μ s.heap.size (by omega)) kw701 kw7 kw699 kw700 wn_X3_dayOf rfl ⟨Nat.le_of_ble_eq_true rfl, Nat.le_of_ble_eq_true rfl⟩ hl.1 rfl (Nat.le_of_ble_eq_true rfl) dX3_daysTo_13 ⟨Nat.le_of_ble_eq_true rfl, Nat.le_of_ble_eq_true rfl⟩) hX (fun r_3 μ_1 H locs q_2 hX hz => ?_)
  obtain ⟨rfl, e_4⟩ := q_2
  rw [e_4] at hX
  refine W.eq (g2 := F0 m 16 ls [.int (nI ((σ 0 0) / 24)), .int (nI ((σ 9 j) + 30))]) rfl ?_
  refine lv_bipush (v := nI 30) hx hb dX3_daysTo_16 (by decide) ?_
  refine n_irem hx hb dX3_daysTo_18 (by decide) (pk_rem (by omega) (by decide) (by decide)) ?_
  refine n_isub hx hb dX3_daysTo_19 (pk_sub (by omega)) ?_
  refine lv_bipush (v := nI 30) hx hb dX3_daysTo_20 (by decide) ?_
  refine n_irem hx hb dX3_daysTo_22 (by decide) (pk_rem (by omega) (by decide) (by decide)) ?_
  exact w_iret hx hb hr hlocks hX ⟨rfl, rfl⟩ ⟨Nat.le_of_ble_eq_true rfl, Nat.le_of_ble_eq_true rfl⟩ dX3_daysTo_23

