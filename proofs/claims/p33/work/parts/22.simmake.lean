set_option maxHeartbeats 4000000 in
set_option maxRecDepth 100000 in
/-- a row more -/
theorem c_X3_with (l : Launch) (g : wG) (μ : wMu) (zz : Nat) {a b n bk : Nat} {f : Nat → Option Nat} {bh : Nat → Int32} (h0 : μ a = some (sA g n f)) (h1 : μ b = some (sR g bk bh)) (hrow : ∀ i, i < n → ∃ r rk rh, f i = some r ∧ μ r = some (sR g rk rh)) (hn : n ≤ 10) : wMet l yX3_with cX3_with 4 (some (.array (.array .int))) 0 1 11 0 g [.ref a, .ref b] μ zz (fun r μ' => ∃ q F, r = some (.ref q) ∧ μ q = none ∧ μ' q = some (sA g (n + 1) F) ∧ (∀ i, i < n → F i = f i) ∧ F n = some b ∧ ∀ z, z ≠ q → μ' z = μ z) := by
  refine wMet.of (by decide) (Nat.le_of_ble_eq_true rfl) ?_
  intro p e s m below meth c ls hx hb hr hml hown hlocks hin hl hsz hX
  have hl : lv_has ls 4 [(0, .ref a), (1, .ref b)] := hl
  refine lv_aload_n hx hb dX3_with_0 rfl (lv_at hl 0 rfl) ?_
  refine n_alenR hx hb hX h0 dX3_with_1 ?_
  refine lv_iconst (v := nI 1) hx hb dX3_with_2 (by decide) ?_
  refine n_iadd hx hb dX3_with_3 (nI_add _ _) ?_
  refine n_newR hx hb hX hown kw521 kw522 (by omega) (Nat.le_of_ble_eq_true rfl) (show 0 + (n + 1) ≤ 11 by omega) dX3_with_4 (fun q_1 H hq_2 hX => ?_)
  refine W.widen (k := 1) (n := 11) (by omega) (by omega) ?_
  have ne_3 : a ≠ q_1 := fun z => by have h9 := h0; rw [z, hq_2] at h9; cases h9
  obtain ⟨μ_4, e_5⟩ : ∃ z, z = va_up μ q_1 (some (sA g (n + 1) (fun _ => none))) := ⟨_, rfl⟩
  rw [← e_5] at hX
  have k_6 : μ_4 q_1 = some (sA g (n + 1) (fun _ => none)) := by rw [e_5]; exact va_up_self _ _ _
  have k_7 := (congrFun e_5 a).trans ((va_up_ne _ _ ne_3).trans h0)
  refine W.eq (g2 := F0 m 7 ls [.ref q_1]) rfl ?_
  refine lv_astore_n (lv' := [(2, .ref q_1), (0, .ref a), (1, .ref b)]) hx hb dX3_with_7 rfl hl (by decide) rfl (fun ls hl => ?_)
  refine lv_iconst (v := nI 0) hx hb dX3_with_8 (by decide) ?_
  refine lv_istore_n (lv' := [(3, .int (nI 0)), (2, .ref q_1), (0, .ref a), (1, .ref b)]) hx hb dX3_with_9 rfl hl (by decide) rfl (fun ls hl => ?_)
  have hloop : ∀ (n_9 : Nat) (i : Nat) (F : Nat → Option Nat) (ν : wMu) (H : Heap) (locs : List Loc) (ls : Array Slot), n < i + n_9 → i ≤ n → ν q_1 = some (sA g (n + 1) F) → (∀ k, k < i → F k = f k) → (∀ z, z ≠ q_1 → ν z = μ z) → wX g (wA μ zz) s H locs ν → lv_has ls 4 [(3, .int (nI i)), (2, .ref q_1), (0, .ref a), (1, .ref b)] → W p l e ({ frames := 0, cells := 1, slots := 11, locals := 0 } : Room) s m ([.ref a, .ref b] : List Value).toArray below meth c H locs 1 11 (MQ below (wQc g μ zz (fun r μ' => ∃ q F, r = some (.ref q) ∧ μ q = none ∧ μ' q = some (sA g (n + 1) F) ∧ (∀ i, i < n → F i = f i) ∧ F n = some b ∧ ∀ z, z ≠ q → μ' z = μ z)) ([.ref a, .ref b] : List Value).toArray s 1 11 (wA μ zz)) (F0 m 10 ls []) := by
    intro n_9
    induction n_9 with
    | zero => intro i F ν H locs ls hn hi hq hF hz hX hl; exact absurd hn (by omega)
    | succ n_9 ih =>
      intro i F ν H locs ls hn hi hq hF hz hX hl
      have ka := (hz a ne_3).trans h0
      refine lv_iload_n hx hb dX3_with_10 rfl (lv_at hl 0 rfl) ?_
      refine lv_aload_n hx hb dX3_with_11 rfl (lv_at hl 2 rfl) ?_
      refine n_alenR hx hb hX ka dX3_with_12 ?_
      refine n_ge (tgt := 28) hx hb (by omega) (by omega) dX3_with_13 (by decide) (fun c_8 => ?_) (fun c_8 => ?_)
      · skip
        have hbq : b ≠ q_1 := fun z => by rw [z, hq_2] at h1; cases h1
        have kb := (hz b hbq).trans h1
        obtain rfl : n = i := by omega
        refine lv_aload_n hx hb dX3_with_28 rfl (lv_at hl 1 rfl) ?_
        refine lv_aload_n hx hb dX3_with_29 rfl (lv_at hl 2 rfl) ?_
        refine n_alenR hx hb hX ka dX3_with_30 ?_
        refine lv_aload_n hx hb dX3_with_31 rfl (lv_at hl 3 rfl) ?_
        refine n_aastR hx hb hX hq kw522 kb (by omega) (by omega) dX3_with_32 (fun H locs hX => ?_)
        obtain ⟨μ_9, e_10⟩ : ∃ z, z = va_up ν q_1 (some (sA g (n + 1) (va_up F n (some b)))) := ⟨_, rfl⟩
        rw [← e_10] at hX
        have k_11 : μ_9 q_1 = some (sA g (n + 1) (va_up F n (some b))) := by rw [e_10]; exact va_up_self _ _ _
        have k_12 := (congrFun e_10 a).trans ((va_up_ne _ _ ne_3).trans ka)
        refine lv_aload_n hx hb dX3_with_33 rfl (lv_at hl 1 rfl) ?_
        exact w_aret hx hb hr (Or.inr ⟨_, rfl⟩) hlocks hX ⟨q_1, _, rfl, hq_2, k_11, fun k h => by rw [va_up_ne _ _ (by omega)]; exact hF k h, va_up_self _ _ _, fun z hn => by rw [e_10, va_up_ne _ _ hn]; exact hz z hn⟩ ⟨Nat.le_of_ble_eq_true rfl, Nat.le_of_ble_eq_true rfl⟩ dX3_with_34
      · skip
        refine lv_aload_n hx hb dX3_with_16 rfl (lv_at hl 1 rfl) ?_
        refine lv_iload_n hx hb dX3_with_17 rfl (lv_at hl 0 rfl) ?_
        refine lv_aload_n hx hb dX3_with_18 rfl (lv_at hl 2 rfl) ?_
        refine lv_iload_n hx hb dX3_with_19 rfl (lv_at hl 0 rfl) ?_
        obtain ⟨r, rk, rh, hfr, hrc⟩ := hrow i (by omega)
        refine n_aaldRv hx hb hX ka (by omega) (by omega) dX3_with_20 hfr ?_
        have hrq : r ≠ q_1 := fun z => by rw [z, hq_2] at hrc; cases hrc
        have krow := (hz r hrq).trans hrc
        refine n_aastR hx hb hX hq kw522 krow (by omega) (by omega) dX3_with_21 (fun H locs hX => ?_)
        obtain ⟨μ_13, e_14⟩ : ∃ z, z = va_up ν q_1 (some (sA g (n + 1) (va_up F i (some r)))) := ⟨_, rfl⟩
        rw [← e_14] at hX
        have k_15 : μ_13 q_1 = some (sA g (n + 1) (va_up F i (some r))) := by rw [e_14]; exact va_up_self _ _ _
        have k_16 := (congrFun e_14 a).trans ((va_up_ne _ _ ne_3).trans ka)
        refine lv_iinc (v := nI (i + 1)) (lv' := [(3, .int (nI (i + 1))), (2, .ref q_1), (0, .ref a), (1, .ref b)]) hx hb dX3_with_22 hl (k := 0) rfl (nI_inc _) (by decide) rfl (fun ls hl => ?_)
        refine lv_goto (tgt := 10) hx hb dX3_with_25 (by decide) ?_
        refine ih (i + 1) _ _ H locs ls (by omega) (by omega) k_15 (fun k h => by by_cases z : k = i; (rw [z, va_up_self]; exact hfr.symm); (rw [va_up_ne _ _ z]; exact hF k (by omega))) (fun z hn => by rw [e_14, va_up_ne _ _ hn]; exact hz z hn) hX ?_
        exact lv_sub hl [0, 1, 2, 3] rfl
  exact hloop (n + 1) 0 _ μ_4 H [] _ (by omega) (by omega) k_6 (fun k h => absurd h (by omega)) (fun z hn => by rw [e_5, va_up_ne _ _ hn]) hX hl

def Ωi (o q1 q2 : Nat) : sSt := fun f _ => match f with
  | 0 => o
  | 1 => q1
  | _ => q2
set_option maxHeartbeats 4000000 in
set_option maxRecDepth 100000 in
/-- a new one -/
theorem c_X3_init (l : Launch) (g : wG) (μ : wMu) (zz : Nat) {o : Nat} (h0 : μ o = some (.inr (4, [.null, .null, .int 0, .int 0, .int 0]))) : wMet l yX3_init cX3_init 1 none 1 2 0 12 g [.ref o] μ zz (fun r μ' => r = none ∧ (∃ Ω : sSt, Ω 0 0 = o ∧ μ (Ω 1 0) = none ∧ μ (Ω 2 0) = none ∧ sD g Ω (fun _ => 0) (fun _ _ => 0) μ') ∧ ∀ z e, z ≠ o → μ z = some e → μ' z = some e) := by
  refine wMet.of (by decide) (Nat.le_of_ble_eq_true rfl) ?_
  intro p e s m below meth c ls hx hb hr hml hown hlocks hin hl hsz hX
  have hl : lv_has ls 1 [(0, .ref o)] := hl
  refine lv_aload_n hx hb dX3_init_0 rfl (lv_at hl 0 rfl) ?_
  refine W.objInit hx hb hown (hX.w kw626) (hX.w kInsObj) (hX.w kCdObj) rfl (by rw [hml]; exact hl.1) rfl dX3_init_1 (Nat.le_of_ble_eq_true rfl) (Nat.le_of_ble_eq_true rfl) ?_
  refine W.eq (g2 := F0 m 4 ls []) rfl ?_
  refine lv_aload_n hx hb dX3_init_4 rfl (lv_at hl 0 rfl) ?_
  refine lv_iconst (v := nI 0) hx hb dX3_init_5 (by decide) ?_
  refine n_newR hx hb hX hown kw521 kw522 (by omega) (Nat.le_of_ble_eq_true rfl) (Nat.le_of_ble_eq_true rfl) dX3_init_6 (fun q_1 H hq_2 hX => ?_)
  have ne_3 : o ≠ q_1 := fun z => by have h9 := h0; rw [z, hq_2] at h9; cases h9
  obtain ⟨μ_4, e_5⟩ : ∃ z, z = va_up μ q_1 (some (sA g 0 (fun _ => none))) := ⟨_, rfl⟩
  rw [← e_5] at hX
  have k_6 : μ_4 q_1 = some (sA g 0 (fun _ => none)) := by rw [e_5]; exact va_up_self _ _ _
  have k_7 := (congrFun e_5 o).trans ((va_up_ne _ _ ne_3).trans h0)
  refine W.eq (g2 := F0 m 9 ls [.ref q_1, .ref o]) rfl ?_
  refine pX3_0 hx hb hX hown k_7 kw627 dX3_init_9 (fun H locs hX => ?_)
  obtain ⟨μ_8, e_9⟩ : ∃ z, z = va_up μ_4 o (some (.inr (4, [.ref q_1, .null, .int 0, .int 0, .int 0]))) := ⟨_, rfl⟩
  rw [← e_9] at hX
  have k_10 : μ_8 o = some (.inr (4, [.ref q_1, .null, .int 0, .int 0, .int 0])) := by rw [e_9]; exact va_up_self _ _ _
  have k_11 := (congrFun e_9 q_1).trans ((va_up_ne _ _ (Ne.symm ne_3)).trans k_6)
  refine lv_aload_n hx hb dX3_init_12 rfl (lv_at hl 0 rfl) ?_
  refine lv_iconst (v := nI 0) hx hb dX3_init_13 (by decide) ?_
  refine n_newR hx hb hX hown kw521 kw522 (by omega) (Nat.le_of_ble_eq_true rfl) (Nat.le_of_ble_eq_true rfl) dX3_init_14 (fun q_12 H hq_13 hX => ?_)
  have ne_14 : o ≠ q_12 := fun z => by have h9 := k_10; rw [z, hq_13] at h9; cases h9
  have ne_15 : q_1 ≠ q_12 := fun z => by have h9 := k_11; rw [z, hq_13] at h9; cases h9
  obtain ⟨μ_16, e_17⟩ : ∃ z, z = va_up μ_8 q_12 (some (sA g 0 (fun _ => none))) := ⟨_, rfl⟩
  rw [← e_17] at hX
  have k_18 : μ_16 q_12 = some (sA g 0 (fun _ => none)) := by rw [e_17]; exact va_up_self _ _ _
  have k_19 := (congrFun e_17 o).trans ((va_up_ne _ _ ne_14).trans k_10)
  have k_20 := (congrFun e_17 q_1).trans ((va_up_ne _ _ ne_15).trans k_11)
  refine W.eq (g2 := F0 m 17 ls [.ref q_12, .ref o]) rfl ?_
  refine pX3_1 hx hb hX hown k_19 kw629 dX3_init_17 (fun H locs hX => ?_)
  obtain ⟨μ_21, e_22⟩ : ∃ z, z = va_up μ_16 o (some (.inr (4, [.ref q_1, .ref q_12, .int 0, .int 0, .int 0]))) := ⟨_, rfl⟩
  rw [← e_22] at hX
  have k_23 : μ_21 o = some (.inr (4, [.ref q_1, .ref q_12, .int 0, .int 0, .int 0])) := by rw [e_22]; exact va_up_self _ _ _
  have k_24 := (congrFun e_22 q_1).trans ((va_up_ne _ _ (Ne.symm ne_3)).trans k_20)
  have k_25 := (congrFun e_22 q_12).trans ((va_up_ne _ _ (Ne.symm ne_14)).trans k_18)
  have hmo : ∀ z e, z ≠ o → μ z = some e → μ_21 z = some e := by
    intro z e hn h
    have z1 : z ≠ q_1 := fun c => by rw [c, hq_2] at h; cases h
    have p0 := (congrFun e_5 z).trans ((va_up_ne _ _ z1).trans h)
    have p1 := (congrFun e_9 z).trans ((va_up_ne _ _ hn).trans p0)
    have z2 : z ≠ q_12 := fun c => by rw [c, hq_13] at p1; cases p1
    have p2 := (congrFun e_17 z).trans ((va_up_ne _ _ z2).trans p1)
    have p3 := (congrFun e_22 z).trans ((va_up_ne _ _ hn).trans p2)
    exact p3
  have hn1 : μ q_1 = none := hq_2
  have hn2 : μ q_12 = none := by
    cases hh : μ q_12 with
    | none => rfl
    | some e =>
      have p0 := (congrFun e_5 q_12).trans ((va_up_ne _ _ (Ne.symm ne_15)).trans hh)
      have p1 := (congrFun e_9 q_12).trans ((va_up_ne _ _ (Ne.symm ne_14)).trans p0)
      rw [hq_13] at p1; cases p1
  exact w_vret hx hb hr hlocks hX ⟨rfl, ⟨Ωi o q_1 q_12, rfl, hn1, hn2, ⟨k_23, ⟨_, k_24, fun i h => absurd h (Nat.not_lt_zero _)⟩, ⟨_, k_25, fun i h => absurd h (Nat.not_lt_zero _)⟩, fun i h => absurd h (Nat.not_lt_zero _), fun i h => absurd h (Nat.not_lt_zero _), fun i k h => absurd h (Nat.not_lt_zero _), fun i k h => absurd h (Nat.not_lt_zero _)⟩⟩, hmo⟩ ⟨Nat.le_of_ble_eq_true rfl, Nat.le_of_ble_eq_true rfl⟩ dX3_init_20

