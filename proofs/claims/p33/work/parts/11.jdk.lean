/-! THE LISTS -/
set_option maxHeartbeats 4000000 in
set_option maxRecDepth 100000 in
/-- nothing -/
theorem c_Jxa1e45_init_da8c8 (l : Launch) (g : wG) (μ : wMu) (zz : Nat) {o : Nat} : wMet l yJxa1e45_init_da8c8 cJxa1e45_init_da8c8 1 none 1 0 0 12 g [.ref o] μ zz (fun r μ' => r = none ∧ μ' = μ) := by
  refine wMet.of (by decide) (Nat.le_of_ble_eq_true rfl) ?_
  intro p e s m below meth c ls hx hb hr hml hown hlocks hin hl hsz hX
  have hl : lv_has ls 1 [(0, .ref o)] := hl
  refine lv_aload_n hx hb dJxa1e45_init_da8c8_0 rfl (lv_at hl 0 rfl) ?_
  refine W.objInit hx hb hown (hX.w kw39) (hX.w kInsObj) (hX.w kCdObj) rfl (by rw [hml]; exact hl.1) rfl dJxa1e45_init_da8c8_1 (Nat.le_of_ble_eq_true rfl) (Nat.le_of_ble_eq_true rfl) ?_
  refine W.eq (g2 := F0 m 4 ls []) rfl ?_
  exact w_vret hx hb hr hlocks hX ⟨rfl, rfl⟩ ⟨Nat.le_of_ble_eq_true rfl, Nat.le_of_ble_eq_true rfl⟩ dJxa1e45_init_da8c8_4

set_option maxHeartbeats 4000000 in
set_option maxRecDepth 100000 in
/-- no changes yet -/
theorem c_Jxc12de_init_da8c8 (l : Launch) (g : wG) (μ : wMu) (zz : Nat) {o : Nat} {z0 z2 : Int32} (h0 : μ o = some (.inr (0, [.int z0, .null, .int z2]))) : wMet l yJxc12de_init_da8c8 cJxc12de_init_da8c8 1 none 2 0 0 32 g [.ref o] μ zz (fun r μ' => r = none ∧ μ' o = some (.inr (0, [.int (nI 0), .null, .int z2])) ∧ ∀ q, q ≠ o → μ' q = μ q) := by
  refine wMet.of (by decide) (Nat.le_of_ble_eq_true rfl) ?_
  intro p e s m below meth c ls hx hb hr hml hown hlocks hin hl hsz hX
  have hl : lv_has ls 1 [(0, .ref o)] := hl
  refine lv_aload_n hx hb dJxc12de_init_da8c8_0 rfl (lv_at hl 0 rfl) ?_
  refine w_call (w_runI (n := 0) (As := []) (rest := []) hx hb hml hown hX (c_Jxa1e45_init_da8c8 l g μ s.heap.size) kw38 kw2 kw36 kw37 rfl wn_Jxa1e45_init_da8c8 rfl ⟨Nat.le_of_ble_eq_true rfl, Nat.le_of_ble_eq_true rfl⟩ hl.1 rfl (Nat.le_of_ble_eq_true rfl) dJxc12de_init_da8c8_1 ⟨Nat.le_of_ble_eq_true rfl, Nat.le_of_ble_eq_true rfl⟩) hX (fun r_3 μ_1 H locs q_2 hX hz => ?_)
  obtain ⟨rfl, e_4⟩ := q_2
  rw [e_4] at hX
  refine W.eq (g2 := F0 m 4 ls []) rfl ?_
  refine lv_aload_n hx hb dJxc12de_init_da8c8_4 rfl (lv_at hl 0 rfl) ?_
  refine lv_iconst (v := nI 0) hx hb dJxc12de_init_da8c8_5 (by decide) ?_
  refine w_put (ref := "java/util/AbstractList") (v := .int (nI 0)) hx hb inJx4a65c tyJx4a65c tyJx4a65c_ok nmJx4a65c rfl 0 (by decide) rfl rfl rfl hX hown h0 (Nat.le_of_ble_eq_true rfl) kw44 (fun _ h => h) dJxc12de_init_da8c8_6 (fun H locs hX => ?_)
  have hX : wX g (wA μ zz) s H locs (va_up μ o (some (.inr (0, [.int (nI 0), .null, .int z2])))) := hX
  obtain ⟨μ_5, e_6⟩ : ∃ z, z = va_up μ o (some (.inr (0, [.int (nI 0), .null, .int z2]))) := ⟨_, rfl⟩
  rw [← e_6] at hX
  have k_7 : μ_5 o = some (.inr (0, [.int (nI 0), .null, .int z2])) := by rw [e_6]; exact va_up_self _ _ _
  exact w_vret hx hb hr hlocks hX ⟨rfl, k_7, fun q n1 => by rw [e_6, va_up_ne _ _ n1]⟩ ⟨Nat.le_of_ble_eq_true rfl, Nat.le_of_ble_eq_true rfl⟩ dJxc12de_init_da8c8_9

set_option maxHeartbeats 4000000 in
set_option maxRecDepth 100000 in
/-- an empty list -/
theorem c_Jx4a65c_init_da8c8 (l : Launch) (g : wG) (μ : wMu) (zz : Nat) {o : Nat} {z0 z2 : Int32} (h0 : μ o = some (.inr (0, [.int z0, .null, .int z2]))) : wMet l yJx4a65c_init_da8c8 cJx4a65c_init_da8c8 1 none 3 0 0 52 g [.ref o] μ zz (fun r μ' => r = none ∧ μ' o = some (.inr (0, [.int (nI 0), .ref (gE g), .int z2])) ∧ ∀ q, q ≠ o → μ' q = μ q) := by
  refine wMet.of (by decide) (Nat.le_of_ble_eq_true rfl) ?_
  intro p e s m below meth c ls hx hb hr hml hown hlocks hin hl hsz hX
  have hl : lv_has ls 1 [(0, .ref o)] := hl
  refine lv_aload_n hx hb dJx4a65c_init_da8c8_0 rfl (lv_at hl 0 rfl) ?_
  refine w_call (w_runI (n := 0) (As := []) (rest := []) hx hb hml hown hX (c_Jxc12de_init_da8c8 l g μ s.heap.size h0) kw35 kw3 kw33 kw34 rfl wn_Jxc12de_init_da8c8 rfl ⟨Nat.le_of_ble_eq_true rfl, Nat.le_of_ble_eq_true rfl⟩ hl.1 rfl (Nat.le_of_ble_eq_true rfl) dJx4a65c_init_da8c8_1 ⟨Nat.le_of_ble_eq_true rfl, Nat.le_of_ble_eq_true rfl⟩) hX (fun r_3 μ_1 H locs q_2 hX hz => ?_)
  obtain ⟨rfl, k1, k2⟩ := q_2
  refine W.eq (g2 := F0 m 4 ls []) rfl ?_
  refine lv_aload_n hx hb dJx4a65c_init_da8c8_4 rfl (lv_at hl 0 rfl) ?_
  refine w_getsE hx hb hX hown kw40 dJx4a65c_init_da8c8_5 ?_
  refine pJx4a65c_1 hx hb hX hown k1 kw42 dJx4a65c_init_da8c8_8 (fun H locs hX => ?_)
  obtain ⟨μ_4, e_5⟩ : ∃ z, z = va_up μ_1 o (some (.inr (0, [.int (nI 0), .ref (gE g), .int z2]))) := ⟨_, rfl⟩
  rw [← e_5] at hX
  have k_6 : μ_4 o = some (.inr (0, [.int (nI 0), .ref (gE g), .int z2])) := by rw [e_5]; exact va_up_self _ _ _
  exact w_vret hx hb hr hlocks hX ⟨rfl, k_6, fun q n1 => by rw [e_5, va_up_ne _ _ n1, k2 q n1]⟩ ⟨Nat.le_of_ble_eq_true rfl, Nat.le_of_ble_eq_true rfl⟩ dJx4a65c_init_da8c8_11

set_option maxHeartbeats 4000000 in
set_option maxRecDepth 100000 in
/-- how many -/
theorem c_Jx4a65c_size_8abf5 (l : Launch) (g : wG) (μ : wMu) (zz : Nat) {o ea sz : Nat} {mc : Int32} (h0 : μ o = some (.inr (0, [.int mc, .ref ea, .int (nI sz)]))) : wMet l yJx4a65c_size_8abf5 cJx4a65c_size_8abf5 1 (some .int) 0 0 0 0 g [.ref o] μ zz (fun r μ' => r = some (.int (nI sz)) ∧ μ' = μ) := by
  refine wMet.of (by decide) (Nat.le_of_ble_eq_true rfl) ?_
  intro p e s m below meth c ls hx hb hr hml hown hlocks hin hl hsz hX
  have hl : lv_has ls 1 [(0, .ref o)] := hl
  refine lv_aload_n hx hb dJx4a65c_size_8abf5_0 rfl (lv_at hl 0 rfl) ?_
  refine gJx4a65c_2 hx hb hX hown h0 kw43 dJx4a65c_size_8abf5_1 ?_
  exact w_iret hx hb hr hlocks hX ⟨rfl, rfl⟩ ⟨Nat.le_of_ble_eq_true rfl, Nat.le_of_ble_eq_true rfl⟩ dJx4a65c_size_8abf5_4

set_option maxHeartbeats 4000000 in
set_option maxRecDepth 100000 in
/-- in range -/
theorem c_J3_checkIndex_8e157 (l : Launch) (g : wG) (μ : wMu) (zz : Nat) {i n : Nat} (b1 : i < n) (b2 : n < 2 ^ 31) : wMet l yJ3_checkIndex_8e157 cJ3_checkIndex_8e157 3 (some .int) 0 0 0 0 g [.int (nI i), .int (nI n), .null] μ zz (fun r μ' => r = some (.int (nI i)) ∧ μ' = μ) := by
  refine wMet.of (by decide) (Nat.le_of_ble_eq_true rfl) ?_
  intro p e s m below meth c ls hx hb hr hml hown hlocks hin hl hsz hX
  have hl : lv_has ls 3 [(0, .int (nI i)), (1, .int (nI n)), (2, .null)] := hl
  refine lv_iload_n hx hb dJ3_checkIndex_8e157_0 rfl (lv_at hl 0 rfl) ?_
  refine lv_if_lt (tgt := 9) hx hb dJ3_checkIndex_8e157_1 (by decide) (fun h => absurd h (nI_pos (by omega))) (fun _ => ?_)
  refine lv_iload_n hx hb dJ3_checkIndex_8e157_4 rfl (lv_at hl 0 rfl) ?_
  refine lv_iload_n hx hb dJ3_checkIndex_8e157_5 rfl (lv_at hl 1 rfl) ?_
  refine n_lt (tgt := 16) hx hb (by omega) (by omega) dJ3_checkIndex_8e157_6 (by decide) (fun _ => ?_) (fun h => absurd h (by omega))
  refine lv_iload_n hx hb dJ3_checkIndex_8e157_16 rfl (lv_at hl 0 rfl) ?_
  exact w_iret hx hb hr hlocks hX ⟨rfl, rfl⟩ ⟨Nat.le_of_ble_eq_true rfl, Nat.le_of_ble_eq_true rfl⟩ dJ3_checkIndex_8e157_17

set_option maxHeartbeats 4000000 in
set_option maxRecDepth 100000 in
/-- in range -/
theorem c_J15_checkIndex_7cf53 (l : Launch) (g : wG) (μ : wMu) (zz : Nat) {i n : Nat} (b1 : i < n) (b2 : n < 2 ^ 31) : wMet l yJ15_checkIndex_7cf53 cJ15_checkIndex_7cf53 2 (some .int) 1 0 0 22 g [.int (nI i), .int (nI n)] μ zz (fun r μ' => r = some (.int (nI i)) ∧ μ' = μ) := by
  refine wMet.of (by decide) (Nat.le_of_ble_eq_true rfl) ?_
  intro p e s m below meth c ls hx hb hr hml hown hlocks hin hl hsz hX
  have hl : lv_has ls 2 [(0, .int (nI i)), (1, .int (nI n))] := hl
  refine lv_iload_n hx hb dJ15_checkIndex_7cf53_0 rfl (lv_at hl 0 rfl) ?_
  refine lv_iload_n hx hb dJ15_checkIndex_7cf53_1 rfl (lv_at hl 1 rfl) ?_
  refine lv_null hx hb dJ15_checkIndex_7cf53_2 ?_
  refine w_call (w_runS (n := 3) (As := [.int (nI i), .int (nI n), .null]) (rest := []) hx hb hml hown hX (c_J3_checkIndex_8e157 l g μ s.heap.size b1 b2) kw219 kw19 kw217 kw218 wn_J3_checkIndex_8e157 rfl ⟨Nat.le_of_ble_eq_true rfl, Nat.le_of_ble_eq_true rfl⟩ hl.1 rfl (Nat.le_of_ble_eq_true rfl) dJ15_checkIndex_7cf53_3 ⟨Nat.le_of_ble_eq_true rfl, Nat.le_of_ble_eq_true rfl⟩) hX (fun r_3 μ_1 H locs q_2 hX hz => ?_)
  obtain ⟨rfl, e_4⟩ := q_2
  rw [e_4] at hX
  refine W.eq (g2 := F0 m 6 ls [.int (nI i)]) rfl ?_
  exact w_iret hx hb hr hlocks hX ⟨rfl, rfl⟩ ⟨Nat.le_of_ble_eq_true rfl, Nat.le_of_ble_eq_true rfl⟩ dJ15_checkIndex_7cf53_6

set_option maxHeartbeats 4000000 in
set_option maxRecDepth 100000 in
/-- an element -/
theorem c_Jx4a65c_elementData_915e3 (l : Launch) (g : wG) (μ : wMu) (zz : Nat) {o ea sz i q : Nat} {mc : Int32} {f : Nat → Option Nat} (h0 : μ o = some (.inr (0, [.int mc, .ref ea, .int (nI sz)]))) (h1 : μ ea = some (.inl (gO g, 10, .inr (.inr (.inr (.inr f)))))) (b1 : i < sz) (b2 : sz ≤ 10) (hf : f i = some q) : wMet l yJx4a65c_elementData_915e3 cJx4a65c_elementData_915e3 2 (some (.object "java/lang/Object")) 0 0 0 0 g [.ref o, .int (nI i)] μ zz (fun r μ' => r = some (.ref q) ∧ μ' = μ) := by
  refine wMet.of (by decide) (Nat.le_of_ble_eq_true rfl) ?_
  intro p e s m below meth c ls hx hb hr hml hown hlocks hin hl hsz hX
  have hl : lv_has ls 2 [(0, .ref o), (1, .int (nI i))] := hl
  refine lv_aload_n hx hb dJx4a65c_elementData_915e3_0 rfl (lv_at hl 0 rfl) ?_
  refine gJx4a65c_1 hx hb hX hown h0 kw42 dJx4a65c_elementData_915e3_1 ?_
  refine lv_iload_n hx hb dJx4a65c_elementData_915e3_4 rfl (lv_at hl 1 rfl) ?_
  refine n_aald hx hb hX h1 (by omega) (by omega) dJx4a65c_elementData_915e3_5 ?_
  rw [hf]
  refine W.eq (g2 := F0 m 6 ls [.ref q]) rfl ?_
  exact w_aret hx hb hr (Or.inl ⟨_, rfl⟩) hlocks hX ⟨rfl, rfl⟩ ⟨Nat.le_of_ble_eq_true rfl, Nat.le_of_ble_eq_true rfl⟩ dJx4a65c_elementData_915e3_6

set_option maxHeartbeats 4000000 in
set_option maxRecDepth 100000 in
/-- an element -/
theorem c_Jx4a65c_get_915e3 (l : Launch) (g : wG) (μ : wMu) (zz : Nat) {o ea sz i q : Nat} {mc : Int32} {f : Nat → Option Nat} (h0 : μ o = some (.inr (0, [.int mc, .ref ea, .int (nI sz)]))) (h1 : μ ea = some (.inl (gO g, 10, .inr (.inr (.inr (.inr f)))))) (b1 : i < sz) (b2 : sz ≤ 10) (hf : f i = some q) : wMet l yJx4a65c_get_915e3 cJx4a65c_get_915e3 2 (some (.object "java/lang/Object")) 2 0 0 43 g [.ref o, .int (nI i)] μ zz (fun r μ' => r = some (.ref q) ∧ μ' = μ) := by
  refine wMet.of (by decide) (Nat.le_of_ble_eq_true rfl) ?_
  intro p e s m below meth c ls hx hb hr hml hown hlocks hin hl hsz hX
  have hl : lv_has ls 2 [(0, .ref o), (1, .int (nI i))] := hl
  refine lv_iload_n hx hb dJx4a65c_get_915e3_0 rfl (lv_at hl 1 rfl) ?_
  refine lv_aload_n hx hb dJx4a65c_get_915e3_1 rfl (lv_at hl 0 rfl) ?_
  refine gJx4a65c_2 hx hb hX hown h0 kw43 dJx4a65c_get_915e3_2 ?_
  refine w_call (w_runS (n := 2) (As := [.int (nI i), .int (nI sz)]) (rest := []) hx hb hml hown hX (c_J15_checkIndex_7cf53 l g μ s.heap.size b1 (by omega)) kw216 kw18 kw214 kw215 wn_J15_checkIndex_7cf53 rfl ⟨Nat.le_of_ble_eq_true rfl, Nat.le_of_ble_eq_true rfl⟩ hl.1 rfl (Nat.le_of_ble_eq_true rfl) dJx4a65c_get_915e3_5 ⟨Nat.le_of_ble_eq_true rfl, Nat.le_of_ble_eq_true rfl⟩) hX (fun r_3 μ_1 H locs q_2 hX hz => ?_)
  obtain ⟨rfl, e_4⟩ := q_2
  rw [e_4] at hX
  refine W.eq (g2 := F0 m 8 ls [.int (nI i)]) rfl ?_
  refine lv_pop hx hb dJx4a65c_get_915e3_8 rfl ?_
  refine lv_aload_n hx hb dJx4a65c_get_915e3_9 rfl (lv_at hl 0 rfl) ?_
  refine lv_iload_n hx hb dJx4a65c_get_915e3_10 rfl (lv_at hl 1 rfl) ?_
  refine w_call (w_runV (n := 1) (As := [.int (nI i)]) (rest := []) hx hb hml hown hX (c_Jx4a65c_elementData_915e3 l g μ H.size h0 h1 b1 b2 hf) kw223 kw4 kw220 kw221 kw222 wn_Jx4a65c_elementData_915e3 rfl h0 rfl ⟨Nat.le_of_ble_eq_true rfl, Nat.le_of_ble_eq_true rfl⟩ hl.1 rfl (Nat.le_of_ble_eq_true rfl) dJx4a65c_get_915e3_11 ⟨Nat.le_of_ble_eq_true rfl, Nat.le_of_ble_eq_true rfl⟩) hX (fun r_7 μ_5 H locs q_6 hX hz => ?_)
  obtain ⟨rfl, e_8⟩ := q_6
  rw [e_8] at hX
  refine W.eq (g2 := F0 m 14 ls [.ref q]) rfl ?_
  exact w_aret hx hb hr (Or.inl ⟨_, rfl⟩) hlocks hX ⟨rfl, rfl⟩ ⟨Nat.le_of_ble_eq_true rfl, Nat.le_of_ble_eq_true rfl⟩ dJx4a65c_get_915e3_14

set_option maxHeartbeats 4000000 in
set_option maxRecDepth 100000 in
/-- the first room: ten places -/
theorem c_Jx4a65c_grow_92f84 (l : Launch) (g : wG) (μ : wMu) (zz : Nat) {o n sz : Nat} {mc : Int32} (h0 : μ o = some (.inr (0, [.int mc, .ref (gE g), .int (nI sz)]))) (b1 : n ≤ 10) : wMet l yJx4a65c_grow_92f84 cJx4a65c_grow_92f84 4 (some (.array (.object "java/lang/Object"))) 1 1 10 21 g [.ref o, .int (nI n)] μ zz (fun r μ' => ∃ q, r = some (.ref q) ∧ μ q = none ∧ q ≠ o ∧ μ' q = some (.inl (gO g, 10, .inr (.inr (.inr (.inr (fun _ => none)))))) ∧ μ' o = some (.inr (0, [.int mc, .ref q, .int (nI sz)])) ∧ ∀ z, z ≠ q → z ≠ o → μ' z = μ z) := by
  refine wMet.of (by decide) (Nat.le_of_ble_eq_true rfl) ?_
  intro p e s m below meth c ls hx hb hr hml hown hlocks hin hl hsz hX
  have hl : lv_has ls 4 [(0, .ref o), (1, .int (nI n))] := hl
  refine lv_aload_n hx hb dJx4a65c_grow_92f84_0 rfl (lv_at hl 0 rfl) ?_
  refine gJx4a65c_1 hx hb hX hown h0 kw42 dJx4a65c_grow_92f84_1 ?_
  refine n_alenE hx hb hX dJx4a65c_grow_92f84_4 ?_
  refine lv_istore_n (lv' := [(2, .int (nI 0)), (0, .ref o), (1, .int (nI n))]) hx hb dJx4a65c_grow_92f84_5 rfl hl (by decide) rfl (fun ls hl => ?_)
  refine lv_iload_n hx hb dJx4a65c_grow_92f84_6 rfl (lv_at hl 0 rfl) ?_
  refine n_if_gt (tgt := 20) hx hb (by omega) dJx4a65c_grow_92f84_7 (by decide) (fun h => absurd h (by omega)) (fun _ => ?_)
  refine lv_aload_n hx hb dJx4a65c_grow_92f84_10 rfl (lv_at hl 1 rfl) ?_
  refine gJx4a65c_1 hx hb hX hown h0 kw42 dJx4a65c_grow_92f84_11 ?_
  refine w_getsE hx hb hX hown kw40 dJx4a65c_grow_92f84_14 ?_
  refine lv_acmp_eq (rx := some (gE g)) (ry := some (gE g)) (tgt := 45) hx hb dJx4a65c_grow_92f84_17 (by decide) (fun _ => ?_) (fun h => absurd rfl h)
  refine lv_aload_n hx hb dJx4a65c_grow_92f84_45 rfl (lv_at hl 1 rfl) ?_
  refine lv_bipush (v := nI 10) hx hb dJx4a65c_grow_92f84_46 (by decide) ?_
  refine lv_iload_n hx hb dJx4a65c_grow_92f84_48 rfl (lv_at hl 2 rfl) ?_
  refine n_mmax hx hb (hml.trans hl.1.symm) hX hown kw593 kStMax kInMath kCdMax ⟨Nat.le_of_ble_eq_true rfl, Nat.le_of_ble_eq_true rfl⟩ ⟨Nat.le_of_ble_eq_true rfl, Nat.le_of_ble_eq_true rfl⟩ dJx4a65c_grow_92f84_49 ((nI_max (by omega) (by omega)).trans (congrArg nI (show max 10 n = 10 by omega))) ?_
  refine n_newO hx hb hX hown kw594 kw587 (by decide) (Nat.le_of_ble_eq_true rfl) (Nat.le_of_ble_eq_true rfl) dJx4a65c_grow_92f84_52 (fun q_1 H hq_2 hX => ?_)
  have ne_3 : o ≠ q_1 := fun z => by rw [z, hq_2] at h0; cases h0
  obtain ⟨μ_4, e_5⟩ : ∃ z, z = va_up μ q_1 (some (.inl (gO g, 10, .inr (.inr (.inr (.inr (fun _ => none))))))) := ⟨_, rfl⟩
  rw [← e_5] at hX
  have k_6 : μ_4 q_1 = some (.inl (gO g, 10, .inr (.inr (.inr (.inr (fun _ => none)))))) := by rw [e_5]; exact va_up_self _ _ _
  have k_7 := (congrFun e_5 o).trans ((va_up_ne _ _ ne_3).trans h0)
  refine lv_dup_x1 hx hb dJx4a65c_grow_92f84_55 rfl rfl ?_
  refine pJx4a65c_1 hx hb hX hown k_7 kw42 dJx4a65c_grow_92f84_56 (fun H locs hX => ?_)
  obtain ⟨μ_8, e_9⟩ : ∃ z, z = va_up μ_4 o (some (.inr (0, [.int mc, .ref q_1, .int (nI sz)]))) := ⟨_, rfl⟩
  rw [← e_9] at hX
  have k_10 : μ_8 o = some (.inr (0, [.int mc, .ref q_1, .int (nI sz)])) := by rw [e_9]; exact va_up_self _ _ _
  have k_11 := (congrFun e_9 q_1).trans ((va_up_ne _ _ (Ne.symm ne_3)).trans k_6)
  exact w_aret hx hb hr (Or.inr ⟨_, rfl⟩) hlocks hX ⟨q_1, rfl, hq_2, Ne.symm ne_3, k_11, k_10, fun q n1 n2 => by rw [e_9, va_up_ne _ _ n2, e_5, va_up_ne _ _ n1]⟩ ⟨Nat.le_of_ble_eq_true rfl, Nat.le_of_ble_eq_true rfl⟩ dJx4a65c_grow_92f84_59

set_option maxHeartbeats 4000000 in
set_option maxRecDepth 100000 in
/-- the first room -/
theorem c_Jx4a65c_grow_d5877 (l : Launch) (g : wG) (μ : wMu) (zz : Nat) {o sz : Nat} {mc : Int32} (h0 : μ o = some (.inr (0, [.int mc, .ref (gE g), .int (nI sz)]))) (b1 : sz ≤ 9) : wMet l yJx4a65c_grow_d5877 cJx4a65c_grow_d5877 1 (some (.array (.object "java/lang/Object"))) 2 1 10 44 g [.ref o] μ zz (fun r μ' => ∃ q, r = some (.ref q) ∧ μ q = none ∧ q ≠ o ∧ μ' q = some (.inl (gO g, 10, .inr (.inr (.inr (.inr (fun _ => none)))))) ∧ μ' o = some (.inr (0, [.int mc, .ref q, .int (nI sz)])) ∧ ∀ z, z ≠ q → z ≠ o → μ' z = μ z) := by
  refine wMet.of (by decide) (Nat.le_of_ble_eq_true rfl) ?_
  intro p e s m below meth c ls hx hb hr hml hown hlocks hin hl hsz hX
  have hl : lv_has ls 1 [(0, .ref o)] := hl
  refine lv_aload_n hx hb dJx4a65c_grow_d5877_0 rfl (lv_at hl 0 rfl) ?_
  refine lv_aload_n hx hb dJx4a65c_grow_d5877_1 rfl (lv_at hl 0 rfl) ?_
  refine gJx4a65c_2 hx hb hX hown h0 kw43 dJx4a65c_grow_d5877_2 ?_
  refine lv_iconst (v := nI 1) hx hb dJx4a65c_grow_d5877_5 (by decide) ?_
  refine n_iadd hx hb dJx4a65c_grow_d5877_6 (nI_add _ _) ?_
  refine w_call (w_runV (n := 1) (As := [.int (nI (sz + 1))]) (rest := []) hx hb hml hown hX (c_Jx4a65c_grow_92f84 l g μ s.heap.size h0 (by omega)) kw559 kw4 kw556 kw558 kp24 wn_Jx4a65c_grow_92f84 rfl h0 rfl ⟨Nat.le_of_ble_eq_true rfl, Nat.le_of_ble_eq_true rfl⟩ hl.1 rfl (Nat.le_of_ble_eq_true rfl) dJx4a65c_grow_d5877_7 ⟨Nat.le_of_ble_eq_true rfl, Nat.le_of_ble_eq_true rfl⟩) hX (fun r_3 μ_1 H locs q_2 hX hz => ?_)
  obtain ⟨qq, rfl, k0, k1, k2, k3, k4⟩ := q_2
  refine W.eq (g2 := F0 m 10 ls [.ref qq]) rfl ?_
  exact w_aret hx hb hr (Or.inr ⟨_, rfl⟩) hlocks hX ⟨qq, rfl, k0, k1, k2, k3, k4⟩ ⟨Nat.le_of_ble_eq_true rfl, Nat.le_of_ble_eq_true rfl⟩ dJx4a65c_grow_d5877_10

set_option maxHeartbeats 4000000 in
set_option maxRecDepth 100000 in
/-- add to an empty list -/
theorem c_Jx4a65c_add_72be8_E (l : Launch) (g : wG) (μ : wMu) (zz : Nat) {o : Nat} {mc : Int32} (h0 : μ o = some (.inr (0, [.int mc, .ref (gE g), .int (nI 0)]))) {v ci : Nat} {vc : vw_C} {vs : List Value} (hv : μ v = some (.inr (ci, vs))) (hc : vwCl[ci]? = some vc) (hca : Cond.castable vc.1 "java/lang/Object" ∈ GW) (hvo : v ≠ o)  : wMet l yJx4a65c_add_72be8 cJx4a65c_add_72be8 4 none 3 1 10 64 g [.ref o, .ref v, .ref (gE g), .int (nI 0)] μ zz (fun r μ' => ∃ q, r = none ∧ μ q = none ∧ q ≠ o ∧ μ' q = some (.inl (gO g, 10, .inr (.inr (.inr (.inr (va_up (fun _ => none) 0 (some v))))))) ∧ μ' o = some (.inr (0, [.int mc, .ref q, .int (nI 1)])) ∧ ∀ z, z ≠ q → z ≠ o → μ' z = μ z) := by
  refine wMet.of (by decide) (Nat.le_of_ble_eq_true rfl) ?_
  intro p e s m below meth c ls hx hb hr hml hown hlocks hin hl hsz hX
  have hl : lv_has ls 4 [(0, .ref o), (1, .ref v), (2, .ref (gE g)), (3, .int (nI 0))] := hl
  refine lv_iload_n hx hb dJx4a65c_add_72be8_0 rfl (lv_at hl 3 rfl) ?_
  refine lv_aload_n hx hb dJx4a65c_add_72be8_1 rfl (lv_at hl 2 rfl) ?_
  refine n_alenE hx hb hX dJx4a65c_add_72be8_2 ?_
  refine n_ne (tgt := 11) hx hb (by omega) (by omega) dJx4a65c_add_72be8_3 (by decide) (fun h => absurd h (by omega)) (fun _ => ?_)
  refine lv_aload_n hx hb dJx4a65c_add_72be8_6 rfl (lv_at hl 0 rfl) ?_
  refine w_call (w_runV (n := 0) (As := []) (rest := []) hx hb hml hown hX (c_Jx4a65c_grow_d5877 l g μ s.heap.size h0 (by omega)) kw555 kw4 kw552 kw554 kp23 wn_Jx4a65c_grow_d5877 rfl h0 rfl ⟨Nat.le_of_ble_eq_true rfl, Nat.le_of_ble_eq_true rfl⟩ hl.1 rfl (Nat.le_of_ble_eq_true rfl) dJx4a65c_add_72be8_7 ⟨Nat.le_of_ble_eq_true rfl, Nat.le_of_ble_eq_true rfl⟩) hX (fun r_3 μ_1 H locs q_2 hX hz => ?_)
  obtain ⟨qq, rfl, k0, k1, k2, k3, k4⟩ := q_2
  have kvq : v ≠ qq := fun z => by rw [z, k0] at hv; cases hv
  have kv := (k4 v kvq hvo).trans hv
  refine W.eq (g2 := F0 m 10 ls [.ref qq]) rfl ?_
  refine lv_astore_n (lv' := [(2, .ref qq), (0, .ref o), (1, .ref v), (3, .int (nI 0))]) hx hb dJx4a65c_add_72be8_10 rfl hl (by decide) rfl (fun ls hl => ?_)
  refine lv_aload_n hx hb dJx4a65c_add_72be8_11 rfl (lv_at hl 0 rfl) ?_
  refine lv_iload_n hx hb dJx4a65c_add_72be8_12 rfl (lv_at hl 3 rfl) ?_
  refine lv_aload_n hx hb dJx4a65c_add_72be8_13 rfl (lv_at hl 2 rfl) ?_
  refine n_aast hx hb hX k2 hca kv hc (by omega) (by omega) dJx4a65c_add_72be8_14 (fun H locs hX => ?_)
  obtain ⟨μ_4, e_5⟩ : ∃ z, z = va_up μ_1 qq (some (.inl (gO g, 10, .inr (.inr (.inr (.inr (va_up (fun _ => none) 0 (some v)))))))) := ⟨_, rfl⟩
  rw [← e_5] at hX
  have k_6 : μ_4 qq = some (.inl (gO g, 10, .inr (.inr (.inr (.inr (va_up (fun _ => none) 0 (some v))))))) := by rw [e_5]; exact va_up_self _ _ _
  have k_7 := (congrFun e_5 o).trans ((va_up_ne _ _ (Ne.symm k1)).trans k3)
  refine lv_aload_n hx hb dJx4a65c_add_72be8_15 rfl (lv_at hl 1 rfl) ?_
  refine lv_iload_n hx hb dJx4a65c_add_72be8_16 rfl (lv_at hl 3 rfl) ?_
  refine lv_iconst (v := nI 1) hx hb dJx4a65c_add_72be8_17 (by decide) ?_
  refine n_iadd hx hb dJx4a65c_add_72be8_18 (nI_add _ _) ?_
  refine pJx4a65c_2 hx hb hX hown k_7 kw43 dJx4a65c_add_72be8_19 (fun H locs hX => ?_)
  obtain ⟨μ_8, e_9⟩ : ∃ z, z = va_up μ_4 o (some (.inr (0, [.int mc, .ref qq, .int (nI (0 + 1))]))) := ⟨_, rfl⟩
  rw [← e_9] at hX
  have k_10 : μ_8 o = some (.inr (0, [.int mc, .ref qq, .int (nI (0 + 1))])) := by rw [e_9]; exact va_up_self _ _ _
  have k_11 := (congrFun e_9 qq).trans ((va_up_ne _ _ k1).trans k_6)
  exact w_vret hx hb hr hlocks hX ⟨qq, rfl, k0, k1, k_11, k_10, fun z n1 n2 => by rw [e_9, va_up_ne _ _ n2, e_5, va_up_ne _ _ n1, k4 z n1 n2]⟩ ⟨Nat.le_of_ble_eq_true rfl, Nat.le_of_ble_eq_true rfl⟩ dJx4a65c_add_72be8_22

set_option maxHeartbeats 4000000 in
set_option maxRecDepth 100000 in
/-- add where there is room -/
theorem c_Jx4a65c_add_72be8_R (l : Launch) (g : wG) (μ : wMu) (zz : Nat) {o ea sz : Nat} {mc : Int32} {f : Nat → Option Nat} (h0 : μ o = some (.inr (0, [.int mc, .ref ea, .int (nI sz)]))) (h1 : μ ea = some (.inl (gO g, 10, .inr (.inr (.inr (.inr f)))))) (heo : ea ≠ o) (b1 : sz < 10) {v ci : Nat} {vc : vw_C} {vs : List Value} (hv : μ v = some (.inr (ci, vs))) (hc : vwCl[ci]? = some vc) (hca : Cond.castable vc.1 "java/lang/Object" ∈ GW) (hvo : v ≠ o)  : wMet l yJx4a65c_add_72be8 cJx4a65c_add_72be8 4 none 3 1 10 64 g [.ref o, .ref v, .ref ea, .int (nI sz)] μ zz (fun r μ' => r = none ∧ μ' ea = some (.inl (gO g, 10, .inr (.inr (.inr (.inr (va_up f sz (some v))))))) ∧ μ' o = some (.inr (0, [.int mc, .ref ea, .int (nI (sz + 1))])) ∧ ∀ z, z ≠ ea → z ≠ o → μ' z = μ z) := by
  refine wMet.of (by decide) (Nat.le_of_ble_eq_true rfl) ?_
  intro p e s m below meth c ls hx hb hr hml hown hlocks hin hl hsz hX
  have hl : lv_has ls 4 [(0, .ref o), (1, .ref v), (2, .ref ea), (3, .int (nI sz))] := hl
  refine lv_iload_n hx hb dJx4a65c_add_72be8_0 rfl (lv_at hl 3 rfl) ?_
  refine lv_aload_n hx hb dJx4a65c_add_72be8_1 rfl (lv_at hl 2 rfl) ?_
  refine n_alenO hx hb hX h1 dJx4a65c_add_72be8_2 ?_
  refine n_ne (tgt := 11) hx hb (by omega) (by omega) dJx4a65c_add_72be8_3 (by decide) (fun _ => ?_) (fun h => absurd h (by omega))
  refine lv_aload_n hx hb dJx4a65c_add_72be8_11 rfl (lv_at hl 2 rfl) ?_
  refine lv_iload_n hx hb dJx4a65c_add_72be8_12 rfl (lv_at hl 3 rfl) ?_
  refine lv_aload_n hx hb dJx4a65c_add_72be8_13 rfl (lv_at hl 1 rfl) ?_
  refine n_aast hx hb hX h1 hca hv hc (by omega) (by omega) dJx4a65c_add_72be8_14 (fun H locs hX => ?_)
  obtain ⟨μ_1, e_2⟩ : ∃ z, z = va_up μ ea (some (.inl (gO g, 10, .inr (.inr (.inr (.inr (va_up f sz (some v)))))))) := ⟨_, rfl⟩
  rw [← e_2] at hX
  have k_3 : μ_1 ea = some (.inl (gO g, 10, .inr (.inr (.inr (.inr (va_up f sz (some v))))))) := by rw [e_2]; exact va_up_self _ _ _
  have k_4 := (congrFun e_2 o).trans ((va_up_ne _ _ (Ne.symm heo)).trans h0)
  refine lv_aload_n hx hb dJx4a65c_add_72be8_15 rfl (lv_at hl 0 rfl) ?_
  refine lv_iload_n hx hb dJx4a65c_add_72be8_16 rfl (lv_at hl 3 rfl) ?_
  refine lv_iconst (v := nI 1) hx hb dJx4a65c_add_72be8_17 (by decide) ?_
  refine n_iadd hx hb dJx4a65c_add_72be8_18 (nI_add _ _) ?_
  refine pJx4a65c_2 hx hb hX hown k_4 kw43 dJx4a65c_add_72be8_19 (fun H locs hX => ?_)
  obtain ⟨μ_5, e_6⟩ : ∃ z, z = va_up μ_1 o (some (.inr (0, [.int mc, .ref ea, .int (nI (sz + 1))]))) := ⟨_, rfl⟩
  rw [← e_6] at hX
  have k_7 : μ_5 o = some (.inr (0, [.int mc, .ref ea, .int (nI (sz + 1))])) := by rw [e_6]; exact va_up_self _ _ _
  have k_8 := (congrFun e_6 ea).trans ((va_up_ne _ _ heo).trans k_3)
  exact w_vret hx hb hr hlocks hX ⟨rfl, k_8, k_7, fun z n1 n2 => by rw [e_6, va_up_ne _ _ n2, e_2, va_up_ne _ _ n1]⟩ ⟨Nat.le_of_ble_eq_true rfl, Nat.le_of_ble_eq_true rfl⟩ dJx4a65c_add_72be8_22

set_option maxHeartbeats 4000000 in
set_option maxRecDepth 100000 in
/-- add to an empty list -/
theorem c_Jx4a65c_add_9ea2d_E (l : Launch) (g : wG) (μ : wMu) (zz : Nat) {o : Nat} {mc : Int32} (h0 : μ o = some (.inr (0, [.int mc, .ref (gE g), .int (nI 0)]))) {v ci : Nat} {vc : vw_C} {vs : List Value} (hv : μ v = some (.inr (ci, vs))) (hc : vwCl[ci]? = some vc) (hca : Cond.castable vc.1 "java/lang/Object" ∈ GW) (hvo : v ≠ o)  : wMet l yJx4a65c_add_9ea2d cJx4a65c_add_9ea2d 2 (some .boolean) 4 1 10 87 g [.ref o, .ref v] μ zz (fun r μ' => ∃ q, r = some (.int (nI 1)) ∧ μ q = none ∧ q ≠ o ∧ μ' q = some (.inl (gO g, 10, .inr (.inr (.inr (.inr (va_up (fun _ => none) 0 (some v))))))) ∧ μ' o = some (.inr (0, [.int (mc + nI 1), .ref q, .int (nI 1)])) ∧ ∀ z, z ≠ q → z ≠ o → μ' z = μ z) := by
  refine wMet.of (by decide) (Nat.le_of_ble_eq_true rfl) ?_
  intro p e s m below meth c ls hx hb hr hml hown hlocks hin hl hsz hX
  have hl : lv_has ls 2 [(0, .ref o), (1, .ref v)] := hl
  refine lv_aload_n hx hb dJx4a65c_add_9ea2d_0 rfl (lv_at hl 0 rfl) ?_
  refine lv_dup hx hb dJx4a65c_add_9ea2d_1 rfl ?_
  refine gJx4a65c_0 hx hb hX hown h0 kw45 dJx4a65c_add_9ea2d_2 ?_
  refine lv_iconst (v := nI 1) hx hb dJx4a65c_add_9ea2d_5 (by decide) ?_
  refine n_iadd (v := mc + (nI 1)) hx hb dJx4a65c_add_9ea2d_6 rfl ?_
  refine pJx4a65c_0 hx hb hX hown h0 kw45 dJx4a65c_add_9ea2d_7 (fun H locs hX => ?_)
  obtain ⟨μ_1, e_2⟩ : ∃ z, z = va_up μ o (some (.inr (0, [.int (mc + (nI 1)), .ref (gE g), .int (nI 0)]))) := ⟨_, rfl⟩
  rw [← e_2] at hX
  have k_3 : μ_1 o = some (.inr (0, [.int (mc + (nI 1)), .ref (gE g), .int (nI 0)])) := by rw [e_2]; exact va_up_self _ _ _
  refine lv_aload_n hx hb dJx4a65c_add_9ea2d_10 rfl (lv_at hl 0 rfl) ?_
  refine lv_aload_n hx hb dJx4a65c_add_9ea2d_11 rfl (lv_at hl 1 rfl) ?_
  refine lv_aload_n hx hb dJx4a65c_add_9ea2d_12 rfl (lv_at hl 0 rfl) ?_
  refine gJx4a65c_1 hx hb hX hown k_3 kw42 dJx4a65c_add_9ea2d_13 ?_
  refine lv_aload_n hx hb dJx4a65c_add_9ea2d_16 rfl (lv_at hl 0 rfl) ?_
  refine gJx4a65c_2 hx hb hX hown k_3 kw43 dJx4a65c_add_9ea2d_17 ?_
  have kv := (congrFun e_2 v).trans ((va_up_ne _ _ hvo).trans hv)
  refine w_call (w_runV (n := 3) (As := [.ref v, .ref (gE g), .int (nI 0)]) (rest := []) hx hb hml hown hX (c_Jx4a65c_add_72be8_E l g μ_1 H.size k_3 kv hc hca hvo) kw551 kw4 kw548 kw550 kp22 wn_Jx4a65c_add_72be8 rfl k_3 rfl ⟨Nat.le_of_ble_eq_true rfl, Nat.le_of_ble_eq_true rfl⟩ hl.1 rfl (Nat.le_of_ble_eq_true rfl) dJx4a65c_add_9ea2d_20 ⟨Nat.le_of_ble_eq_true rfl, Nat.le_of_ble_eq_true rfl⟩) hX (fun r_6 μ_4 H locs q_5 hX hz => ?_)
  obtain ⟨qq, rfl, k0, k1, k2, k3, k4⟩ := q_5
  rw [e_2, va_up_ne _ _ k1] at k0
  refine W.eq (g2 := F0 m 23 ls []) rfl ?_
  refine lv_iconst (v := nI 1) hx hb dJx4a65c_add_9ea2d_23 (by decide) ?_
  exact w_zret hx hb hr hlocks hX (by first | rfl | decide) ⟨qq, rfl, k0, k1, k2, k3, fun z n1 n2 => by rw [k4 z n1 n2, e_2, va_up_ne _ _ n2]⟩ ⟨Nat.le_of_ble_eq_true rfl, Nat.le_of_ble_eq_true rfl⟩ dJx4a65c_add_9ea2d_24

set_option maxHeartbeats 4000000 in
set_option maxRecDepth 100000 in
/-- add where there is room -/
theorem c_Jx4a65c_add_9ea2d_R (l : Launch) (g : wG) (μ : wMu) (zz : Nat) {o ea sz : Nat} {mc : Int32} {f : Nat → Option Nat} (h0 : μ o = some (.inr (0, [.int mc, .ref ea, .int (nI sz)]))) (h1 : μ ea = some (.inl (gO g, 10, .inr (.inr (.inr (.inr f)))))) (heo : ea ≠ o) (b1 : sz < 10) {v ci : Nat} {vc : vw_C} {vs : List Value} (hv : μ v = some (.inr (ci, vs))) (hc : vwCl[ci]? = some vc) (hca : Cond.castable vc.1 "java/lang/Object" ∈ GW) (hvo : v ≠ o)  : wMet l yJx4a65c_add_9ea2d cJx4a65c_add_9ea2d 2 (some .boolean) 4 1 10 87 g [.ref o, .ref v] μ zz (fun r μ' => r = some (.int (nI 1)) ∧ μ' ea = some (.inl (gO g, 10, .inr (.inr (.inr (.inr (va_up f sz (some v))))))) ∧ μ' o = some (.inr (0, [.int (mc + nI 1), .ref ea, .int (nI (sz + 1))])) ∧ ∀ z, z ≠ ea → z ≠ o → μ' z = μ z) := by
  refine wMet.of (by decide) (Nat.le_of_ble_eq_true rfl) ?_
  intro p e s m below meth c ls hx hb hr hml hown hlocks hin hl hsz hX
  have hl : lv_has ls 2 [(0, .ref o), (1, .ref v)] := hl
  refine lv_aload_n hx hb dJx4a65c_add_9ea2d_0 rfl (lv_at hl 0 rfl) ?_
  refine lv_dup hx hb dJx4a65c_add_9ea2d_1 rfl ?_
  refine gJx4a65c_0 hx hb hX hown h0 kw45 dJx4a65c_add_9ea2d_2 ?_
  refine lv_iconst (v := nI 1) hx hb dJx4a65c_add_9ea2d_5 (by decide) ?_
  refine n_iadd (v := mc + (nI 1)) hx hb dJx4a65c_add_9ea2d_6 rfl ?_
  refine pJx4a65c_0 hx hb hX hown h0 kw45 dJx4a65c_add_9ea2d_7 (fun H locs hX => ?_)
  obtain ⟨μ_1, e_2⟩ : ∃ z, z = va_up μ o (some (.inr (0, [.int (mc + (nI 1)), .ref ea, .int (nI sz)]))) := ⟨_, rfl⟩
  rw [← e_2] at hX
  have k_3 : μ_1 o = some (.inr (0, [.int (mc + (nI 1)), .ref ea, .int (nI sz)])) := by rw [e_2]; exact va_up_self _ _ _
  have k_4 := (congrFun e_2 ea).trans ((va_up_ne _ _ heo).trans h1)
  refine lv_aload_n hx hb dJx4a65c_add_9ea2d_10 rfl (lv_at hl 0 rfl) ?_
  refine lv_aload_n hx hb dJx4a65c_add_9ea2d_11 rfl (lv_at hl 1 rfl) ?_
  refine lv_aload_n hx hb dJx4a65c_add_9ea2d_12 rfl (lv_at hl 0 rfl) ?_
  refine gJx4a65c_1 hx hb hX hown k_3 kw42 dJx4a65c_add_9ea2d_13 ?_
  refine lv_aload_n hx hb dJx4a65c_add_9ea2d_16 rfl (lv_at hl 0 rfl) ?_
  refine gJx4a65c_2 hx hb hX hown k_3 kw43 dJx4a65c_add_9ea2d_17 ?_
  have kv := (congrFun e_2 v).trans ((va_up_ne _ _ hvo).trans hv)
  refine w_call (w_runV (n := 3) (As := [.ref v, .ref ea, .int (nI sz)]) (rest := []) hx hb hml hown hX (c_Jx4a65c_add_72be8_R l g μ_1 H.size k_3 k_4 heo b1 kv hc hca hvo) kw551 kw4 kw548 kw550 kp22 wn_Jx4a65c_add_72be8 rfl k_3 rfl ⟨Nat.le_of_ble_eq_true rfl, Nat.le_of_ble_eq_true rfl⟩ hl.1 rfl (Nat.le_of_ble_eq_true rfl) dJx4a65c_add_9ea2d_20 ⟨Nat.le_of_ble_eq_true rfl, Nat.le_of_ble_eq_true rfl⟩) hX (fun r_7 μ_5 H locs q_6 hX hz => ?_)
  obtain ⟨rfl, k2, k3, k4⟩ := q_6
  refine W.eq (g2 := F0 m 23 ls []) rfl ?_
  refine lv_iconst (v := nI 1) hx hb dJx4a65c_add_9ea2d_23 (by decide) ?_
  exact w_zret hx hb hr hlocks hX (by first | rfl | decide) ⟨rfl, k2, k3, fun z n1 n2 => by rw [k4 z n1 n2, e_2, va_up_ne _ _ n2]⟩ ⟨Nat.le_of_ble_eq_true rfl, Nat.le_of_ble_eq_true rfl⟩ dJx4a65c_add_9ea2d_24

theorem fm_neg : ∀ c, c < 2300 → 0 < c → (¬ 0 ≤ (nI 0 - nI c) ^^^ nI 30) ∧ (c % 30 = 0 → (nI 0 - nI c) - (nI 0 - nI c) / nI 30 * nI 30 = 0) ∧ (¬ c % 30 = 0 → ¬ (nI 0 - nI c) - (nI 0 - nI c) / nI 30 * nI 30 = 0 ∧ (nI 0 - nI c) - (nI 0 - nI c) / nI 30 * nI 30 + nI 30 = nI (30 - c % 30)) := by decide +kernel
theorem fm_pos : ∀ c, c < 30 → 0 ≤ nI c ^^^ nI 30 ∧ nI c - nI c / nI 30 * nI 30 = nI c := by decide +kernel
theorem fm_dif {a b : Nat} (h : a ≤ b) (hb : b < 2300) : nI a - nI b = nI 0 - nI (b - a) := Int32.toInt_inj.mp (by rw [pk_sub_toInt (by omega) (by omega), pk_sub_toInt (by omega) (by omega)]; omega)

theorem MetP.ofW {l : Launch} {y : MethodName} {ws ws' : List Cond} {rm : Room} {Pc : Array Value → State → Prop} {Qc : Array Value → State → Outcome → State → Prop} {mc ms : Nat} {free : Addr → Prop} {cc : ByteArray} {maxL : Nat} {ret : Option FieldType}
    (hy : plainFor y = true) (hw : ws = Cond.code y cc maxL ret :: ws')
    (body : ∀ p e s m args below meth c s₁, BodyLoose p l y (headSpec ws rm) cc maxL ret e s m args below meth c s₁ → c.maxLocals = maxL → Pc args s →
      W p l e (headSpec ws rm).room s m args below meth c s.heap [] 0 0 (MQ below Qc args s mc ms free) (entryFrame m args maxL)) : Met l y ws rm Pc Qc mc ms free := by
  refine MetFree.of_bodySF (code := cc) (maxLocals := maxL) (ret := ret) hy ?_ ?_
  · intro args s m h hn
    obtain ⟨meth, c, h1, h2, h3, h4, h5, h6, -, -⟩ := Cond.code_spec hn (atoms_spec (ws := ws) h _ (by rw [hw]; exact List.mem_cons_self))
    exact ⟨meth, c, h1, h2, h3, h4, h5, h6⟩
  · intro p e s m args below meth c s₁ B hml hP _
    have hh0 : s₁.heap = s.heap := by rw [B.state]; rfl
    obtain ⟨t, a1, o, b1, b2, b3⟩ := body p e s m args below meth c s₁ B hml hP s₁ hh0 (Stand.of_body B)
    exact ⟨t, o, a1, b1, b2, ⟨b3.1, b3.2⟩⟩
theorem wMet.ofP {l : Launch} {y : MethodName} {bytes : ByteArray} {maxL : Nat} {ret : Option FieldType} {fr mc ms lo : Nat} {g : wG} {av : List Value} {μ : wMu} {sz : Nat} {post : Option Value → wMu → Prop} (hy : plainFor y = true) (hsl : (lg_sl av).length ≤ maxL)
    (body : ∀ (p : Program) (e : Env) (s : State) (m : MethodId) (below : List Frame) (meth : Method) (c : Code) (ls : Array Slot), p.tables.exec = Jvm.exec → c.code = bytes → meth.sig.returnType = ret → c.maxLocals = maxL → s.vm.findClass y.cls = some m.cls → meth.locks = false → meth.name = y.name → lv_has ls maxL (lv_args 0 av) → s.heap.size = sz → wX g (wA μ sz) s s.heap [] μ →
      W p l e ({ frames := fr, cells := mc, slots := ms, locals := lo } : Room) s m av.toArray below meth c s.heap [] 0 0 (MQ below (wQc g μ sz post) av.toArray s mc ms (wA μ sz)) (F0 m 0 ls [])) : wMet l y bytes maxL ret fr mc ms lo g av μ sz post := by
  refine MetP.ofW (cc := bytes) (maxL := maxL) (ret := ret) (ws' := []) hy rfl ?_
  intro p e s m args below meth c s₁ B hml hv
  have hX := wX.start hv
  obtain ⟨rfl, hsz, -⟩ := hv
  have hl := lv_entry av (n := maxL) hsl
  rw [lg_entry_eq]
  exact body p e s m below meth c _ B.exec B.bytes B.returns hml (findClass_of_methodNamed B.named) B.notSynchronized (name_of_methodNamed B.named B.method).1 hl hsz hX

set_option maxHeartbeats 4000000 in
set_option maxRecDepth 100000 in
/-- the days that are still to come -/
theorem c_J9_floorMod_7cf53 (l : Launch) (g : wG) (μ : wMu) (zz : Nat) {a b : Nat} (h1 : a ≤ 29) (h2 : b < 2300) : wMet l yJ9_floorMod_7cf53 cJ9_floorMod_7cf53 3 (some .int) 0 0 0 0 g [.int (nI a - nI b), .int (nI 30)] μ zz (fun r μ' => r = some (.int (nI ((a + 30 - b % 30) % 30))) ∧ μ' = μ) := by
  refine wMet.ofP (by decide +kernel) (Nat.le_of_ble_eq_true rfl) ?_
  intro p e s m below meth c ls hx hb hr hml hown hlocks hin hl hsz hX
  obtain ⟨x, hxe⟩ : ∃ x, x = nI a - nI b := ⟨_, rfl⟩
  obtain ⟨y, hye⟩ : ∃ y, y = x - x / nI 30 * nI 30 := ⟨_, rfl⟩
  have hl : lv_has ls 3 [(0, .int x), (1, .int (nI 30))] := by rw [hxe]; exact hl
  refine lv_iload_n hx hb dJ9_floorMod_7cf53_0 rfl (lv_at hl 0 rfl) ?_
  refine lv_iload_n hx hb dJ9_floorMod_7cf53_1 rfl (lv_at hl 1 rfl) ?_
  refine n_irem hx hb dJ9_floorMod_7cf53_2 (by decide) hye.symm ?_
  refine lv_istore_n (lv' := [(2, .int y), (0, .int x), (1, .int (nI 30))]) hx hb dJ9_floorMod_7cf53_3 rfl hl (by decide) rfl (fun ls hl => ?_)
  refine lv_iload_n hx hb dJ9_floorMod_7cf53_4 rfl (lv_at hl 1 rfl) ?_
  refine lv_iload_n hx hb dJ9_floorMod_7cf53_5 rfl (lv_at hl 2 rfl) ?_
  refine lv_ixor hx hb dJ9_floorMod_7cf53_6 ?_
  refine lv_if_ge (tgt := 18) hx hb dJ9_floorMod_7cf53_7 (by decide) (fun h => ?_) (fun h => ?_)
  · refine lv_iload_n hx hb dJ9_floorMod_7cf53_18 rfl (lv_at hl 0 rfl) ?_
    refine w_iret hx hb hr hlocks hX ⟨?_, rfl⟩ ⟨Nat.le_of_ble_eq_true rfl, Nat.le_of_ble_eq_true rfl⟩ dJ9_floorMod_7cf53_19
    rcases Nat.lt_or_ge a b with q | q
    · rw [hxe, fm_dif (Nat.le_of_lt q) h2] at h
      exact absurd h (fm_neg (b - a) (by omega) (by omega)).1
    · rw [hye, hxe, pk_sub q, (fm_pos (a - b) (by omega)).2, show (a + 30 - b % 30) % 30 = a - b by omega]
  · refine lv_iload_n hx hb dJ9_floorMod_7cf53_10 rfl (lv_at hl 0 rfl) ?_
    have q : a < b := by
      rcases Nat.lt_or_ge a b with q | q
      · exact q
      · rw [hxe, pk_sub q] at h
        exact absurd (fm_pos (a - b) (by omega)).1 h
    have f := (fm_neg (b - a) (by omega) (by omega)).2
    rw [hxe, fm_dif (Nat.le_of_lt q) h2] at hye
    rw [← hye] at f
    refine lv_if_eq (tgt := 18) hx hb dJ9_floorMod_7cf53_11 (by decide) (fun h3 => ?_) (fun h3 => ?_)
    · refine lv_iload_n hx hb dJ9_floorMod_7cf53_18 rfl (lv_at hl 0 rfl) ?_
      refine w_iret hx hb hr hlocks hX ⟨?_, rfl⟩ ⟨Nat.le_of_ble_eq_true rfl, Nat.le_of_ble_eq_true rfl⟩ dJ9_floorMod_7cf53_19
      by_cases z : (b - a) % 30 = 0
      · rw [h3, show (a + 30 - b % 30) % 30 = 0 by omega, nI_0]
      · exact absurd h3 (f.2 z).1
    · refine lv_iload_n hx hb dJ9_floorMod_7cf53_14 rfl (lv_at hl 0 rfl) ?_
      refine lv_iload_n hx hb dJ9_floorMod_7cf53_15 rfl (lv_at hl 2 rfl) ?_
      refine lv_iadd hx hb dJ9_floorMod_7cf53_16 ?_
      refine w_iret hx hb hr hlocks hX ⟨?_, rfl⟩ ⟨Nat.le_of_ble_eq_true rfl, Nat.le_of_ble_eq_true rfl⟩ dJ9_floorMod_7cf53_17
      by_cases z : (b - a) % 30 = 0
      · exact absurd (f.1 z) h3
      · rw [(f.2 z).2, show (a + 30 - b % 30) % 30 = 30 - (b - a) % 30 by omega]

