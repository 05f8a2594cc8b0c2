theorem and_low (y : Int32) : ∃ k, k < 2 ^ 31 ∧ y &&& (2147483647 : Int32) = nI k := by
  have h1 : (y &&& (2147483647 : Int32)).toBitVec.toNat ≤ 2147483647 := by
    have e : (y &&& (2147483647 : Int32)).toBitVec = y.toBitVec &&& (2147483647 : Int32).toBitVec := rfl
    rw [e, BitVec.toNat_and]
    exact Nat.and_le_right
  refine ⟨(y &&& (2147483647 : Int32)).toBitVec.toNat, by omega, ?_⟩
  refine Int32.toBitVec_inj.mp ?_
  refine BitVec.eq_of_toNat_eq ?_
  show _ = (BitVec.ofNat 32 _).toNat
  rw [BitVec.toNat_ofNat, Nat.mod_eq_of_lt (by omega)]
set_option maxHeartbeats 4000000 in
set_option maxRecDepth 100000 in
/-- a number below n -/
theorem c_L_below (l : Launch) (g : wG) (μ : wMu) (zz : Nat) {x : Int32} {n : Nat} (h1 : 0 < n) (h2 : n < 2 ^ 31) : wMet l yL_below cL_below 2 (some .int) 0 0 0 0 g [.int x, .int (nI n)] μ zz (fun r μ' => ∃ k, k < n ∧ r = some (.int (nI k)) ∧ μ' = μ) := by
  refine wMet.of (by decide) (Nat.le_of_ble_eq_true rfl) ?_
  intro p e s m below meth c ls hx hb hr hml hown hlocks hin hl hsz hX
  have hl : lv_has ls 2 [(0, .int x), (1, .int (nI n))] := hl
  refine lv_iload_n hx hb dL_below_0 rfl (lv_at hl 0 rfl) ?_
  refine lv_ldc (v := (2147483647 : Int32)) hx hb hown (hX.w kw510) dL_below_1 ?_
  refine lv_iand hx hb dL_below_3 ?_
  obtain ⟨k, hk, hke⟩ := and_low x
  rw [hke]
  refine lv_iload_n hx hb dL_below_4 rfl (lv_at hl 1 rfl) ?_
  refine n_irem hx hb dL_below_5 (nI_ne0 (by omega) (by omega)) (pk_rem (by omega) (by omega) (by omega)) ?_
  exact w_iret hx hb hr hlocks hX ⟨k % n, Nat.mod_lt _ h1, rfl, rfl⟩ ⟨Nat.le_of_ble_eq_true rfl, Nat.le_of_ble_eq_true rfl⟩ dL_below_6

set_option maxHeartbeats 4000000 in
set_option maxRecDepth 100000 in
/-- a number out of the script -/
theorem c_L_cell (l : Launch) (g : wG) (μ : wMu) (zz : Nat) {k : Nat} (h1 : k ≤ 1000) : wMet l yL_cell cL_cell 2 (some .int) 0 0 0 0 g [.ref ((gT g).1), .int (nI k)] μ zz (fun r μ' => ∃ v : Int32, r = some (.int v) ∧ μ' = μ) := by
  refine wMet.of (by decide) (Nat.le_of_ble_eq_true rfl) ?_
  intro p e s m below meth c ls hx hb hr hml hown hlocks hin hl hsz hX
  have hl : lv_has ls 2 [(0, .ref ((gT g).1)), (1, .int (nI k))] := hl
  have hscr := hX.scr
  refine lv_iload_n hx hb dL_cell_0 rfl (lv_at hl 1 rfl) ?_
  refine lv_aload_n hx hb dL_cell_1 rfl (lv_at hl 0 rfl) ?_
  refine n_slen hx hb hX dL_cell_2 ?_
  refine n_ge (tgt := 12) hx hb (by omega) (by omega) dL_cell_3 (by decide) (fun c_1 => ?_) (fun c_1 => ?_)
  · skip
    refine lv_ldc (v := (790386105 : Int32)) hx hb hown (hX.w kw514) dL_cell_12 ?_
    refine lv_iload_n hx hb dL_cell_14 rfl (lv_at hl 1 rfl) ?_
    refine lv_iconst (v := nI 3) hx hb dL_cell_15 (by decide) ?_
    refine n_iadd hx hb dL_cell_16 (nI_add _ _) ?_
    refine n_imul hx hb dL_cell_17 rfl ?_
    refine lv_topi (fun y_2 _ => ?_)
    exact w_iret hx hb hr hlocks hX ⟨_, rfl, rfl⟩ ⟨Nat.le_of_ble_eq_true rfl, Nat.le_of_ble_eq_true rfl⟩ dL_cell_18
  · skip
    refine lv_aload_n hx hb dL_cell_6 rfl (lv_at hl 0 rfl) ?_
    refine lv_iload_n hx hb dL_cell_7 rfl (lv_at hl 1 rfl) ?_
    refine n_sld hx hb hX (vp_in_nI (by omega) (by omega)) dL_cell_8 ?_
    refine lv_topi (fun y_3 _ => ?_)
    refine lv_goto (tgt := 18) hx hb dL_cell_9 (by decide) ?_
    exact w_iret hx hb hr hlocks hX ⟨_, rfl, rfl⟩ ⟨Nat.le_of_ble_eq_true rfl, Nat.le_of_ble_eq_true rfl⟩ dL_cell_18

