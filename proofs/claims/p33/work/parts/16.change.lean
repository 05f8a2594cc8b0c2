/-! THE CHANGES -/
section FDL2
variable {g : wG} {Λ σ σ' : sSt} {xv : Option Int64} {μ μ' : wMu}
theorem fD.cw1 (hF : fD g Λ xv σ μ) {j i : Nat} (hj : j < σ 4 0) (hi : i < σ 3 0) (hn1 : μ' (Λ 8 j) = some (cC Λ σ' j)) (hn2 : μ' (Λ 7 i) = some (cW σ' i)) (ho : ∀ q, q ≠ Λ 8 j → q ≠ Λ 7 i → μ' q = μ q) (hs : ∀ f k, ¬ (8 ≤ f ∧ f ≤ 13 ∧ k = j) → ¬ (5 ≤ f ∧ f ≤ 7 ∧ k = i) → σ' f k = σ f k) : fD g Λ xv σ' μ' := by
  obtain ⟨f1, ⟨m1, f2⟩, ⟨m2, f3⟩, f4, f5, f6, f7, f8, f9, f10, f11⟩ := id hF
  have hj0 := f7 j hj
  have hi0 := f6 i hi
  refine hF.chg (hs 3 0 (by omega) (by omega)) (hs 4 0 (by omega) (by omega)) ?_ ?_ ?_ ?_ ?_ ?_
  · rw [ho _ (kd_ne f1 hj0 rfl) (kd_ne f1 hi0 rfl), f1]; simp only [hs 0 0 (by omega) (by omega), hs 1 0 (by omega) (by omega), hs 2 0 (by omega) (by omega), cF]
  · intro k hk
    by_cases e : k = i
    · subst e; exact hn2
    · rw [ho _ (kd_ne (f6 k hk) hj0 rfl) (fun z => e (f10.2.2.1 k i hk hi z)), f6 k hk]; simp only [cW, hs 5 k (by omega) (by omega), hs 6 k (by omega) (by omega), hs 7 k (by omega) (by omega)]
  · intro k hk
    by_cases e : k = j
    · subst e; exact hn1
    · rw [ho _ (fun z => e (f10.2.2.2.1 k j hk hj z)) (kd_ne (f7 k hk) hi0 rfl), f7 k hk]; simp only [cC, hs 8 k (by omega) (by omega), hs 9 k (by omega) (by omega), hs 10 k (by omega) (by omega), hs 11 k (by omega) (by omega), hs 12 k (by omega) (by omega), hs 13 k (by omega) (by omega)]
  · obtain ⟨a, b, c, d, h⟩ := f8
    exact ⟨a, b, c, d, by rw [ho _ (kd_ne h hj0 rfl) (Ne.symm (f10.2.2.2.2.1 i hi)), h]⟩
  · obtain ⟨a, b, c, d, e, h⟩ := f9
    exact ⟨a, b, c, d, e, by rw [ho _ (Ne.symm (f10.2.2.2.2.2 j hj)) (kd_ne h hi0 rfl), h]⟩
  · intro q e h1 h2
    exact ho q (kd_nn h1 hj0 (by show kd e ≠ 1; omega)) (kd_nn h1 hi0 (by show kd e ≠ 2; omega))
end FDL2
def sP (σ : sSt) (a b c : Nat) : sSt := fun f i =>
  if f = 0 ∧ i = 0 then σ 0 0 + b else if f = 7 ∧ i < a then dIn σ i 1 else if f = 10 ∧ i < c then bIn σ i 1 else if f = 11 ∧ i < c then σ 11 i - 1 else σ f i
theorem sP_eq (σ : sSt) (a b c f i : Nat) : sP σ a b c f i = if f = 0 ∧ i = 0 then σ 0 0 + b else if f = 7 ∧ i < a then dIn σ i 1 else if f = 10 ∧ i < c then bIn σ i 1 else if f = 11 ∧ i < c then σ 11 i - 1 else σ f i := rfl
theorem nPas_eq (σ : sSt) (k f i : Nat) : nPas σ k f i = if f = 0 ∧ i = 0 then σ 0 0 + k else if f = 7 ∧ i < σ 3 0 then dIn σ i k else if f = 10 ∧ i < σ 4 0 then bIn σ i k else if f = 11 ∧ i < σ 4 0 then σ 11 i - k else σ f i := rfl
theorem sP_0 (σ : sSt) : sP σ 0 0 0 = σ := by
  funext f i
  simp only [sP, Nat.not_lt_zero, and_false, if_false, Nat.add_zero]
  split
  · rename_i h; rw [h.1, h.2]
  · rfl
theorem sP_a (σ : sSt) {a b c f k : Nat} (h : ¬ (f = 7 ∧ k = a)) : sP σ (a + 1) b c f k = sP σ a b c f k := by
  have e : (f = 7 ∧ k < a + 1) ↔ (f = 7 ∧ k < a) := by omega
  simp only [sP, e]
theorem sP_c (σ : sSt) {a b c f k : Nat} (h : ¬ ((f = 10 ∨ f = 11) ∧ k = c)) : sP σ a b (c + 1) f k = sP σ a b c f k := by
  have e : (f = 10 ∧ k < c + 1) ↔ (f = 10 ∧ k < c) := by omega
  have e2 : (f = 11 ∧ k < c + 1) ↔ (f = 11 ∧ k < c) := by omega
  simp only [sP, e, e2]
theorem sP_b (σ : sSt) {a b b2 c f k : Nat} (h : ¬ (f = 0 ∧ k = 0)) : sP σ a b c f k = sP σ a b2 c f k := by
  rw [sP_eq, sP_eq, if_neg h, if_neg h]
theorem sP_7 (σ : sSt) {a b c k : Nat} (h : k < a) : sP σ a b c 7 k = dIn σ k 1 := by
  rw [sP_eq, if_neg (show ¬ ((7 : Nat) = 0 ∧ k = 0) by omega), if_pos ⟨rfl, h⟩]
theorem sP_7n (σ : sSt) {a b c k : Nat} (h : ¬ k < a) : sP σ a b c 7 k = σ 7 k := by
  rw [sP_eq, if_neg (show ¬ ((7 : Nat) = 0 ∧ k = 0) by omega), if_neg (show ¬ ((7 : Nat) = 7 ∧ k < a) by omega), if_neg (show ¬ ((7 : Nat) = 10 ∧ k < c) by omega), if_neg (show ¬ ((7 : Nat) = 11 ∧ k < c) by omega)]
theorem sP_10 (σ : sSt) {a b c k : Nat} (h : k < c) : sP σ a b c 10 k = bIn σ k 1 := by
  rw [sP_eq, if_neg (show ¬ ((10 : Nat) = 0 ∧ k = 0) by omega), if_neg (show ¬ ((10 : Nat) = 7 ∧ k < a) by omega), if_pos ⟨rfl, h⟩]
theorem sP_10n (σ : sSt) {a b c k : Nat} (h : ¬ k < c) : sP σ a b c 10 k = σ 10 k := by
  rw [sP_eq, if_neg (show ¬ ((10 : Nat) = 0 ∧ k = 0) by omega), if_neg (show ¬ ((10 : Nat) = 7 ∧ k < a) by omega), if_neg (show ¬ ((10 : Nat) = 10 ∧ k < c) by omega), if_neg (show ¬ ((10 : Nat) = 11 ∧ k < c) by omega)]
theorem sP_11 (σ : sSt) {a b c k : Nat} (h : k < c) : sP σ a b c 11 k = σ 11 k - 1 := by
  rw [sP_eq, if_neg (show ¬ ((11 : Nat) = 0 ∧ k = 0) by omega), if_neg (show ¬ ((11 : Nat) = 7 ∧ k < a) by omega), if_neg (show ¬ ((11 : Nat) = 10 ∧ k < c) by omega), if_pos ⟨rfl, h⟩]
theorem sP_11n (σ : sSt) {a b c k : Nat} (h : ¬ k < c) : sP σ a b c 11 k = σ 11 k := by
  rw [sP_eq, if_neg (show ¬ ((11 : Nat) = 0 ∧ k = 0) by omega), if_neg (show ¬ ((11 : Nat) = 7 ∧ k < a) by omega), if_neg (show ¬ ((11 : Nat) = 10 ∧ k < c) by omega), if_neg (show ¬ ((11 : Nat) = 11 ∧ k < c) by omega)]
theorem sP_o (σ : sSt) {a b c f k : Nat} (h : f ≠ 0 ∧ f ≠ 7 ∧ f ≠ 10 ∧ f ≠ 11) : sP σ a b c f k = σ f k := by
  rw [sP_eq, if_neg (show ¬ (f = 0 ∧ k = 0) by omega), if_neg (show ¬ (f = 7 ∧ k < a) by omega), if_neg (show ¬ (f = 10 ∧ k < c) by omega), if_neg (show ¬ (f = 11 ∧ k < c) by omega)]
theorem sP_00 (σ : sSt) (a b c : Nat) : sP σ a b c 0 0 = σ 0 0 + b := by rw [sP_eq, if_pos ⟨rfl, rfl⟩]
theorem sP_end (σ : sSt) : sP σ (σ 3 0) 1 (σ 4 0) = nPas σ 1 := rfl
theorem nPas_00 (σ : sSt) (k : Nat) : nPas σ k 0 0 = σ 0 0 + k := by rw [nPas_eq, if_pos ⟨rfl, rfl⟩]
theorem nPas_7 (σ : sSt) {k i : Nat} (h : i < σ 3 0) : nPas σ k 7 i = dIn σ i k := by
  rw [nPas_eq, if_neg (show ¬ ((7 : Nat) = 0 ∧ i = 0) by omega), if_pos ⟨rfl, h⟩]
theorem nPas_10 (σ : sSt) {k i : Nat} (h : i < σ 4 0) : nPas σ k 10 i = bIn σ i k := by
  rw [nPas_eq, if_neg (show ¬ ((10 : Nat) = 0 ∧ i = 0) by omega), if_neg (show ¬ ((10 : Nat) = 7 ∧ i < σ 3 0) by omega), if_pos ⟨rfl, h⟩]
theorem nPas_11 (σ : sSt) {k i : Nat} (h : i < σ 4 0) : nPas σ k 11 i = σ 11 i - k := by
  rw [nPas_eq, if_neg (show ¬ ((11 : Nat) = 0 ∧ i = 0) by omega), if_neg (show ¬ ((11 : Nat) = 7 ∧ i < σ 3 0) by omega), if_neg (show ¬ ((11 : Nat) = 10 ∧ i < σ 4 0) by omega), if_pos ⟨rfl, h⟩]
theorem nPas_o (σ : sSt) {k f i : Nat} (h : ¬ (f = 0 ∧ i = 0) ∧ ¬ (f = 7 ∧ i < σ 3 0) ∧ ¬ (f = 10 ∧ i < σ 4 0) ∧ ¬ (f = 11 ∧ i < σ 4 0)) : nPas σ k f i = σ f i := by
  rw [nPas_eq, if_neg h.1, if_neg h.2.1, if_neg h.2.2.1, if_neg h.2.2.2]
theorem nPas_0 {σ : sSt} (hO : sOk σ) : nPas σ 0 = σ := by
  funext f i
  by_cases h1 : f = 0 ∧ i = 0
  · rw [h1.1, h1.2, nPas_00, Nat.add_zero]
  by_cases h2 : f = 7 ∧ i < σ 3 0
  · rw [h2.1, nPas_7 σ h2.2, dIn_0 (hO.2.2.1 i h2.2).2.2.2]
  by_cases h3 : f = 10 ∧ i < σ 4 0
  · rw [h3.1, nPas_10 σ h3.2, bIn_0]
  by_cases h4 : f = 11 ∧ i < σ 4 0
  · rw [h4.1, nPas_11 σ h4.2, Nat.sub_zero]
  exact nPas_o σ ⟨h1, h2, h3, h4⟩
theorem nPas_s {σ : sSt} (k : Nat) : nPas (nPas σ k) 1 = nPas σ (k + 1) := by
  have n3 : nPas σ k 3 0 = σ 3 0 := nPas_o σ (by omega)
  have n4 : nPas σ k 4 0 = σ 4 0 := nPas_o σ (by omega)
  funext f i
  by_cases h1 : f = 0 ∧ i = 0
  · rw [h1.1, h1.2, nPas_00, nPas_00, nPas_00, Nat.add_assoc]
  by_cases h2 : f = 7 ∧ i < σ 3 0
  · rw [h2.1, nPas_7 σ h2.2, nPas_7 (nPas σ k) (by rw [n3]; exact h2.2), ← dIn_s σ i k]
    simp only [dIn]
    rw [nPas_o σ (show _ by omega : ¬ ((5 : Nat) = 0 ∧ i = 0) ∧ _), nPas_o σ (show _ by omega : ¬ ((6 : Nat) = 0 ∧ i = 0) ∧ _), nPas_7 σ h2.2]
    simp only [dIn, Nat.one_mul]
  by_cases h3 : f = 10 ∧ i < σ 4 0
  · rw [h3.1, nPas_10 σ h3.2, nPas_10 (nPas σ k) (by rw [n4]; exact h3.2), ← bIn_s (nPas σ k) i 0, bIn_0, nPas_10 σ h3.2, nPas_00, nPas_o σ (show _ by omega : ¬ ((9 : Nat) = 0 ∧ i = 0) ∧ _), Nat.add_zero, bIn_s]
  by_cases h4 : f = 11 ∧ i < σ 4 0
  · rw [h4.1, nPas_11 σ h4.2, nPas_11 (nPas σ k) (by rw [n4]; exact h4.2), nPas_11 σ h4.2, Nat.sub_sub]
  rw [nPas_o σ ⟨h1, h2, h3, h4⟩, nPas_o (nPas σ k) (by rw [n3, n4]; exact ⟨h1, h2, h3, h4⟩), nPas_o σ ⟨h1, h2, h3, h4⟩]
theorem sOk.pas {σ : sSt} (hO : sOk σ) {k : Nat} (h : σ 0 0 + k ≤ 52000) : sOk (nPas σ k) := by
  obtain ⟨o1, o2, o3, o4, o5, o6, o7⟩ := id hO
  have n3 : nPas σ k 3 0 = σ 3 0 := nPas_o σ (by omega)
  have n4 : nPas σ k 4 0 = σ 4 0 := nPas_o σ (by omega)
  refine ⟨by omega, by omega, ?_, ?_, ?_, by rw [nPas_00]; exact h, ?_⟩
  · intro i hi
    rw [n3] at hi
    rw [nPas_7 σ hi, nPas_o σ (show _ by omega : ¬ ((5 : Nat) = 0 ∧ i = 0) ∧ _), nPas_o σ (show _ by omega : ¬ ((6 : Nat) = 0 ∧ i = 0) ∧ _)]
    have := o3 i hi
    exact ⟨this.1, this.2.1, this.2.2.1, dIn_le σ i k⟩
  · intro j hj
    rw [n4] at hj
    rw [n3, nPas_10 σ hj, nPas_11 σ hj, nPas_o σ (show _ by omega : ¬ ((8 : Nat) = 0 ∧ j = 0) ∧ _), nPas_o σ (show _ by omega : ¬ ((9 : Nat) = 0 ∧ j = 0) ∧ _), nPas_o σ (show _ by omega : ¬ ((12 : Nat) = 0 ∧ j = 0) ∧ _), nPas_o σ (show _ by omega : ¬ ((13 : Nat) = 0 ∧ j = 0) ∧ _)]
    have := o4 j hj
    have := bIn_le (j := j) (k := k) this.2.2.1
    omega
  · intro j hj
    rw [n4] at hj
    rw [nPas_o σ (show _ by omega : ¬ ((11 : Nat) = 0 ∧ j = 0) ∧ _), nPas_o σ (show _ by omega : ¬ ((12 : Nat) = 0 ∧ j = 0) ∧ _)]
    exact o5 j hj
  · rw [nPas_o σ (show _ by omega : ¬ ((1 : Nat) = 0 ∧ 0 = 0) ∧ _), nPas_o σ (show _ by omega : ¬ ((2 : Nat) = 0 ∧ 0 = 0) ∧ _)]
    exact o7
theorem sFal_0 {σ : sSt} (hO : sOk σ) : ∀ m, m ≤ σ 3 0 → sFal σ 0 m = 0
  | 0, _ => rfl
  | m + 1, h => by
    have := sFal_0 hO m (by omega)
    have h7 := (hO.2.2.1 m (by omega)).2.2.2
    simp only [sFal]
    rw [this, dIn_0 h7]
    omega
theorem sFal_s {σ : sSt} (hO : sOk σ) (k : Nat) : ∀ m, m ≤ σ 3 0 → sFal σ k m + sFal (nPas σ k) 1 m = sFal σ (k + 1) m
  | 0, _ => rfl
  | m + 1, h => by
    have ih := sFal_s hO k m (by omega)
    have n3 : nPas σ k 3 0 = σ 3 0 := nPas_o σ (by omega)
    have h7 := (hO.2.2.1 m (by omega)).2.2.2
    have e1 : dIn (nPas σ k) m 1 = dIn σ m (k + 1) := by
      rw [← nPas_7 σ (show m < σ 3 0 by omega), ← nPas_s k, nPas_7 (nPas σ k) (by omega)]
    have e2 := dIn_ge (k := k) h7
    have e3 : dIn σ m k ≤ dIn σ m (k + 1) := by
      rw [← dIn_s]
      have := dIn_le σ m k
      omega
    simp only [sFal]
    rw [e1, nPas_7 σ (show m < σ 3 0 by omega)]
    omega

set_option maxHeartbeats 4000000 in
set_option maxRecDepth 100000 in
/-- a number mixed in -/
theorem c_X2_mixed (l : Launch) (g : wG) (μ : wMu) (zz : Nat) {a : Int64} {x : Int32} : wMet l yX2_mixed cX2_mixed 3 (some .long) 0 0 0 0 g [.long a, .int x] μ zz (fun r μ' => r = some (.long (mix a x)) ∧ μ' = μ) := by
  refine wMet.of (by decide) (Nat.le_of_ble_eq_true rfl) ?_
  intro p e s m below meth c ls hx hb hr hml hown hlocks hin hl hsz hX
  have hl : lv_has ls 3 [(0, .long a), (2, .int x)] := hl
  refine lv_lload_n hx hb dX2_mixed_0 rfl (lv_at hl 0 rfl) ?_
  refine lv_ldc2 (v := 31) hx hb hown (hX.w kw428) dX2_mixed_1 ?_
  refine lv_lmul hx hb dX2_mixed_4 ?_
  refine lv_iload_n hx hb dX2_mixed_5 rfl (lv_at hl 1 rfl) ?_
  refine lv_i2l hx hb dX2_mixed_6 rfl ?_
  refine lv_ladd hx hb dX2_mixed_7 ?_
  exact w_lret hx hb hr hlocks hX ⟨rfl, rfl⟩ ⟨Nat.le_of_ble_eq_true rfl, Nat.le_of_ble_eq_true rfl⟩ dX2_mixed_8

set_option maxHeartbeats 4000000 in
set_option maxRecDepth 100000 in
/-- another wand -/
theorem c_X2_give (l : Launch) (hlt : l.stackTraces = false) (g : wG) (μ : wMu) (zz : Nat) {Λ σ : sSt} {xv : Option Int64} (hF : fD g Λ xv σ μ) (hO : sOk σ) {x y : Int32} : wMetX l yX2_give cX2_give 6 (some .int) 7 2 12 111 g [.ref (Λ 0 0), .int x, .int y] μ zz (fun r μ' => ∃ j i, j < σ 4 0 ∧ i < σ 3 0 ∧ x = nI j ∧ y = nI i ∧ r = some (.int (nI (σ 8 j))) ∧ fD g Λ xv (up2 σ 8 j i) μ') (fun E => E = xIOB ∧ ¬ (isX x (σ 4 0) ∧ isX y (σ 3 0))) := by
  refine wMetX.of (by decide) (Nat.le_of_ble_eq_true rfl) ?_
  intro p e s m below meth c ls hx hb hr hml hown hlocks hin hl hsz hX hxt
  have hl : lv_has ls 6 [(0, .ref (Λ 0 0)), (1, .int x), (2, .int y)] := hl
  obtain ⟨f1, ⟨m1, f2⟩, ⟨m2, f3⟩, f4, f5, f6, f7, ⟨t1, t2, t3, t4, f8⟩, ⟨u1, u2, u3, u4, u5, f9⟩, f10, f11⟩ := id hF
  obtain ⟨o1, o2, o3, o4, o5, o6, o7⟩ := id hO
  refine lv_aload_n hx hb dX2_give_0 rfl (lv_at hl 0 rfl) ?_
  refine lv_iload_n hx hb dX2_give_1 rfl (lv_at hl 1 rfl) ?_
  refine w_callX (w_runVX (n := 1) (As := [.int x]) (rest := []) hx hb hml hown hX (c_X2_childAt l hlt g μ s.heap.size hF hO) kw137 kw1 kw134 kw136 kp0 wn_X2_childAt rfl f1 rfl ⟨Nat.le_of_ble_eq_true rfl, Nat.le_of_ble_eq_true rfl⟩ hl.1 rfl (Nat.le_of_ble_eq_true rfl) dX2_give_2 ⟨Nat.le_of_ble_eq_true rfl, Nat.le_of_ble_eq_true rfl⟩) hX (fun E ce q9 H locs hE hX hce hcv hcl => ?_) (fun r_3 μ_1 H locs q_2 hX hz => ?_)
  · skip
    exact w_out hxt hlocks hX (⟨hE.1, fun z => hE.2 z.1⟩) hce hcv hcl ⟨Nat.le_of_ble_eq_true rfl, Nat.le_of_ble_eq_true rfl⟩
  obtain ⟨j, hj, hxe, rfl, e_4⟩ := q_2
  rw [e_4] at hX
  refine W.eq (g2 := F0 m 5 ls [.ref (Λ 8 j)]) rfl ?_
  have kc_5 := f7 j hj
  have kc_5b := o4 j hj
  have kw_6 := f6 (σ 8 j) kc_5b.1
  have kw_6b := o3 (σ 8 j) kc_5b.1
  refine lv_astore_n (lv' := [(3, .ref (Λ 8 j)), (0, .ref (Λ 0 0)), (1, .int x), (2, .int y)]) hx hb dX2_give_5 rfl hl (by decide) rfl (fun ls hl => ?_)
  refine lv_aload_n hx hb dX2_give_6 rfl (lv_at hl 1 rfl) ?_
  refine lv_iload_n hx hb dX2_give_7 rfl (lv_at hl 3 rfl) ?_
  refine w_callX (w_runVX (n := 1) (As := [.int y]) (rest := []) hx hb hml hown hX (c_X2_wandAt l hlt g μ H.size hF hO) kw337 kw1 kw334 kw336 kp13 wn_X2_wandAt rfl f1 rfl ⟨Nat.le_of_ble_eq_true rfl, Nat.le_of_ble_eq_true rfl⟩ hl.1 rfl (Nat.le_of_ble_eq_true rfl) dX2_give_8 ⟨Nat.le_of_ble_eq_true rfl, Nat.le_of_ble_eq_true rfl⟩) hX (fun E ce q9 H locs hE hX hce hcv hcl => ?_) (fun r_9 μ_7 H locs q_8 hX hz => ?_)
  · skip
    exact w_out hxt hlocks hX (⟨hE.1, fun z => hE.2 z.2⟩) hce hcv hcl ⟨Nat.le_of_ble_eq_true rfl, Nat.le_of_ble_eq_true rfl⟩
  obtain ⟨i, hi, hye, rfl, e_10⟩ := q_8
  rw [e_10] at hX
  refine W.eq (g2 := F0 m 11 ls [.ref (Λ 7 i)]) rfl ?_
  refine lv_astore (lv' := [(4, .ref (Λ 7 i)), (3, .ref (Λ 8 j)), (0, .ref (Λ 0 0)), (1, .int x), (2, .int y)]) hx hb dX2_give_11 hl (by decide) rfl (fun ls hl => ?_)
  refine lv_aload_n hx hb dX2_give_13 rfl (lv_at hl 1 rfl) ?_
  refine gnX0_0 hx hb hX hown kc_5 kw84 dX2_give_14 ?_
  refine gnX1_0 hx hb hX hown kw_6 kw61 dX2_give_17 ?_
  refine lv_istore (lv' := [(5, .int (nI (σ 8 j))), (4, .ref (Λ 7 i)), (3, .ref (Λ 8 j)), (0, .ref (Λ 0 0)), (1, .int x), (2, .int y)]) hx hb dX2_give_20 hl (by decide) rfl (fun ls hl => ?_)
  refine lv_aload_n hx hb dX2_give_22 rfl (lv_at hl 2 rfl) ?_
  refine lv_aload hx hb dX2_give_23 (lv_at hl 1 rfl) ?_
  refine pnX0_0 hx hb hX hown kc_5 kw84 dX2_give_25 (fun H locs hX => ?_)
  obtain ⟨μ_11, e_12⟩ : ∃ z, z = va_up μ (Λ 8 j) (some (.inr (1, [.ref (Λ 7 i), .int (nI (σ 9 j)), .int (nI (σ 10 j)), .int (nI (σ 11 j)), .int (nI (σ 12 j)), .int (nI (σ 13 j))]))) := ⟨_, rfl⟩
  rw [← e_12] at hX
  have k_13 : μ_11 (Λ 8 j) = some (.inr (1, [.ref (Λ 7 i), .int (nI (σ 9 j)), .int (nI (σ 10 j)), .int (nI (σ 11 j)), .int (nI (σ 12 j)), .int (nI (σ 13 j))])) := by rw [e_12]; exact va_up_self _ _ _
  refine lv_iload hx hb dX2_give_28 (lv_at hl 0 rfl) ?_
  exact vx_ret (w_iret hx hb hr hlocks hX ⟨j, i, hj, hi, hxe, hye, rfl, hF.c1 hj (by rw [k_13]; simp [cC, up2]) (fun q n => by rw [e_12, va_up_ne _ _ n]) (fun f k h => if_neg (fun z => h ⟨by omega, by omega, z.2⟩))⟩ ⟨Nat.le_of_ble_eq_true rfl, Nat.le_of_ble_eq_true rfl⟩ dX2_give_30)

set_option maxHeartbeats 4000000 in
set_option maxRecDepth 100000 in
/-- another fall -/
theorem c_X2_setFall (l : Launch) (hlt : l.stackTraces = false) (g : wG) (μ : wMu) (zz : Nat) {Λ σ : sSt} {xv : Option Int64} (hF : fD g Λ xv σ μ) (hO : sOk σ) {x y : Int32} : wMetX l yX2_setFall cX2_setFall 5 (some .int) 7 2 12 112 g [.ref (Λ 0 0), .int x, .int y] μ zz (fun r μ' => ∃ i b, i < σ 3 0 ∧ b ≤ 9 ∧ x = nI i ∧ y = nI b ∧ r = some (.int (nI (σ 6 i))) ∧ fD g Λ xv (up2 σ 6 i b) μ') (fun E => (E = xIOB ∧ ¬ isX x (σ 3 0)) ∨ (E = xIAE ∧ isX x (σ 3 0) ∧ ¬ isI y 0 9)) := by
  refine wMetX.of (by decide) (Nat.le_of_ble_eq_true rfl) ?_
  intro p e s m below meth c ls hx hb hr hml hown hlocks hin hl hsz hX hxt
  have hl : lv_has ls 5 [(0, .ref (Λ 0 0)), (1, .int x), (2, .int y)] := hl
  obtain ⟨f1, ⟨m1, f2⟩, ⟨m2, f3⟩, f4, f5, f6, f7, ⟨t1, t2, t3, t4, f8⟩, ⟨u1, u2, u3, u4, u5, f9⟩, f10, f11⟩ := id hF
  obtain ⟨o1, o2, o3, o4, o5, o6, o7⟩ := id hO
  refine lv_aload_n hx hb dX2_setFall_0 rfl (lv_at hl 0 rfl) ?_
  refine lv_iload_n hx hb dX2_setFall_1 rfl (lv_at hl 1 rfl) ?_
  refine w_callX (w_runVX (n := 1) (As := [.int x]) (rest := []) hx hb hml hown hX (c_X2_wandAt l hlt g μ s.heap.size hF hO) kw337 kw1 kw334 kw336 kp13 wn_X2_wandAt rfl f1 rfl ⟨Nat.le_of_ble_eq_true rfl, Nat.le_of_ble_eq_true rfl⟩ hl.1 rfl (Nat.le_of_ble_eq_true rfl) dX2_setFall_2 ⟨Nat.le_of_ble_eq_true rfl, Nat.le_of_ble_eq_true rfl⟩) hX (fun E ce q9 H locs hE hX hce hcv hcl => ?_) (fun r_3 μ_1 H locs q_2 hX hz => ?_)
  · skip
    exact w_out hxt hlocks hX (Or.inl hE) hce hcv hcl ⟨Nat.le_of_ble_eq_true rfl, Nat.le_of_ble_eq_true rfl⟩
  obtain ⟨i, hi, hxe, rfl, e_4⟩ := q_2
  rw [e_4] at hX
  refine W.eq (g2 := F0 m 5 ls [.ref (Λ 7 i)]) rfl ?_
  have kw_5 := f6 i hi
  have kw_5b := o3 i hi
  refine lv_astore_n (lv' := [(3, .ref (Λ 7 i)), (0, .ref (Λ 0 0)), (1, .int x), (2, .int y)]) hx hb dX2_setFall_5 rfl hl (by decide) rfl (fun ls hl => ?_)
  refine lv_iload_n hx hb dX2_setFall_6 rfl (lv_at hl 3 rfl) ?_
  refine lv_iconst (v := nI 0) hx hb dX2_setFall_7 (by decide) ?_
  refine lv_bipush (v := nI 9) hx hb dX2_setFall_8 (by decide) ?_
  refine w_callX (w_runSX (n := 3) (As := [.int y, .int (nI 0), .int (nI 9)]) (rest := []) hx hb hml hown hX (c_X2_needWithin l hlt g μ H.size (by omega) (by omega)) kw229 kw1 kw227 kw228 wn_X2_needWithin rfl ⟨Nat.le_of_ble_eq_true rfl, Nat.le_of_ble_eq_true rfl⟩ hl.1 rfl (Nat.le_of_ble_eq_true rfl) dX2_setFall_10 ⟨Nat.le_of_ble_eq_true rfl, Nat.le_of_ble_eq_true rfl⟩) hX (fun E ce q9 H locs hE hX hce hcv hcl => ?_) (fun r_8 μ_6 H locs q_7 hX hz => ?_)
  · skip
    exact w_out hxt hlocks hX (Or.inr ⟨hE.1, (by rw [hxe]; exact (isX_nI (by omega)).mpr hi), hE.2⟩) hce hcv hcl ⟨Nat.le_of_ble_eq_true rfl, Nat.le_of_ble_eq_true rfl⟩
  obtain ⟨b, hb1, hb2, hye, rfl, e_9⟩ := q_7
  rw [e_9] at hX
  refine W.eq (g2 := F0 m 13 ls []) rfl ?_
  rw [hye] at hl
  refine lv_aload_n hx hb dX2_setFall_13 rfl (lv_at hl 0 rfl) ?_
  refine gnX1_2 hx hb hX hown kw_5 kw64 dX2_setFall_14 ?_
  refine lv_istore (lv' := [(4, .int (nI (σ 6 i))), (3, .ref (Λ 7 i)), (0, .ref (Λ 0 0)), (1, .int x), (2, .int (nI b))]) hx hb dX2_setFall_17 hl (by decide) rfl (fun ls hl => ?_)
  refine lv_aload_n hx hb dX2_setFall_19 rfl (lv_at hl 1 rfl) ?_
  refine lv_iload_n hx hb dX2_setFall_20 rfl (lv_at hl 4 rfl) ?_
  refine pnX1_2 hx hb hX hown kw_5 kw64 dX2_setFall_21 (fun H locs hX => ?_)
  obtain ⟨μ_10, e_11⟩ : ∃ z, z = va_up μ (Λ 7 i) (some (.inr (2, [.int (nI i), .int (nI (σ 5 i)), .int (nI b), .int (nI (σ 7 i))]))) := ⟨_, rfl⟩
  rw [← e_11] at hX
  have k_12 : μ_10 (Λ 7 i) = some (.inr (2, [.int (nI i), .int (nI (σ 5 i)), .int (nI b), .int (nI (σ 7 i))])) := by rw [e_11]; exact va_up_self _ _ _
  refine lv_iload hx hb dX2_setFall_24 (lv_at hl 0 rfl) ?_
  exact vx_ret (w_iret hx hb hr hlocks hX ⟨i, b, hi, hb2, hxe, hye, rfl, hF.w1 hi (by rw [k_12]; simp [cW, up2]) (fun q n => by rw [e_11, va_up_ne _ _ n]) (fun f k h => if_neg (fun z => h ⟨by omega, by omega, z.2⟩))⟩ ⟨Nat.le_of_ble_eq_true rfl, Nat.le_of_ble_eq_true rfl⟩ dX2_setFall_26)

set_option maxHeartbeats 4000000 in
set_option maxRecDepth 100000 in
/-- forgiven -/
theorem c_X2_forgive (l : Launch) (hlt : l.stackTraces = false) (g : wG) (μ : wMu) (zz : Nat) {Λ σ : sSt} {xv : Option Int64} (hF : fD g Λ xv σ μ) (hO : sOk σ) {x : Int32} : wMetX l yX2_forgive cX2_forgive 2 (some .int) 7 1 6 111 g [.ref (Λ 0 0), .int x] μ zz (fun r μ' => ∃ j, j < σ 4 0 ∧ x = nI j ∧ r = some (.int (nI (σ 11 j))) ∧ fD g Λ xv (nFor σ j) μ') (fun E => E = xIOB ∧ ¬ isX x (σ 4 0)) := by
  refine wMetX.of (by decide) (Nat.le_of_ble_eq_true rfl) ?_
  intro p e s m below meth c ls hx hb hr hml hown hlocks hin hl hsz hX hxt
  have hl : lv_has ls 2 [(0, .ref (Λ 0 0)), (1, .int x)] := hl
  obtain ⟨f1, ⟨m1, f2⟩, ⟨m2, f3⟩, f4, f5, f6, f7, ⟨t1, t2, t3, t4, f8⟩, ⟨u1, u2, u3, u4, u5, f9⟩, f10, f11⟩ := id hF
  obtain ⟨o1, o2, o3, o4, o5, o6, o7⟩ := id hO
  refine lv_aload_n hx hb dX2_forgive_0 rfl (lv_at hl 0 rfl) ?_
  refine lv_iload_n hx hb dX2_forgive_1 rfl (lv_at hl 1 rfl) ?_
  refine w_callX (w_runVX (n := 1) (As := [.int x]) (rest := []) hx hb hml hown hX (c_X2_childAt l hlt g μ s.heap.size hF hO) kw137 kw1 kw134 kw136 kp0 wn_X2_childAt rfl f1 rfl ⟨Nat.le_of_ble_eq_true rfl, Nat.le_of_ble_eq_true rfl⟩ hl.1 rfl (Nat.le_of_ble_eq_true rfl) dX2_forgive_2 ⟨Nat.le_of_ble_eq_true rfl, Nat.le_of_ble_eq_true rfl⟩) hX (fun E ce q9 H locs hE hX hce hcv hcl => ?_) (fun r_3 μ_1 H locs q_2 hX hz => ?_)
  · skip
    exact w_out hxt hlocks hX (hE) hce hcv hcl ⟨Nat.le_of_ble_eq_true rfl, Nat.le_of_ble_eq_true rfl⟩
  obtain ⟨j, hj, hxe, rfl, e_4⟩ := q_2
  rw [e_4] at hX
  refine W.eq (g2 := F0 m 5 ls [.ref (Λ 8 j)]) rfl ?_
  have kc_5 := f7 j hj
  have kc_5b := o4 j hj
  have kw_6 := f6 (σ 8 j) kc_5b.1
  have kw_6b := o3 (σ 8 j) kc_5b.1
  refine w_call (w_runVN (n := 0) (As := []) (rest := []) hx hb hml hown hX (c_X0_letOff l g μ H.size kc_5) kw617 kw6 kw614 kw616 kp25 wn_X0_letOff rfl kc_5 rfl ⟨Nat.le_of_ble_eq_true rfl, Nat.le_of_ble_eq_true rfl⟩ hl.1 rfl (Nat.le_of_ble_eq_true rfl) dX2_forgive_5 ⟨Nat.le_of_ble_eq_true rfl, Nat.le_of_ble_eq_true rfl⟩) hX (fun r_9 μ_7 H locs q_8 hX hz => ?_)
  obtain ⟨rfl, k1, k2⟩ := q_8
  refine W.eq (g2 := F0 m 8 ls [.int (nI (σ 11 j))]) rfl ?_
  exact vx_ret (w_iret hx hb hr hlocks hX ⟨j, hj, hxe, rfl, hF.c1 hj (by rw [k1]; simp [cC, nFor, up2]) k2 (fun f k h => by simp only [nFor, up2]; rw [if_neg (fun z => h ⟨by omega, by omega, z.2⟩), if_neg (fun z => h ⟨by omega, by omega, z.2⟩)])⟩ ⟨Nat.le_of_ble_eq_true rfl, Nat.le_of_ble_eq_true rfl⟩ dX2_forgive_8)

def nWi0 (σ : sSt) (j sz : Nat) : sSt :=
  up2 (up2 (up2 (up2 (up2 σ 7 (σ 8 j) (fwD sz (σ 7 (σ 8 j)) (σ 10 j) (σ 11 j))) 10 j (fwB sz (σ 7 (σ 8 j)) (σ 10 j) (σ 11 j))) 11 j (fwH sz (σ 7 (σ 8 j)) (σ 10 j) (σ 11 j) (σ 12 j) (σ 13 j))) 12 j (fwM sz (σ 7 (σ 8 j)) (σ 10 j) (σ 11 j) (σ 12 j))) 13 j (fwN sz (σ 7 (σ 8 j)) (σ 10 j) (σ 11 j) (σ 12 j) (σ 13 j))
theorem nWi0_o (σ : sSt) (j sz : Nat) {f k : Nat} (h1 : ¬ (8 ≤ f ∧ f ≤ 13 ∧ k = j)) (h2 : ¬ (5 ≤ f ∧ f ≤ 7 ∧ k = σ 8 j)) : nWi0 σ j sz f k = σ f k := by
  simp only [nWi0, up2]
  rw [if_neg (by omega), if_neg (by omega), if_neg (by omega), if_neg (by omega), if_neg (by omega)]
theorem nWis_y {σ : sSt} {j sz : Nat} (h : fwG sz (σ 7 (σ 8 j)) (σ 10 j) (σ 11 j) ≠ 0) : nWis σ j sz = up2 (nWi0 σ j sz) 1 0 (σ 1 0 + 1) := by
  unfold fwG at h
  have h2 : okW σ j sz := Classical.byContradiction fun z => h (if_neg z)
  simp only [nWis, if_pos h2, nWi0]
theorem nWis_n {σ : sSt} {j sz : Nat} (h : fwG sz (σ 7 (σ 8 j)) (σ 10 j) (σ 11 j) = 0) : nWis σ j sz = up2 (nWi0 σ j sz) 2 0 (σ 2 0 + 1) := by
  unfold fwG at h
  have h2 : ¬ okW σ j sz := fun z => by rw [if_pos z] at h; cases h
  simp only [nWis, if_neg h2, nWi0]
theorem zret_fwG (sz du bu he : Nat) : narrow .boolean (.int (nI (fwG sz du bu he))) = .int (nI (fwG sz du bu he)) := by
  unfold fwG
  split <;> rfl

set_option maxHeartbeats 4000000 in
set_option maxRecDepth 100000 in
/-- a wish -/
theorem c_X2_wish (l : Launch) (hlt : l.stackTraces = false) (g : wG) (μ : wMu) (zz : Nat) {Λ σ : sSt} {xv : Option Int64} (hF : fD g Λ xv σ μ) (hO : sOk σ) {x y : Int32} : wMetX l yX2_wish cX2_wish 5 (some .boolean) 8 2 12 132 g [.ref (Λ 0 0), .int x, .int y] μ zz (fun r μ' => ∃ j sz, j < σ 4 0 ∧ 1 ≤ sz ∧ sz ≤ 20 ∧ x = nI j ∧ y = nI sz ∧ r = some (.int (nI (fwG sz (σ 7 (σ 8 j)) (σ 10 j) (σ 11 j)))) ∧ fD g Λ xv (nWis σ j sz) μ') (fun E => (E = xIOB ∧ ¬ isX x (σ 4 0)) ∨ (E = xIAE ∧ isX x (σ 4 0) ∧ ¬ isI y 1 20)) := by
  refine wMetX.of (by decide) (Nat.le_of_ble_eq_true rfl) ?_
  intro p e s m below meth c ls hx hb hr hml hown hlocks hin hl hsz hX hxt
  have hl : lv_has ls 5 [(0, .ref (Λ 0 0)), (1, .int x), (2, .int y)] := hl
  obtain ⟨f1, ⟨m1, f2⟩, ⟨m2, f3⟩, f4, f5, f6, f7, ⟨t1, t2, t3, t4, f8⟩, ⟨u1, u2, u3, u4, u5, f9⟩, f10, f11⟩ := id hF
  obtain ⟨o1, o2, o3, o4, o5, o6, o7⟩ := id hO
  refine lv_aload_n hx hb dX2_wish_0 rfl (lv_at hl 0 rfl) ?_
  refine lv_iload_n hx hb dX2_wish_1 rfl (lv_at hl 1 rfl) ?_
  refine w_callX (w_runVX (n := 1) (As := [.int x]) (rest := []) hx hb hml hown hX (c_X2_childAt l hlt g μ s.heap.size hF hO) kw137 kw1 kw134 kw136 kp0 wn_X2_childAt rfl f1 rfl ⟨Nat.le_of_ble_eq_true rfl, Nat.le_of_ble_eq_true rfl⟩ hl.1 rfl (Nat.le_of_ble_eq_true rfl) dX2_wish_2 ⟨Nat.le_of_ble_eq_true rfl, Nat.le_of_ble_eq_true rfl⟩) hX (fun E ce q9 H locs hE hX hce hcv hcl => ?_) (fun r_3 μ_1 H locs q_2 hX hz => ?_)
  · skip
    exact w_out hxt hlocks hX (Or.inl hE) hce hcv hcl ⟨Nat.le_of_ble_eq_true rfl, Nat.le_of_ble_eq_true rfl⟩
  obtain ⟨j, hj, hxe, rfl, e_4⟩ := q_2
  rw [e_4] at hX
  refine W.eq (g2 := F0 m 5 ls [.ref (Λ 8 j)]) rfl ?_
  have kc_5 := f7 j hj
  have kc_5b := o4 j hj
  have kw_6 := f6 (σ 8 j) kc_5b.1
  have kw_6b := o3 (σ 8 j) kc_5b.1
  refine lv_astore_n (lv' := [(3, .ref (Λ 8 j)), (0, .ref (Λ 0 0)), (1, .int x), (2, .int y)]) hx hb dX2_wish_5 rfl hl (by decide) rfl (fun ls hl => ?_)
  refine lv_iload_n hx hb dX2_wish_6 rfl (lv_at hl 3 rfl) ?_
  refine w_callX (w_runSX (n := 1) (As := [.int y]) (rest := []) hx hb hml hown hX (c_X2_needSize l hlt g μ H.size) kw226 kw1 kw224 kw225 wn_X2_needSize rfl ⟨Nat.le_of_ble_eq_true rfl, Nat.le_of_ble_eq_true rfl⟩ hl.1 rfl (Nat.le_of_ble_eq_true rfl) dX2_wish_7 ⟨Nat.le_of_ble_eq_true rfl, Nat.le_of_ble_eq_true rfl⟩) hX (fun E ce q9 H locs hE hX hce hcv hcl => ?_) (fun r_9 μ_7 H locs q_8 hX hz => ?_)
  · skip
    exact w_out hxt hlocks hX (Or.inr ⟨hE.1, (by rw [hxe]; exact (isX_nI (by omega)).mpr hj), hE.2⟩) hce hcv hcl ⟨Nat.le_of_ble_eq_true rfl, Nat.le_of_ble_eq_true rfl⟩
  obtain ⟨sz, h1, h2, hse, rfl, e_10⟩ := q_8
  rw [e_10] at hX
  refine W.eq (g2 := F0 m 10 ls []) rfl ?_
  rw [hse] at hl
  refine lv_aload_n hx hb dX2_wish_10 rfl (lv_at hl 0 rfl) ?_
  refine lv_iload_n hx hb dX2_wish_11 rfl (lv_at hl 3 rfl) ?_
  refine w_call (w_runVN (n := 1) (As := [.int (nI sz)]) (rest := []) hx hb hml hown hX (c_X0_makeWish l g μ H.size kc_5 kw_6 (kd_ne kc_5 kw_6 rfl) (by omega) (by omega) (by omega) (by omega) (by omega) h1 h2) kw249 kw6 kw246 kw248 kp2 wn_X0_makeWish rfl kc_5 rfl ⟨Nat.le_of_ble_eq_true rfl, Nat.le_of_ble_eq_true rfl⟩ hl.1 rfl (Nat.le_of_ble_eq_true rfl) dX2_wish_12 ⟨Nat.le_of_ble_eq_true rfl, Nat.le_of_ble_eq_true rfl⟩) hX (fun r_13 μ_11 H locs q_12 hX hz => ?_)
  obtain ⟨rfl, k1, k2, k3⟩ := q_12
  have hF2 : fD g Λ xv (nWi0 σ j sz) μ_11 := hF.cw1 hj kc_5b.1 (by rw [k1]; simp [cC, nWi0, up2]) (by rw [k2]; simp [cW, nWi0, up2]) k3 (fun f k a b => nWi0_o σ j sz a b)
  have kx := (k3 _ (kd_ne f1 kc_5 rfl) (kd_ne f1 kw_6 rfl)).trans f1
  have hgb := fwG_le sz (σ 7 (σ 8 j)) (σ 10 j) (σ 11 j)
  refine W.eq (g2 := F0 m 15 ls [.int (nI (fwG sz (σ 7 (σ 8 j)) (σ 10 j) (σ 11 j)))]) rfl ?_
  refine lv_istore (lv' := [(4, .int (nI (fwG sz (σ 7 (σ 8 j)) (σ 10 j) (σ 11 j)))), (3, .ref (Λ 8 j)), (0, .ref (Λ 0 0)), (1, .int x), (2, .int (nI sz))]) hx hb dX2_wish_15 hl (by decide) rfl (fun ls hl => ?_)
  refine lv_iload hx hb dX2_wish_17 (lv_at hl 0 rfl) ?_
  refine n_if_eq (tgt := 35) hx hb (by omega) dX2_wish_19 (by decide) (fun c_14 => ?_) (fun c_14 => ?_)
  · skip
    refine lv_aload_n hx hb dX2_wish_35 rfl (lv_at hl 2 rfl) ?_
    refine lv_dup hx hb dX2_wish_36 rfl ?_
    refine gX2_6 hx hb hX hown kx kw114 dX2_wish_37 ?_
    refine lv_iconst (v := nI 1) hx hb dX2_wish_40 (by decide) ?_
    refine n_iadd hx hb dX2_wish_41 (nI_add _ _) ?_
    refine pX2_6 hx hb hX hown kx kw114 dX2_wish_42 (fun H locs hX => ?_)
    obtain ⟨μ_15, e_16⟩ : ∃ z, z = va_up μ_11 (Λ 0 0) (some (.inr (3, [.ref (Λ 1 0), .ref (Λ 2 0), .ref (Λ 5 0), .ref (Λ 6 0), .int (nI (σ 0 0)), .int (nI (σ 1 0)), .int (nI ((σ 2 0) + 1))]))) := ⟨_, rfl⟩
    rw [← e_16] at hX
    have k_17 : μ_15 (Λ 0 0) = some (.inr (3, [.ref (Λ 1 0), .ref (Λ 2 0), .ref (Λ 5 0), .ref (Λ 6 0), .int (nI (σ 0 0)), .int (nI (σ 1 0)), .int (nI ((σ 2 0) + 1))])) := by rw [e_16]; exact va_up_self _ _ _
    refine lv_iload hx hb dX2_wish_45 (lv_at hl 0 rfl) ?_
    exact vx_ret (w_zret hx hb hr hlocks hX (zret_fwG _ _ _ _) ⟨j, sz, hj, h1, h2, hxe, hse, rfl, by rw [nWis_n (by omega)]; exact hF2.x1 (by rw [k_17]; simp [cF, nWi0, up2]) (fun q n => by rw [e_16, va_up_ne _ _ n]) (fun f k h => if_neg (fun z => h ⟨by omega, z.2⟩))⟩ ⟨Nat.le_of_ble_eq_true rfl, Nat.le_of_ble_eq_true rfl⟩ dX2_wish_47)
  · skip
    refine lv_aload_n hx hb dX2_wish_22 rfl (lv_at hl 2 rfl) ?_
    refine lv_dup hx hb dX2_wish_23 rfl ?_
    refine gX2_5 hx hb hX hown kx kw113 dX2_wish_24 ?_
    refine lv_iconst (v := nI 1) hx hb dX2_wish_27 (by decide) ?_
    refine n_iadd hx hb dX2_wish_28 (nI_add _ _) ?_
    refine pX2_5 hx hb hX hown kx kw113 dX2_wish_29 (fun H locs hX => ?_)
    obtain ⟨μ_18, e_19⟩ : ∃ z, z = va_up μ_11 (Λ 0 0) (some (.inr (3, [.ref (Λ 1 0), .ref (Λ 2 0), .ref (Λ 5 0), .ref (Λ 6 0), .int (nI (σ 0 0)), .int (nI ((σ 1 0) + 1)), .int (nI (σ 2 0))]))) := ⟨_, rfl⟩
    rw [← e_19] at hX
    have k_20 : μ_18 (Λ 0 0) = some (.inr (3, [.ref (Λ 1 0), .ref (Λ 2 0), .ref (Λ 5 0), .ref (Λ 6 0), .int (nI (σ 0 0)), .int (nI ((σ 1 0) + 1)), .int (nI (σ 2 0))])) := by rw [e_19]; exact va_up_self _ _ _
    refine lv_goto (tgt := 45) hx hb dX2_wish_32 (by decide) ?_
    refine lv_iload hx hb dX2_wish_45 (lv_at hl 0 rfl) ?_
    exact vx_ret (w_zret hx hb hr hlocks hX (zret_fwG _ _ _ _) ⟨j, sz, hj, h1, h2, hxe, hse, rfl, by rw [nWis_y (by omega)]; exact hF2.x1 (by rw [k_20]; simp [cF, nWi0, up2]) (fun q n => by rw [e_19, va_up_ne _ _ n]) (fun f k h => if_neg (fun z => h ⟨by omega, z.2⟩))⟩ ⟨Nat.le_of_ble_eq_true rfl, Nat.le_of_ble_eq_true rfl⟩ dX2_wish_47)

set_option maxHeartbeats 4000000 in
set_option maxRecDepth 100000 in
/-- an hour -/
theorem c_X2_passOneHour (l : Launch) (g : wG) (μ : wMu) (zz : Nat) {Λ σ : sSt} {xv : Option Int64} (hF : fD g Λ xv σ μ) (hO : sOk σ)  : wMet l yX2_passOneHour cX2_passOneHour 3 (some .int) 3 0 0 64 g [.ref (Λ 0 0)] μ zz (fun r μ' => r = some (.int (nI (sFal σ 1 (σ 3 0)))) ∧ fD g Λ xv (nPas σ 1) μ') := by
  refine wMet.of (by decide) (Nat.le_of_ble_eq_true rfl) ?_
  intro p e s m below meth c ls hx hb hr hml hown hlocks hin hl hsz hX
  have hl : lv_has ls 3 [(0, .ref (Λ 0 0))] := hl
  obtain ⟨f1, ⟨m1, f2⟩, ⟨m2, f3⟩, f4, f5, f6, f7, ⟨t1, t2, t3, t4, f8⟩, ⟨u1, u2, u3, u4, u5, f9⟩, f10, f11⟩ := id hF
  obtain ⟨o1, o2, o3, o4, o5, o6, o7⟩ := id hO
  refine lv_iconst (v := nI 0) hx hb dX2_passOneHour_0 (by decide) ?_
  refine lv_istore_n (lv' := [(1, .int (nI 0)), (0, .ref (Λ 0 0))]) hx hb dX2_passOneHour_1 rfl hl (by decide) rfl (fun ls hl => ?_)
  refine lv_iconst (v := nI 0) hx hb dX2_passOneHour_2 (by decide) ?_
  refine lv_istore_n (lv' := [(2, .int (nI 0)), (1, .int (nI 0)), (0, .ref (Λ 0 0))]) hx hb dX2_passOneHour_3 rfl hl (by decide) rfl (fun ls hl => ?_)
  have hloop : ∀ (n : Nat) (i : Nat) (τ : sSt) (ν : wMu) (H : Heap) (locs : List Loc) (ls : Array Slot), σ 3 0 < i + n → i ≤ σ 3 0 → τ = sP σ i 0 0 → fD g Λ xv τ ν → wX g (wA μ zz) s H locs ν → lv_has ls 3 [(2, .int (nI i)), (1, .int (nI (sFal σ 1 i))), (0, .ref (Λ 0 0))] → W p l e ({ frames := 3, cells := 0, slots := 0, locals := 64 } : Room) s m ([.ref (Λ 0 0)] : List Value).toArray below meth c H locs 0 0 (MQ below (wQc g μ zz (fun r μ' => r = some (.int (nI (sFal σ 1 (σ 3 0)))) ∧ fD g Λ xv (nPas σ 1) μ')) ([.ref (Λ 0 0)] : List Value).toArray s 0 0 (wA μ zz)) (F0 m 4 ls []) := by
    intro n
    induction n with
    | zero => intro i τ ν H locs ls hn hi hτ hF hX hl; exact absurd hn (by omega)
    | succ n ih =>
      intro i τ ν H locs ls hn hi hτ hF hX hl
      obtain ⟨f1, ⟨m1, f2⟩, ⟨m2, f3⟩, f4, f5, f6, f7, ⟨t1, t2, t3, t4, f8⟩, ⟨u1, u2, u3, u4, u5, f9⟩, f10, f11⟩ := id hF
      have t3_ : τ 3 0 = σ 3 0 := by rw [hτ]; exact sP_o σ (by omega)
      have t4_ : τ 4 0 = σ 4 0 := by rw [hτ]; exact sP_o σ (by omega)
      refine lv_iload_n hx hb dX2_passOneHour_4 rfl (lv_at hl 0 rfl) ?_
      refine lv_aload_n hx hb dX2_passOneHour_5 rfl (lv_at hl 2 rfl) ?_
      refine gX2_0 hx hb hX hown f1 kw108 dX2_passOneHour_6 ?_
      refine w_call (w_runV (n := 0) (As := []) (rest := [.int (nI i)]) hx hb hml hown hX (c_Jx4a65c_size_8abf5 l g ν H.size f2) kw141 kw4 kw138 kw139 kw140 wn_Jx4a65c_size_8abf5 rfl f2 rfl ⟨Nat.le_of_ble_eq_true rfl, Nat.le_of_ble_eq_true rfl⟩ hl.1 rfl (Nat.le_of_ble_eq_true rfl) dX2_passOneHour_9 ⟨Nat.le_of_ble_eq_true rfl, Nat.le_of_ble_eq_true rfl⟩) hX (fun r_3 μ_1 H locs q_2 hX hz => ?_)
      obtain ⟨rfl, e_4⟩ := q_2
      rw [e_4] at hX
      refine W.eq (g2 := F0 m 12 ls [.int (nI (τ 3 0)), .int (nI i)]) rfl ?_
      refine n_ge (tgt := 38) hx hb (by omega) (by omega) dX2_passOneHour_12 (by decide) (fun c_5 => ?_) (fun c_5 => ?_)
      · skip
        refine lv_aload_n hx hb dX2_passOneHour_38 rfl (lv_at hl 2 rfl) ?_
        refine lv_dup hx hb dX2_passOneHour_39 rfl ?_
        refine gX2_4 hx hb hX hown f1 kw112 dX2_passOneHour_40 ?_
        refine lv_iconst (v := nI 1) hx hb dX2_passOneHour_43 (by decide) ?_
        refine n_iadd hx hb dX2_passOneHour_44 (nI_add _ _) ?_
        refine pX2_4 hx hb hX hown f1 kw112 dX2_passOneHour_45 (fun H locs hX => ?_)
        obtain ⟨μ_6, e_7⟩ : ∃ z, z = va_up ν (Λ 0 0) (some (.inr (3, [.ref (Λ 1 0), .ref (Λ 2 0), .ref (Λ 5 0), .ref (Λ 6 0), .int (nI ((τ 0 0) + 1)), .int (nI (τ 1 0)), .int (nI (τ 2 0))]))) := ⟨_, rfl⟩
        rw [← e_7] at hX
        have k_8 : μ_6 (Λ 0 0) = some (.inr (3, [.ref (Λ 1 0), .ref (Λ 2 0), .ref (Λ 5 0), .ref (Λ 6 0), .int (nI ((τ 0 0) + 1)), .int (nI (τ 1 0)), .int (nI (τ 2 0))])) := by rw [e_7]; exact va_up_self _ _ _
        refine lv_iconst (v := nI 0) hx hb dX2_passOneHour_48 (by decide) ?_
        refine lv_istore_n (lv' := [(2, .int (nI 0)), (1, .int (nI (sFal σ 1 i))), (0, .ref (Λ 0 0))]) hx hb dX2_passOneHour_49 rfl hl (by decide) rfl (fun ls hl => ?_)
        obtain rfl : i = σ 3 0 := by omega
        have hF2 : fD g Λ xv (sP σ (σ 3 0) 1 0) μ_6 := by
          refine hF.x1 ?_ (fun q n => by rw [e_7, va_up_ne _ _ n]) (fun f k h => by rw [hτ]; exact sP_b σ (by omega))
          rw [k_8, hτ]; simp only [cF, sP_00, Nat.add_zero]; rfl
        have hloop2 : ∀ (n : Nat) (k : Nat) (τ : sSt) (ν : wMu) (H : Heap) (locs : List Loc) (ls : Array Slot), σ 4 0 < k + n → k ≤ σ 4 0 → τ = sP σ (σ 3 0) 1 k → fD g Λ xv τ ν → wX g (wA μ zz) s H locs ν → lv_has ls 3 [(2, .int (nI k)), (1, .int (nI (sFal σ 1 (σ 3 0)))), (0, .ref (Λ 0 0))] → W p l e ({ frames := 3, cells := 0, slots := 0, locals := 64 } : Room) s m ([.ref (Λ 0 0)] : List Value).toArray below meth c H locs 0 0 (MQ below (wQc g μ zz (fun r μ' => r = some (.int (nI (sFal σ 1 (σ 3 0)))) ∧ fD g Λ xv (nPas σ 1) μ')) ([.ref (Λ 0 0)] : List Value).toArray s 0 0 (wA μ zz)) (F0 m 50 ls []) := by
          intro n
          induction n with
          | zero => intro k τ ν H locs ls hn hk hτ hF hX hl; exact absurd hn (by omega)
          | succ n ih =>
            intro k τ ν H locs ls hn hk hτ hF hX hl
            obtain ⟨f1, ⟨m1, f2⟩, ⟨m2, f3⟩, f4, f5, f6, f7, ⟨t1, t2, t3, t4, f8⟩, ⟨u1, u2, u3, u4, u5, f9⟩, f10, f11⟩ := id hF
            have t3_ : τ 3 0 = σ 3 0 := by rw [hτ]; exact sP_o σ (by omega)
            have t4_ : τ 4 0 = σ 4 0 := by rw [hτ]; exact sP_o σ (by omega)
            refine lv_iload_n hx hb dX2_passOneHour_50 rfl (lv_at hl 0 rfl) ?_
            refine lv_aload_n hx hb dX2_passOneHour_51 rfl (lv_at hl 2 rfl) ?_
            refine gX2_1 hx hb hX hown f1 kw109 dX2_passOneHour_52 ?_
            refine w_call (w_runV (n := 0) (As := []) (rest := [.int (nI k)]) hx hb hml hown hX (c_Jx4a65c_size_8abf5 l g ν H.size f3) kw141 kw4 kw138 kw139 kw140 wn_Jx4a65c_size_8abf5 rfl f3 rfl ⟨Nat.le_of_ble_eq_true rfl, Nat.le_of_ble_eq_true rfl⟩ hl.1 rfl (Nat.le_of_ble_eq_true rfl) dX2_passOneHour_55 ⟨Nat.le_of_ble_eq_true rfl, Nat.le_of_ble_eq_true rfl⟩) hX (fun r_11 μ_9 H locs q_10 hX hz => ?_)
            obtain ⟨rfl, e_12⟩ := q_10
            rw [e_12] at hX
            refine W.eq (g2 := F0 m 58 ls [.int (nI (τ 4 0)), .int (nI k)]) rfl ?_
            refine n_ge (tgt := 85) hx hb (by omega) (by omega) dX2_passOneHour_58 (by decide) (fun c_13 => ?_) (fun c_13 => ?_)
            · skip
              refine lv_iload_n hx hb dX2_passOneHour_85 rfl (lv_at hl 1 rfl) ?_
              obtain rfl : k = σ 4 0 := by omega
              rw [hτ, sP_end] at hF
              exact w_iret hx hb hr hlocks hX ⟨rfl, hF⟩ ⟨Nat.le_of_ble_eq_true rfl, Nat.le_of_ble_eq_true rfl⟩ dX2_passOneHour_86
            · skip
              refine lv_aload_n hx hb dX2_passOneHour_61 rfl (lv_at hl 2 rfl) ?_
              refine gX2_1 hx hb hX hown f1 kw109 dX2_passOneHour_62 ?_
              refine lv_iload_n hx hb dX2_passOneHour_65 rfl (lv_at hl 0 rfl) ?_
              obtain ⟨fa, fa1, fa2⟩ := f5.pos (by omega)
              refine w_call (w_runV (n := 1) (As := [.int (nI k)]) (rest := []) hx hb hml hown hX (c_Jx4a65c_get_915e3 l g ν H.size f3 fa1 (by omega) (by omega) (fa2 k (by omega))) kw213 kw4 kw210 kw211 kw212 wn_Jx4a65c_get_915e3 rfl f3 rfl ⟨Nat.le_of_ble_eq_true rfl, Nat.le_of_ble_eq_true rfl⟩ hl.1 rfl (Nat.le_of_ble_eq_true rfl) dX2_passOneHour_66 ⟨Nat.le_of_ble_eq_true rfl, Nat.le_of_ble_eq_true rfl⟩) hX (fun r_16 μ_14 H locs q_15 hX hz => ?_)
              obtain ⟨rfl, e_17⟩ := q_15
              rw [e_17] at hX
              refine W.eq (g2 := F0 m 69 ls [.ref (Λ 8 k)]) rfl ?_
              have hk0 : k < τ 4 0 := by omega
              have hc0 := f7 k hk0
              have hcb := o4 k (by omega)
              have t8_ : τ 8 k = σ 8 k := by rw [hτ]; exact sP_o σ (by omega)
              have t9_ : τ 9 k = σ 9 k := by rw [hτ]; exact sP_o σ (by omega)
              have t12_ : τ 12 k = σ 12 k := by rw [hτ]; exact sP_o σ (by omega)
              have t13_ : τ 13 k = σ 13 k := by rw [hτ]; exact sP_o σ (by omega)
              have t10_ : τ 10 k = σ 10 k := by rw [hτ]; exact sP_10n σ (by omega)
              have t11_ : τ 11 k = σ 11 k := by rw [hτ]; exact sP_11n σ (by omega)
              have t00_ : τ 0 0 = σ 0 0 + 1 := by rw [hτ]; exact sP_00 σ _ _ _
              refine w_cast hx hb hX hown kw77 hc0 rfl dX2_passOneHour_69 ?_
              refine lv_aload_n hx hb dX2_passOneHour_72 rfl (lv_at hl 2 rfl) ?_
              refine gX2_4 hx hb hX hown f1 kw112 dX2_passOneHour_73 ?_
              refine w_call (w_runVN (n := 1) (As := [.int (nI (τ 0 0))]) (rest := []) hx hb hml hown hX (c_X0_liveTo l g ν H.size hc0 (by omega) (by omega) (by omega)) kw296 kw6 kw293 kw295 kp11 wn_X0_liveTo rfl hc0 rfl ⟨Nat.le_of_ble_eq_true rfl, Nat.le_of_ble_eq_true rfl⟩ hl.1 rfl (Nat.le_of_ble_eq_true rfl) dX2_passOneHour_76 ⟨Nat.le_of_ble_eq_true rfl, Nat.le_of_ble_eq_true rfl⟩) hX (fun r_20 μ_18 H locs q_19 hX hz => ?_)
              obtain ⟨rfl, k1, k2⟩ := q_19
              refine W.eq (g2 := F0 m 79 ls []) rfl ?_
              have hF2 : fD g Λ xv (sP σ (σ 3 0) 1 (k + 1)) μ_18 := by
                refine hF.c1 hk0 ?_ k2 (fun f i h => by rw [hτ]; exact sP_c σ (by omega))
                have hbs := bIn_s σ k 0
                rw [bIn_0, Nat.add_zero] at hbs
                rw [k1]; simp only [cC]; rw [show sP σ (σ 3 0) 1 (k + 1) 8 k = τ 8 k by rw [t8_]; exact sP_o σ (by omega), show sP σ (σ 3 0) 1 (k + 1) 9 k = τ 9 k by rw [t9_]; exact sP_o σ (by omega), show sP σ (σ 3 0) 1 (k + 1) 12 k = τ 12 k by rw [t12_]; exact sP_o σ (by omega), show sP σ (σ 3 0) 1 (k + 1) 13 k = τ 13 k by rw [t13_]; exact sP_o σ (by omega), show sP σ (σ 3 0) 1 (k + 1) 10 k = bstH (τ 9 k) (τ 10 k) (τ 0 0) by rw [sP_10 σ (Nat.lt_succ_self k), t9_, t10_, t00_, hbs], show sP σ (σ 3 0) 1 (k + 1) 11 k = τ 11 k - 1 by rw [sP_11 σ (Nat.lt_succ_self k), t11_]]
              refine lv_iinc (v := nI (k + 1)) (lv' := [(2, .int (nI (k + 1))), (1, .int (nI (sFal σ 1 (σ 3 0)))), (0, .ref (Λ 0 0))]) hx hb dX2_passOneHour_79 hl (k := 0) rfl (nI_inc _) (by decide) rfl (fun ls hl => ?_)
              refine lv_goto (tgt := 50) hx hb dX2_passOneHour_82 (by decide) ?_
              refine ih (k + 1) _ _ H locs ls (by omega) (by omega) rfl hF2 hX ?_
              exact lv_sub hl [0, 1, 2] rfl
        exact hloop2 (σ 4 0 + 1) 0 _ μ_6 H _ ls (by omega) (by omega) rfl hF2 hX hl
      · skip
        refine lv_iload_n hx hb dX2_passOneHour_15 rfl (lv_at hl 1 rfl) ?_
        refine lv_aload_n hx hb dX2_passOneHour_16 rfl (lv_at hl 2 rfl) ?_
        refine gX2_0 hx hb hX hown f1 kw108 dX2_passOneHour_17 ?_
        refine lv_iload_n hx hb dX2_passOneHour_20 rfl (lv_at hl 0 rfl) ?_
        obtain ⟨fa, fa1, fa2⟩ := f4.pos (by omega)
        refine w_call (w_runV (n := 1) (As := [.int (nI i)]) (rest := [.int (nI (sFal σ 1 i))]) hx hb hml hown hX (c_Jx4a65c_get_915e3 l g ν H.size f2 fa1 (by omega) (by omega) (fa2 i (by omega))) kw213 kw4 kw210 kw211 kw212 wn_Jx4a65c_get_915e3 rfl f2 rfl ⟨Nat.le_of_ble_eq_true rfl, Nat.le_of_ble_eq_true rfl⟩ hl.1 rfl (Nat.le_of_ble_eq_true rfl) dX2_passOneHour_21 ⟨Nat.le_of_ble_eq_true rfl, Nat.le_of_ble_eq_true rfl⟩) hX (fun r_23 μ_21 H locs q_22 hX hz => ?_)
        obtain ⟨rfl, e_24⟩ := q_22
        rw [e_24] at hX
        refine W.eq (g2 := F0 m 24 ls [.ref (Λ 7 i), .int (nI (sFal σ 1 i))]) rfl ?_
        have hi0 : i < τ 3 0 := by omega
        have hw0 := f6 i hi0
        have hwb := o3 i (by omega)
        have t5_ : τ 5 i = σ 5 i := by rw [hτ]; exact sP_o σ (by omega)
        have t6_ : τ 6 i = σ 6 i := by rw [hτ]; exact sP_o σ (by omega)
        have t7_ : τ 7 i = σ 7 i := by rw [hτ]; exact sP_7n σ (by omega)
        refine w_cast hx hb hX hown kw54 hw0 rfl dX2_passOneHour_24 ?_
        refine w_call (w_runVN (n := 0) (As := []) (rest := [.int (nI (sFal σ 1 i))]) hx hb hml hown hX (c_X1_letFall l g ν H.size hw0 (by omega) (by omega) (by omega)) kw291 kw5 kw288 kw290 kp10 wn_X1_letFall rfl hw0 rfl ⟨Nat.le_of_ble_eq_true rfl, Nat.le_of_ble_eq_true rfl⟩ hl.1 rfl (Nat.le_of_ble_eq_true rfl) dX2_passOneHour_27 ⟨Nat.le_of_ble_eq_true rfl, Nat.le_of_ble_eq_true rfl⟩) hX (fun r_27 μ_25 H locs q_26 hX hz => ?_)
        obtain ⟨rfl, k1, k2⟩ := q_26
        refine W.eq (g2 := F0 m 30 ls [.int (nI (min (τ 6 i) (τ 5 i - τ 7 i))), .int (nI (sFal σ 1 i))]) rfl ?_
        have hF2 : fD g Λ xv (sP σ (i + 1) 0 0) μ_25 := by
          refine hF.w1 hi0 ?_ k2 (fun f k h => by rw [hτ]; exact sP_a σ (by omega))
          rw [k1]; simp only [cW]; rw [show sP σ (i + 1) 0 0 5 i = τ 5 i by rw [t5_]; exact sP_o σ (by omega), show sP σ (i + 1) 0 0 6 i = τ 6 i by rw [t6_]; exact sP_o σ (by omega), show sP σ (i + 1) 0 0 7 i = τ 7 i + min (τ 6 i) (τ 5 i - τ 7 i) by rw [sP_7 σ (Nat.lt_succ_self i), t5_, t6_, t7_]; unfold dIn; omega]
        refine n_iadd hx hb dX2_passOneHour_30 (nI_add _ _) ?_
        refine lv_istore_n (lv' := [(1, .int (nI ((sFal σ 1 i) + (min (τ 6 i) (τ 5 i - τ 7 i))))), (2, .int (nI i)), (0, .ref (Λ 0 0))]) hx hb dX2_passOneHour_31 rfl hl (by decide) rfl (fun ls hl => ?_)
        refine lv_iinc (v := nI (i + 1)) (lv' := [(2, .int (nI (i + 1))), (1, .int (nI ((sFal σ 1 i) + (min (τ 6 i) (τ 5 i - τ 7 i))))), (0, .ref (Λ 0 0))]) hx hb dX2_passOneHour_32 hl (k := 1) rfl (nI_inc _) (by decide) rfl (fun ls hl => ?_)
        refine lv_goto (tgt := 4) hx hb dX2_passOneHour_35 (by decide) ?_
        rw [show sFal σ 1 i + min (τ 6 i) (τ 5 i - τ 7 i) = sFal σ 1 (i + 1) by simp only [sFal]; rw [t5_, t6_, t7_]; unfold dIn; omega] at hl
        refine ih (i + 1) _ _ H locs ls (by omega) (by omega) rfl hF2 hX ?_
        exact lv_sub hl [0, 1, 2] rfl
  exact hloop (σ 3 0 + 1) 0 σ μ s.heap [] ls (by omega) (by omega) (sP_0 σ).symm hF hX hl

set_option maxHeartbeats 4000000 in
set_option maxRecDepth 100000 in
/-- hours go by -/
theorem c_X2_pass (l : Launch) (hlt : l.stackTraces = false) (g : wG) (μ : wMu) (zz : Nat) {Λ σ : sSt} {xv : Option Int64} (hF : fD g Λ xv σ μ) (hO : sOk σ) (h9 : σ 0 0 ≤ 51900) {x : Int32} : wMetX l yX2_pass cX2_pass 4 (some .int) 7 1 6 112 g [.ref (Λ 0 0), .int x] μ zz (fun r μ' => ∃ b, 1 ≤ b ∧ b ≤ 100 ∧ x = nI b ∧ r = some (.int (nI (sFal σ b (σ 3 0)))) ∧ fD g Λ xv (nPas σ b) μ') (fun E => E = xIAE ∧ ¬ isI x 1 100) := by
  refine wMetX.of (by decide) (Nat.le_of_ble_eq_true rfl) ?_
  intro p e s m below meth c ls hx hb hr hml hown hlocks hin hl hsz hX hxt
  have hl : lv_has ls 4 [(0, .ref (Λ 0 0)), (1, .int x)] := hl
  obtain ⟨f1, ⟨m1, f2⟩, ⟨m2, f3⟩, f4, f5, f6, f7, ⟨t1, t2, t3, t4, f8⟩, ⟨u1, u2, u3, u4, u5, f9⟩, f10, f11⟩ := id hF
  obtain ⟨o1, o2, o3, o4, o5, o6, o7⟩ := id hO
  refine lv_iload_n hx hb dX2_pass_0 rfl (lv_at hl 1 rfl) ?_
  refine lv_iconst (v := nI 1) hx hb dX2_pass_1 (by decide) ?_
  refine lv_bipush (v := nI 100) hx hb dX2_pass_2 (by decide) ?_
  refine w_callX (w_runSX (n := 3) (As := [.int x, .int (nI 1), .int (nI 100)]) (rest := []) hx hb hml hown hX (c_X2_needWithin l hlt g μ s.heap.size (by omega) (by omega)) kw229 kw1 kw227 kw228 wn_X2_needWithin rfl ⟨Nat.le_of_ble_eq_true rfl, Nat.le_of_ble_eq_true rfl⟩ hl.1 rfl (Nat.le_of_ble_eq_true rfl) dX2_pass_4 ⟨Nat.le_of_ble_eq_true rfl, Nat.le_of_ble_eq_true rfl⟩) hX (fun E ce q9 H locs hE hX hce hcv hcl => ?_) (fun r_3 μ_1 H locs q_2 hX hz => ?_)
  · skip
    exact w_out hxt hlocks hX (hE) hce hcv hcl ⟨Nat.le_of_ble_eq_true rfl, Nat.le_of_ble_eq_true rfl⟩
  obtain ⟨b, hb1, hb2, hxe, rfl, e_4⟩ := q_2
  rw [e_4] at hX
  refine W.eq (g2 := F0 m 7 ls []) rfl ?_
  rw [hxe] at hl
  refine lv_iconst (v := nI 0) hx hb dX2_pass_7 (by decide) ?_
  refine lv_istore_n (lv' := [(2, .int (nI 0)), (0, .ref (Λ 0 0)), (1, .int (nI b))]) hx hb dX2_pass_8 rfl hl (by decide) rfl (fun ls hl => ?_)
  refine lv_iconst (v := nI 0) hx hb dX2_pass_9 (by decide) ?_
  refine lv_istore_n (lv' := [(3, .int (nI 0)), (2, .int (nI 0)), (0, .ref (Λ 0 0)), (1, .int (nI b))]) hx hb dX2_pass_10 rfl hl (by decide) rfl (fun ls hl => ?_)
  have hloop : ∀ (n : Nat) (i : Nat) (ν : wMu) (H : Heap) (locs : List Loc) (ls : Array Slot), b < i + n → i ≤ b → fD g Λ xv (nPas σ i) ν → wX g (wA μ zz) s H locs ν → lv_has ls 4 [(3, .int (nI i)), (2, .int (nI (sFal σ i (σ 3 0)))), (0, .ref (Λ 0 0)), (1, .int (nI b))] → W p l e ({ frames := 7, cells := 1, slots := 6, locals := 112 } : Room) s m ([.ref (Λ 0 0), .int x] : List Value).toArray below meth c H locs 1 6 (vx_MQ below (wQc g μ zz (fun r μ' => ∃ b, 1 ≤ b ∧ b ≤ 100 ∧ x = nI b ∧ r = some (.int (nI (sFal σ b (σ 3 0)))) ∧ fD g Λ xv (nPas σ b) μ')) (wXc g μ zz (fun E => E = xIAE ∧ ¬ isI x 1 100)) ([.ref (Λ 0 0), .int x] : List Value).toArray s 1 6 (wA μ zz)) (F0 m 11 ls []) := by
    intro n
    induction n with
    | zero => intro i ν H locs ls hn hi hF hX hl; exact absurd hn (by omega)
    | succ n ih =>
      intro i ν H locs ls hn hi hF hX hl
      refine lv_iload_n hx hb dX2_pass_11 rfl (lv_at hl 0 rfl) ?_
      refine lv_iload_n hx hb dX2_pass_12 rfl (lv_at hl 3 rfl) ?_
      refine n_ge (tgt := 29) hx hb (by omega) (by omega) dX2_pass_13 (by decide) (fun c_5 => ?_) (fun c_5 => ?_)
      · skip
        refine lv_iload_n hx hb dX2_pass_29 rfl (lv_at hl 1 rfl) ?_
        obtain rfl : i = b := by omega
        exact vx_ret (w_iret hx hb hr hlocks hX ⟨i, hb1, hb2, hxe, rfl, hF⟩ ⟨Nat.le_of_ble_eq_true rfl, Nat.le_of_ble_eq_true rfl⟩ dX2_pass_30)
      · skip
        refine lv_iload_n hx hb dX2_pass_16 rfl (lv_at hl 1 rfl) ?_
        refine lv_aload_n hx hb dX2_pass_17 rfl (lv_at hl 2 rfl) ?_
        refine w_call (w_runV (n := 0) (As := []) (rest := [.int (nI (sFal σ i (σ 3 0)))]) hx hb hml hown hX (c_X2_passOneHour l g ν H.size hF (hO.pas (by omega))) kw287 kw1 kw284 kw286 kp9 wn_X2_passOneHour rfl hF.1 rfl ⟨Nat.le_of_ble_eq_true rfl, Nat.le_of_ble_eq_true rfl⟩ hl.1 rfl (Nat.le_of_ble_eq_true rfl) dX2_pass_18 ⟨Nat.le_of_ble_eq_true rfl, Nat.le_of_ble_eq_true rfl⟩) hX (fun r_8 μ_6 H locs q_7 hX hz => ?_)
        obtain ⟨rfl, hF2⟩ := q_7
        rw [nPas_s] at hF2
        refine W.eq (g2 := F0 m 21 ls [.int (nI (sFal (nPas σ i) 1 (nPas σ i 3 0))), .int (nI (sFal σ i (σ 3 0)))]) rfl ?_
        refine n_iadd hx hb dX2_pass_21 (nI_add _ _) ?_
        refine lv_istore_n (lv' := [(2, .int (nI ((sFal σ i (σ 3 0)) + (sFal (nPas σ i) 1 (nPas σ i 3 0))))), (3, .int (nI i)), (0, .ref (Λ 0 0)), (1, .int (nI b))]) hx hb dX2_pass_22 rfl hl (by decide) rfl (fun ls hl => ?_)
        refine lv_iinc (v := nI (i + 1)) (lv' := [(3, .int (nI (i + 1))), (2, .int (nI ((sFal σ i (σ 3 0)) + (sFal (nPas σ i) 1 (nPas σ i 3 0))))), (0, .ref (Λ 0 0)), (1, .int (nI b))]) hx hb dX2_pass_23 hl (k := 1) rfl (nI_inc _) (by decide) rfl (fun ls hl => ?_)
        refine lv_goto (tgt := 11) hx hb dX2_pass_26 (by decide) ?_
        rw [show sFal σ i (σ 3 0) + sFal (nPas σ i) 1 (nPas σ i 3 0) = sFal σ (i + 1) (σ 3 0) by rw [nPas_o σ (show _ by omega : ¬ ((3 : Nat) = 0 ∧ 0 = 0) ∧ _)]; exact sFal_s hO i _ (Nat.le_refl _)] at hl
        refine ih (i + 1) _ H locs ls (by omega) (by omega) hF2 hX ?_
        exact lv_sub hl [0, 1, 2, 3] rfl
  exact hloop (b + 1) 0 μ H _ ls (by omega) (by omega) (by rw [nPas_0 hO]; exact hF) hX (by rw [sFal_0 hO (σ 3 0) (Nat.le_refl _)]; exact hl)

