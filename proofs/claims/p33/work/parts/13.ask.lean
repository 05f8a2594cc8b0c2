theorem hat_IAE : ∀ w ∈ vx_atS RX2 255 "java/lang/IllegalArgumentException" ["java/lang/RuntimeException", "java/lang/Exception"], w ∈ GW := by decide +kernel
theorem hgd_IAE : ∀ w ∈ Cond.classLink RX2 251 "java/lang/IllegalArgumentException" :: Cond.initialized "java/lang/IllegalArgumentException" :: vx_atS RX2 255 "java/lang/IllegalArgumentException" ["java/lang/RuntimeException", "java/lang/Exception"], vx_ot w = true := by decide +kernel
theorem hat_ISE : ∀ w ∈ vx_atS RX2 48 "java/lang/IllegalStateException" ["java/lang/RuntimeException", "java/lang/Exception"], w ∈ GW := by decide +kernel
theorem hgd_ISE : ∀ w ∈ Cond.classLink RX2 44 "java/lang/IllegalStateException" :: Cond.initialized "java/lang/IllegalStateException" :: vx_atS RX2 48 "java/lang/IllegalStateException" ["java/lang/RuntimeException", "java/lang/Exception"], vx_ot w = true := by decide +kernel
theorem hat_IOB : ∀ w ∈ vx_atS RX2 248 "java/lang/IndexOutOfBoundsException" ["java/lang/RuntimeException", "java/lang/Exception"], w ∈ GW := by decide +kernel
theorem hgd_IOB : ∀ w ∈ Cond.classLink RX2 244 "java/lang/IndexOutOfBoundsException" :: Cond.initialized "java/lang/IndexOutOfBoundsException" :: vx_atS RX2 248 "java/lang/IndexOutOfBoundsException" ["java/lang/RuntimeException", "java/lang/Exception"], vx_ot w = true := by decide +kernel
theorem arrOK.pos {g : wG} {μ : wMu} {e n : Nat} {p : Nat → Nat} (h : arrOK g μ e n p) (hn : 0 < n) : ∃ f : Nat → Option Nat, μ e = some (cO g f) ∧ ∀ i, i < n → f i = some (p i) := by
  rcases h with h | h
  · omega
  · exact h
set_option maxHeartbeats 4000000 in
set_option maxRecDepth 100000 in
/-- in the range, or thrown -/
theorem c_X2_needWithin (l : Launch) (hlt : l.stackTraces = false) (g : wG) (μ : wMu) (zz : Nat) {x : Int32} {a b : Nat} (h1 : a < 2 ^ 30) (h2 : b < 2 ^ 30) : wMetX l yX2_needWithin cX2_needWithin 3 none 6 1 6 90 g [.int x, .int (nI a), .int (nI b)] μ zz (fun r μ' => ∃ k, a ≤ k ∧ k ≤ b ∧ x = nI k ∧ r = none ∧ μ' = μ) (fun E => E = xIAE ∧ ¬ isI x a b) := by
  refine wMetX.of (by decide) (Nat.le_of_ble_eq_true rfl) ?_
  intro p e s m below meth c ls hx hb hr hml hown hlocks hin hl hsz hX hxt
  have hl : lv_has ls 3 [(0, .int x), (1, .int (nI a)), (2, .int (nI b))] := hl
  refine lv_iload_n hx hb dX2_needWithin_0 rfl (lv_at hl 0 rfl) ?_
  refine lv_iload_n hx hb dX2_needWithin_1 rfl (lv_at hl 1 rfl) ?_
  refine lv_icmp_lt (tgt := 10) hx hb dX2_needWithin_2 (by decide) (fun c_1 => ?_) (fun c_1 => ?_)
  · skip
    rw [lt_nI (by omega)] at c_1
    exact w_throw hx hb hlt hown (by decide +kernel) kw230 kw11 hX.1.2.2.1.1 hat_IAE hgd_IAE hX (hl.1.trans hml.symm) dX2_needWithin_10 dX2_needWithin_13 dX2_needWithin_14 dX2_needWithin_16 dX2_needWithin_19 hxt (by decide) (Nat.le_of_ble_eq_true rfl) ⟨Nat.le_of_ble_eq_true rfl, Nat.le_of_ble_eq_true rfl⟩ hlocks ⟨rfl, fun z => absurd z (by unfold isI; omega)⟩ ⟨Nat.le_of_ble_eq_true rfl, Nat.le_of_ble_eq_true rfl⟩
  · skip
    rw [lt_nI (by omega)] at c_1
    refine lv_iload_n hx hb dX2_needWithin_5 rfl (lv_at hl 0 rfl) ?_
    refine lv_iload_n hx hb dX2_needWithin_6 rfl (lv_at hl 2 rfl) ?_
    refine lv_icmp_le (tgt := 20) hx hb dX2_needWithin_7 (by decide) (fun c_2 => ?_) (fun c_2 => ?_)
    · skip
      rw [lex_nI (by omega)] at c_2
      have zI : isI x a b := ⟨by omega, by omega⟩
      exact vx_ret (w_vret hx hb hr hlocks hX ⟨toN x, (isI.nI zI).2.1, (isI.nI zI).2.2, (isI.nI zI).1, rfl, rfl⟩ ⟨Nat.le_of_ble_eq_true rfl, Nat.le_of_ble_eq_true rfl⟩ dX2_needWithin_20)
    · skip
      rw [lex_nI (by omega)] at c_2
      exact w_throw hx hb hlt hown (by decide +kernel) kw230 kw11 hX.1.2.2.1.1 hat_IAE hgd_IAE hX (hl.1.trans hml.symm) dX2_needWithin_10 dX2_needWithin_13 dX2_needWithin_14 dX2_needWithin_16 dX2_needWithin_19 hxt (by decide) (Nat.le_of_ble_eq_true rfl) ⟨Nat.le_of_ble_eq_true rfl, Nat.le_of_ble_eq_true rfl⟩ hlocks ⟨rfl, fun z => absurd z (by unfold isI; omega)⟩ ⟨Nat.le_of_ble_eq_true rfl, Nat.le_of_ble_eq_true rfl⟩

set_option maxHeartbeats 4000000 in
set_option maxRecDepth 100000 in
/-- in the range -/
theorem c_X2_needWithin_g (l : Launch) (g : wG) (μ : wMu) (zz : Nat) {k a b : Nat} (h1 : a ≤ k) (h2 : k ≤ b) (h3 : b < 2 ^ 30) : wMet l yX2_needWithin cX2_needWithin 3 none 0 0 0 0 g [.int (nI k), .int (nI a), .int (nI b)] μ zz (fun r μ' => r = none ∧ μ' = μ) := by
  refine wMet.of (by decide) (Nat.le_of_ble_eq_true rfl) ?_
  intro p e s m below meth c ls hx hb hr hml hown hlocks hin hl hsz hX
  have hl : lv_has ls 3 [(0, .int (nI k)), (1, .int (nI a)), (2, .int (nI b))] := hl
  refine lv_iload_n hx hb dX2_needWithin_0 rfl (lv_at hl 0 rfl) ?_
  refine lv_iload_n hx hb dX2_needWithin_1 rfl (lv_at hl 1 rfl) ?_
  refine n_lt (tgt := 10) hx hb (by omega) (by omega) dX2_needWithin_2 (by decide) (fun h => absurd h (by omega)) (fun _ => ?_)
  refine lv_iload_n hx hb dX2_needWithin_5 rfl (lv_at hl 0 rfl) ?_
  refine lv_iload_n hx hb dX2_needWithin_6 rfl (lv_at hl 2 rfl) ?_
  refine n_le (tgt := 20) hx hb (by omega) (by omega) dX2_needWithin_7 (by decide) (fun _ => ?_) (fun h => absurd h (by omega))
  exact w_vret hx hb hr hlocks hX ⟨rfl, rfl⟩ ⟨Nat.le_of_ble_eq_true rfl, Nat.le_of_ble_eq_true rfl⟩ dX2_needWithin_20

set_option maxHeartbeats 4000000 in
set_option maxRecDepth 100000 in
/-- a size, or thrown -/
theorem c_X2_needSize (l : Launch) (hlt : l.stackTraces = false) (g : wG) (μ : wMu) (zz : Nat) {x : Int32}  : wMetX l yX2_needSize cX2_needSize 1 none 7 1 6 112 g [.int x] μ zz (fun r μ' => ∃ k, 1 ≤ k ∧ k ≤ 20 ∧ x = nI k ∧ r = none ∧ μ' = μ) (fun E => E = xIAE ∧ ¬ isI x 1 20) := by
  refine wMetX.of (by decide) (Nat.le_of_ble_eq_true rfl) ?_
  intro p e s m below meth c ls hx hb hr hml hown hlocks hin hl hsz hX hxt
  have hl : lv_has ls 1 [(0, .int x)] := hl
  refine lv_iload_n hx hb dX2_needSize_0 rfl (lv_at hl 0 rfl) ?_
  refine lv_iconst (v := nI 1) hx hb dX2_needSize_1 (by decide) ?_
  refine lv_bipush (v := nI 20) hx hb dX2_needSize_2 (by decide) ?_
  refine w_callX (w_runSX (n := 3) (As := [.int x, .int (nI 1), .int (nI 20)]) (rest := []) hx hb hml hown hX (c_X2_needWithin l hlt g μ s.heap.size (by omega) (by omega)) kw229 kw1 kw227 kw228 wn_X2_needWithin rfl ⟨Nat.le_of_ble_eq_true rfl, Nat.le_of_ble_eq_true rfl⟩ hl.1 rfl (Nat.le_of_ble_eq_true rfl) dX2_needSize_4 ⟨Nat.le_of_ble_eq_true rfl, Nat.le_of_ble_eq_true rfl⟩) hX (fun E ce q9 H locs hE hX hce hcv hcl => ?_) (fun r_3 μ_1 H locs q_2 hX hz => ?_)
  · skip
    exact w_out hxt hlocks hX (by first | exact hE | exact Or.inl hE | simp_all) hce hcv hcl ⟨Nat.le_of_ble_eq_true rfl, Nat.le_of_ble_eq_true rfl⟩
  obtain ⟨k, hk1, hk2, hxe, rfl, e_4⟩ := q_2
  rw [e_4] at hX
  refine W.eq (g2 := F0 m 7 ls []) rfl ?_
  exact vx_ret (w_vret hx hb hr hlocks hX ⟨k, hk1, hk2, hxe, rfl, rfl⟩ ⟨Nat.le_of_ble_eq_true rfl, Nat.le_of_ble_eq_true rfl⟩ dX2_needSize_7)

set_option maxHeartbeats 4000000 in
set_option maxRecDepth 100000 in
/-- a size -/
theorem c_X2_needSize_g (l : Launch) (g : wG) (μ : wMu) (zz : Nat) {k : Nat} (h1 : 1 ≤ k) (h2 : k ≤ 20) : wMet l yX2_needSize cX2_needSize 1 none 1 0 0 22 g [.int (nI k)] μ zz (fun r μ' => r = none ∧ μ' = μ) := by
  refine wMet.of (by decide) (Nat.le_of_ble_eq_true rfl) ?_
  intro p e s m below meth c ls hx hb hr hml hown hlocks hin hl hsz hX
  have hl : lv_has ls 1 [(0, .int (nI k))] := hl
  refine lv_iload_n hx hb dX2_needSize_0 rfl (lv_at hl 0 rfl) ?_
  refine lv_iconst (v := nI 1) hx hb dX2_needSize_1 (by decide) ?_
  refine lv_bipush (v := nI 20) hx hb dX2_needSize_2 (by decide) ?_
  refine w_call (w_runS (n := 3) (As := [.int (nI k), .int (nI 1), .int (nI 20)]) (rest := []) hx hb hml hown hX (c_X2_needWithin_g l g μ s.heap.size h1 h2 (by omega)) kw229 kw1 kw227 kw228 wn_X2_needWithin rfl ⟨Nat.le_of_ble_eq_true rfl, Nat.le_of_ble_eq_true rfl⟩ hl.1 rfl (Nat.le_of_ble_eq_true rfl) dX2_needSize_4 ⟨Nat.le_of_ble_eq_true rfl, Nat.le_of_ble_eq_true rfl⟩) hX (fun r_3 μ_1 H locs q_2 hX hz => ?_)
  obtain ⟨rfl, e_4⟩ := q_2
  rw [e_4] at hX
  refine W.eq (g2 := F0 m 7 ls []) rfl ?_
  exact w_vret hx hb hr hlocks hX ⟨rfl, rfl⟩ ⟨Nat.le_of_ble_eq_true rfl, Nat.le_of_ble_eq_true rfl⟩ dX2_needSize_7

set_option maxHeartbeats 4000000 in
set_option maxRecDepth 100000 in
/-- the one of that number, or thrown -/
theorem c_X2_wandAt (l : Launch) (hlt : l.stackTraces = false) (g : wG) (μ : wMu) (zz : Nat) {Λ σ : sSt} {xv : Option Int64} (hF : fD g Λ xv σ μ) (hO : sOk σ) {x : Int32} : wMetX l yX2_wandAt cX2_wandAt 2 (some (.object "FairyDust$Wand")) 6 1 6 90 g [.ref (Λ 0 0), .int x] μ zz (fun r μ' => ∃ i, i < σ 3 0 ∧ x = nI i ∧ r = some (.ref (Λ 7 i)) ∧ μ' = μ) (fun E => E = xIOB ∧ ¬ isX x (σ 3 0)) := by
  refine wMetX.of (by decide) (Nat.le_of_ble_eq_true rfl) ?_
  intro p e s m below meth c ls hx hb hr hml hown hlocks hin hl hsz hX hxt
  have hl : lv_has ls 2 [(0, .ref (Λ 0 0)), (1, .int x)] := hl
  obtain ⟨f1, ⟨m1, f2⟩, ⟨m2, f3⟩, f4, f5, f6, f7, ⟨t1, t2, t3, t4, f8⟩, ⟨u1, u2, u3, u4, u5, f9⟩, f10, f11⟩ := id hF
  obtain ⟨o1, o2, o3, o4, o5, o6, o7⟩ := id hO
  refine lv_iload_n hx hb dX2_wandAt_0 rfl (lv_at hl 1 rfl) ?_
  refine lv_if_lt (tgt := 15) hx hb dX2_wandAt_1 (by decide) (fun c_1 => ?_) (fun c_1 => ?_)
  · skip
    rw [lt_0x] at c_1
    exact w_throw hx hb hlt hown (by decide +kernel) kw142 kw17 hX.1.2.2.1.2.1 hat_IOB hgd_IOB hX (hl.1.trans hml.symm) dX2_wandAt_15 dX2_wandAt_18 dX2_wandAt_19 dX2_wandAt_21 dX2_wandAt_24 hxt (by decide) (Nat.le_of_ble_eq_true rfl) ⟨Nat.le_of_ble_eq_true rfl, Nat.le_of_ble_eq_true rfl⟩ hlocks ⟨rfl, fun z => absurd z (by unfold isX; omega)⟩ ⟨Nat.le_of_ble_eq_true rfl, Nat.le_of_ble_eq_true rfl⟩
  · skip
    rw [lt_0x] at c_1
    refine lv_iload_n hx hb dX2_wandAt_4 rfl (lv_at hl 1 rfl) ?_
    refine lv_aload_n hx hb dX2_wandAt_5 rfl (lv_at hl 0 rfl) ?_
    refine gX2_0 hx hb hX hown f1 kw108 dX2_wandAt_6 ?_
    refine w_call (w_runV (n := 0) (As := []) (rest := [.int x]) hx hb hml hown hX (c_Jx4a65c_size_8abf5 l g μ s.heap.size f2) kw141 kw4 kw138 kw139 kw140 wn_Jx4a65c_size_8abf5 rfl f2 rfl ⟨Nat.le_of_ble_eq_true rfl, Nat.le_of_ble_eq_true rfl⟩ hl.1 rfl (Nat.le_of_ble_eq_true rfl) dX2_wandAt_9 ⟨Nat.le_of_ble_eq_true rfl, Nat.le_of_ble_eq_true rfl⟩) hX (fun r_4 μ_2 H locs q_3 hX hz => ?_)
    obtain ⟨rfl, e_5⟩ := q_3
    rw [e_5] at hX
    refine W.eq (g2 := F0 m 12 ls [.int (nI (σ 3 0)), .int x]) rfl ?_
    refine lv_icmp_lt (tgt := 25) hx hb dX2_wandAt_12 (by decide) (fun c_6 => ?_) (fun c_6 => ?_)
    · skip
      rw [lt_nI (by omega)] at c_6
      obtain ⟨i, hi, hxe⟩ : ∃ i, i < σ 3 0 ∧ x = nI i := ⟨toN x, (isX.nI (show isX x (σ 3 0) from ⟨by omega, by omega⟩)).2, (isX.nI (show isX x (σ 3 0) from ⟨by omega, by omega⟩)).1⟩
      rw [hxe] at hl
      refine lv_aload_n hx hb dX2_wandAt_25 rfl (lv_at hl 0 rfl) ?_
      refine gX2_0 hx hb hX hown f1 kw108 dX2_wandAt_26 ?_
      refine lv_iload_n hx hb dX2_wandAt_29 rfl (lv_at hl 1 rfl) ?_
      obtain ⟨fa, fa1, fa2⟩ := f4.pos (by omega)
      refine w_call (w_runV (n := 1) (As := [.int (nI i)]) (rest := []) hx hb hml hown hX (c_Jx4a65c_get_915e3 l g μ H.size f2 fa1 hi (by omega) (fa2 i hi)) kw213 kw4 kw210 kw211 kw212 wn_Jx4a65c_get_915e3 rfl f2 rfl ⟨Nat.le_of_ble_eq_true rfl, Nat.le_of_ble_eq_true rfl⟩ hl.1 rfl (Nat.le_of_ble_eq_true rfl) dX2_wandAt_30 ⟨Nat.le_of_ble_eq_true rfl, Nat.le_of_ble_eq_true rfl⟩) hX (fun r_9 μ_7 H locs q_8 hX hz => ?_)
      obtain ⟨rfl, e_10⟩ := q_8
      rw [e_10] at hX
      refine W.eq (g2 := F0 m 33 ls [.ref (Λ 7 i)]) rfl ?_
      have kw_11 := f6 i hi
      have kw_11b := o3 i hi
      refine w_cast hx hb hX hown kw54 kw_11 rfl dX2_wandAt_33 ?_
      exact vx_ret (w_aret hx hb hr (Or.inl ⟨_, rfl⟩) hlocks hX ⟨i, hi, hxe, rfl, rfl⟩ ⟨Nat.le_of_ble_eq_true rfl, Nat.le_of_ble_eq_true rfl⟩ dX2_wandAt_36)
    · skip
      rw [lt_nI (by omega)] at c_6
      exact w_throw hx hb hlt hown (by decide +kernel) kw142 kw17 hX.1.2.2.1.2.1 hat_IOB hgd_IOB hX (hl.1.trans hml.symm) dX2_wandAt_15 dX2_wandAt_18 dX2_wandAt_19 dX2_wandAt_21 dX2_wandAt_24 hxt (by decide) (Nat.le_of_ble_eq_true rfl) ⟨Nat.le_of_ble_eq_true rfl, Nat.le_of_ble_eq_true rfl⟩ hlocks ⟨rfl, fun z => absurd z (by unfold isX; omega)⟩ ⟨Nat.le_of_ble_eq_true rfl, Nat.le_of_ble_eq_true rfl⟩

set_option maxHeartbeats 4000000 in
set_option maxRecDepth 100000 in
/-- the one of that number, or thrown -/
theorem c_X2_childAt (l : Launch) (hlt : l.stackTraces = false) (g : wG) (μ : wMu) (zz : Nat) {Λ σ : sSt} {xv : Option Int64} (hF : fD g Λ xv σ μ) (hO : sOk σ) {x : Int32} : wMetX l yX2_childAt cX2_childAt 2 (some (.object "FairyDust$Child")) 6 1 6 90 g [.ref (Λ 0 0), .int x] μ zz (fun r μ' => ∃ i, i < σ 4 0 ∧ x = nI i ∧ r = some (.ref (Λ 8 i)) ∧ μ' = μ) (fun E => E = xIOB ∧ ¬ isX x (σ 4 0)) := by
  refine wMetX.of (by decide) (Nat.le_of_ble_eq_true rfl) ?_
  intro p e s m below meth c ls hx hb hr hml hown hlocks hin hl hsz hX hxt
  have hl : lv_has ls 2 [(0, .ref (Λ 0 0)), (1, .int x)] := hl
  obtain ⟨f1, ⟨m1, f2⟩, ⟨m2, f3⟩, f4, f5, f6, f7, ⟨t1, t2, t3, t4, f8⟩, ⟨u1, u2, u3, u4, u5, f9⟩, f10, f11⟩ := id hF
  obtain ⟨o1, o2, o3, o4, o5, o6, o7⟩ := id hO
  refine lv_iload_n hx hb dX2_childAt_0 rfl (lv_at hl 1 rfl) ?_
  refine lv_if_lt (tgt := 15) hx hb dX2_childAt_1 (by decide) (fun c_1 => ?_) (fun c_1 => ?_)
  · skip
    rw [lt_0x] at c_1
    exact w_throw hx hb hlt hown (by decide +kernel) kw142 kw17 hX.1.2.2.1.2.2.1 hat_IOB hgd_IOB hX (hl.1.trans hml.symm) dX2_childAt_15 dX2_childAt_18 dX2_childAt_19 dX2_childAt_21 dX2_childAt_24 hxt (by decide) (Nat.le_of_ble_eq_true rfl) ⟨Nat.le_of_ble_eq_true rfl, Nat.le_of_ble_eq_true rfl⟩ hlocks ⟨rfl, fun z => absurd z (by unfold isX; omega)⟩ ⟨Nat.le_of_ble_eq_true rfl, Nat.le_of_ble_eq_true rfl⟩
  · skip
    rw [lt_0x] at c_1
    refine lv_iload_n hx hb dX2_childAt_4 rfl (lv_at hl 1 rfl) ?_
    refine lv_aload_n hx hb dX2_childAt_5 rfl (lv_at hl 0 rfl) ?_
    refine gX2_1 hx hb hX hown f1 kw109 dX2_childAt_6 ?_
    refine w_call (w_runV (n := 0) (As := []) (rest := [.int x]) hx hb hml hown hX (c_Jx4a65c_size_8abf5 l g μ s.heap.size f3) kw141 kw4 kw138 kw139 kw140 wn_Jx4a65c_size_8abf5 rfl f3 rfl ⟨Nat.le_of_ble_eq_true rfl, Nat.le_of_ble_eq_true rfl⟩ hl.1 rfl (Nat.le_of_ble_eq_true rfl) dX2_childAt_9 ⟨Nat.le_of_ble_eq_true rfl, Nat.le_of_ble_eq_true rfl⟩) hX (fun r_4 μ_2 H locs q_3 hX hz => ?_)
    obtain ⟨rfl, e_5⟩ := q_3
    rw [e_5] at hX
    refine W.eq (g2 := F0 m 12 ls [.int (nI (σ 4 0)), .int x]) rfl ?_
    refine lv_icmp_lt (tgt := 25) hx hb dX2_childAt_12 (by decide) (fun c_6 => ?_) (fun c_6 => ?_)
    · skip
      rw [lt_nI (by omega)] at c_6
      obtain ⟨i, hi, hxe⟩ : ∃ i, i < σ 4 0 ∧ x = nI i := ⟨toN x, (isX.nI (show isX x (σ 4 0) from ⟨by omega, by omega⟩)).2, (isX.nI (show isX x (σ 4 0) from ⟨by omega, by omega⟩)).1⟩
      rw [hxe] at hl
      refine lv_aload_n hx hb dX2_childAt_25 rfl (lv_at hl 0 rfl) ?_
      refine gX2_1 hx hb hX hown f1 kw109 dX2_childAt_26 ?_
      refine lv_iload_n hx hb dX2_childAt_29 rfl (lv_at hl 1 rfl) ?_
      obtain ⟨fa, fa1, fa2⟩ := f5.pos (by omega)
      refine w_call (w_runV (n := 1) (As := [.int (nI i)]) (rest := []) hx hb hml hown hX (c_Jx4a65c_get_915e3 l g μ H.size f3 fa1 hi (by omega) (fa2 i hi)) kw213 kw4 kw210 kw211 kw212 wn_Jx4a65c_get_915e3 rfl f3 rfl ⟨Nat.le_of_ble_eq_true rfl, Nat.le_of_ble_eq_true rfl⟩ hl.1 rfl (Nat.le_of_ble_eq_true rfl) dX2_childAt_30 ⟨Nat.le_of_ble_eq_true rfl, Nat.le_of_ble_eq_true rfl⟩) hX (fun r_9 μ_7 H locs q_8 hX hz => ?_)
      obtain ⟨rfl, e_10⟩ := q_8
      rw [e_10] at hX
      refine W.eq (g2 := F0 m 33 ls [.ref (Λ 8 i)]) rfl ?_
      have kc_11 := f7 i hi
      have kc_11b := o4 i hi
      refine w_cast hx hb hX hown kw77 kc_11 rfl dX2_childAt_33 ?_
      exact vx_ret (w_aret hx hb hr (Or.inl ⟨_, rfl⟩) hlocks hX ⟨i, hi, hxe, rfl, rfl⟩ ⟨Nat.le_of_ble_eq_true rfl, Nat.le_of_ble_eq_true rfl⟩ dX2_childAt_36)
    · skip
      rw [lt_nI (by omega)] at c_6
      exact w_throw hx hb hlt hown (by decide +kernel) kw142 kw17 hX.1.2.2.1.2.2.1 hat_IOB hgd_IOB hX (hl.1.trans hml.symm) dX2_childAt_15 dX2_childAt_18 dX2_childAt_19 dX2_childAt_21 dX2_childAt_24 hxt (by decide) (Nat.le_of_ble_eq_true rfl) ⟨Nat.le_of_ble_eq_true rfl, Nat.le_of_ble_eq_true rfl⟩ hlocks ⟨rfl, fun z => absurd z (by unfold isX; omega)⟩ ⟨Nat.le_of_ble_eq_true rfl, Nat.le_of_ble_eq_true rfl⟩

set_option maxHeartbeats 4000000 in
set_option maxRecDepth 100000 in
/-- the one of that number -/
theorem c_X2_wandAt_g (l : Launch) (g : wG) (μ : wMu) (zz : Nat) {Λ σ : sSt} {xv : Option Int64} (hF : fD g Λ xv σ μ) (hO : sOk σ) {i : Nat} (hi : i < σ 3 0) : wMet l yX2_wandAt cX2_wandAt 2 (some (.object "FairyDust$Wand")) 3 0 0 64 g [.ref (Λ 0 0), .int (nI i)] μ zz (fun r μ' => r = some (.ref (Λ 7 i)) ∧ μ' = μ) := by
  refine wMet.of (by decide) (Nat.le_of_ble_eq_true rfl) ?_
  intro p e s m below meth c ls hx hb hr hml hown hlocks hin hl hsz hX
  have hl : lv_has ls 2 [(0, .ref (Λ 0 0)), (1, .int (nI i))] := hl
  obtain ⟨f1, ⟨m1, f2⟩, ⟨m2, f3⟩, f4, f5, f6, f7, ⟨t1, t2, t3, t4, f8⟩, ⟨u1, u2, u3, u4, u5, f9⟩, f10, f11⟩ := id hF
  obtain ⟨o1, o2, o3, o4, o5, o6, o7⟩ := id hO
  refine lv_iload_n hx hb dX2_wandAt_0 rfl (lv_at hl 1 rfl) ?_
  refine lv_if_lt (tgt := 15) hx hb dX2_wandAt_1 (by decide) (fun h => absurd h (nI_pos (by omega))) (fun _ => ?_)
  refine lv_iload_n hx hb dX2_wandAt_4 rfl (lv_at hl 1 rfl) ?_
  refine lv_aload_n hx hb dX2_wandAt_5 rfl (lv_at hl 0 rfl) ?_
  refine gX2_0 hx hb hX hown f1 kw108 dX2_wandAt_6 ?_
  refine w_call (w_runV (n := 0) (As := []) (rest := [.int (nI i)]) hx hb hml hown hX (c_Jx4a65c_size_8abf5 l g μ s.heap.size f2) kw141 kw4 kw138 kw139 kw140 wn_Jx4a65c_size_8abf5 rfl f2 rfl ⟨Nat.le_of_ble_eq_true rfl, Nat.le_of_ble_eq_true rfl⟩ hl.1 rfl (Nat.le_of_ble_eq_true rfl) dX2_wandAt_9 ⟨Nat.le_of_ble_eq_true rfl, Nat.le_of_ble_eq_true rfl⟩) hX (fun r_3 μ_1 H locs q_2 hX hz => ?_)
  obtain ⟨rfl, e_4⟩ := q_2
  rw [e_4] at hX
  refine W.eq (g2 := F0 m 12 ls [.int (nI (σ 3 0)), .int (nI i)]) rfl ?_
  refine n_lt (tgt := 25) hx hb (by omega) (by omega) dX2_wandAt_12 (by decide) (fun _ => ?_) (fun h => absurd h (by omega))
  refine lv_aload_n hx hb dX2_wandAt_25 rfl (lv_at hl 0 rfl) ?_
  refine gX2_0 hx hb hX hown f1 kw108 dX2_wandAt_26 ?_
  refine lv_iload_n hx hb dX2_wandAt_29 rfl (lv_at hl 1 rfl) ?_
  obtain ⟨fa, fa1, fa2⟩ := f4.pos (by omega)
  refine w_call (w_runV (n := 1) (As := [.int (nI i)]) (rest := []) hx hb hml hown hX (c_Jx4a65c_get_915e3 l g μ H.size f2 fa1 hi (by omega) (fa2 i hi)) kw213 kw4 kw210 kw211 kw212 wn_Jx4a65c_get_915e3 rfl f2 rfl ⟨Nat.le_of_ble_eq_true rfl, Nat.le_of_ble_eq_true rfl⟩ hl.1 rfl (Nat.le_of_ble_eq_true rfl) dX2_wandAt_30 ⟨Nat.le_of_ble_eq_true rfl, Nat.le_of_ble_eq_true rfl⟩) hX (fun r_7 μ_5 H locs q_6 hX hz => ?_)
  obtain ⟨rfl, e_8⟩ := q_6
  rw [e_8] at hX
  refine W.eq (g2 := F0 m 33 ls [.ref (Λ 7 i)]) rfl ?_
  have kw_9 := f6 i hi
  have kw_9b := o3 i hi
  refine w_cast hx hb hX hown kw54 kw_9 rfl dX2_wandAt_33 ?_
  exact w_aret hx hb hr (Or.inl ⟨_, rfl⟩) hlocks hX ⟨rfl, rfl⟩ ⟨Nat.le_of_ble_eq_true rfl, Nat.le_of_ble_eq_true rfl⟩ dX2_wandAt_36

set_option maxHeartbeats 4000000 in
set_option maxRecDepth 100000 in
/-- the one of that number -/
theorem c_X2_childAt_g (l : Launch) (g : wG) (μ : wMu) (zz : Nat) {Λ σ : sSt} {xv : Option Int64} (hF : fD g Λ xv σ μ) (hO : sOk σ) {i : Nat} (hi : i < σ 4 0) : wMet l yX2_childAt cX2_childAt 2 (some (.object "FairyDust$Child")) 3 0 0 64 g [.ref (Λ 0 0), .int (nI i)] μ zz (fun r μ' => r = some (.ref (Λ 8 i)) ∧ μ' = μ) := by
  refine wMet.of (by decide) (Nat.le_of_ble_eq_true rfl) ?_
  intro p e s m below meth c ls hx hb hr hml hown hlocks hin hl hsz hX
  have hl : lv_has ls 2 [(0, .ref (Λ 0 0)), (1, .int (nI i))] := hl
  obtain ⟨f1, ⟨m1, f2⟩, ⟨m2, f3⟩, f4, f5, f6, f7, ⟨t1, t2, t3, t4, f8⟩, ⟨u1, u2, u3, u4, u5, f9⟩, f10, f11⟩ := id hF
  obtain ⟨o1, o2, o3, o4, o5, o6, o7⟩ := id hO
  refine lv_iload_n hx hb dX2_childAt_0 rfl (lv_at hl 1 rfl) ?_
  refine lv_if_lt (tgt := 15) hx hb dX2_childAt_1 (by decide) (fun h => absurd h (nI_pos (by omega))) (fun _ => ?_)
  refine lv_iload_n hx hb dX2_childAt_4 rfl (lv_at hl 1 rfl) ?_
  refine lv_aload_n hx hb dX2_childAt_5 rfl (lv_at hl 0 rfl) ?_
  refine gX2_1 hx hb hX hown f1 kw109 dX2_childAt_6 ?_
  refine w_call (w_runV (n := 0) (As := []) (rest := [.int (nI i)]) hx hb hml hown hX (c_Jx4a65c_size_8abf5 l g μ s.heap.size f3) kw141 kw4 kw138 kw139 kw140 wn_Jx4a65c_size_8abf5 rfl f3 rfl ⟨Nat.le_of_ble_eq_true rfl, Nat.le_of_ble_eq_true rfl⟩ hl.1 rfl (Nat.le_of_ble_eq_true rfl) dX2_childAt_9 ⟨Nat.le_of_ble_eq_true rfl, Nat.le_of_ble_eq_true rfl⟩) hX (fun r_3 μ_1 H locs q_2 hX hz => ?_)
  obtain ⟨rfl, e_4⟩ := q_2
  rw [e_4] at hX
  refine W.eq (g2 := F0 m 12 ls [.int (nI (σ 4 0)), .int (nI i)]) rfl ?_
  refine n_lt (tgt := 25) hx hb (by omega) (by omega) dX2_childAt_12 (by decide) (fun _ => ?_) (fun h => absurd h (by omega))
  refine lv_aload_n hx hb dX2_childAt_25 rfl (lv_at hl 0 rfl) ?_
  refine gX2_1 hx hb hX hown f1 kw109 dX2_childAt_26 ?_
  refine lv_iload_n hx hb dX2_childAt_29 rfl (lv_at hl 1 rfl) ?_
  obtain ⟨fa, fa1, fa2⟩ := f5.pos (by omega)
  refine w_call (w_runV (n := 1) (As := [.int (nI i)]) (rest := []) hx hb hml hown hX (c_Jx4a65c_get_915e3 l g μ H.size f3 fa1 hi (by omega) (fa2 i hi)) kw213 kw4 kw210 kw211 kw212 wn_Jx4a65c_get_915e3 rfl f3 rfl ⟨Nat.le_of_ble_eq_true rfl, Nat.le_of_ble_eq_true rfl⟩ hl.1 rfl (Nat.le_of_ble_eq_true rfl) dX2_childAt_30 ⟨Nat.le_of_ble_eq_true rfl, Nat.le_of_ble_eq_true rfl⟩) hX (fun r_7 μ_5 H locs q_6 hX hz => ?_)
  obtain ⟨rfl, e_8⟩ := q_6
  rw [e_8] at hX
  refine W.eq (g2 := F0 m 33 ls [.ref (Λ 8 i)]) rfl ?_
  have kc_9 := f7 i hi
  have kc_9b := o4 i hi
  refine w_cast hx hb hX hown kw77 kc_9 rfl dX2_childAt_33 ?_
  exact w_aret hx hb hr (Or.inl ⟨_, rfl⟩) hlocks hX ⟨rfl, rfl⟩ ⟨Nat.le_of_ble_eq_true rfl, Nat.le_of_ble_eq_true rfl⟩ dX2_childAt_36

set_option maxHeartbeats 4000000 in
set_option maxRecDepth 100000 in
/-- a number -/
theorem c_X2_hour (l : Launch) (g : wG) (μ : wMu) (zz : Nat) {Λ σ : sSt} {xv : Option Int64} (hF : fD g Λ xv σ μ) (hO : sOk σ)  : wMet l yX2_hour cX2_hour 1 (some .int) 0 0 0 0 g [.ref (Λ 0 0)] μ zz (fun r μ' => r = some (.int (nI (σ 0 0))) ∧ μ' = μ) := by
  refine wMet.of (by decide) (Nat.le_of_ble_eq_true rfl) ?_
  intro p e s m below meth c ls hx hb hr hml hown hlocks hin hl hsz hX
  have hl : lv_has ls 1 [(0, .ref (Λ 0 0))] := hl
  obtain ⟨f1, ⟨m1, f2⟩, ⟨m2, f3⟩, f4, f5, f6, f7, ⟨t1, t2, t3, t4, f8⟩, ⟨u1, u2, u3, u4, u5, f9⟩, f10, f11⟩ := id hF
  obtain ⟨o1, o2, o3, o4, o5, o6, o7⟩ := id hO
  refine lv_aload_n hx hb dX2_hour_0 rfl (lv_at hl 0 rfl) ?_
  refine gX2_4 hx hb hX hown f1 kw112 dX2_hour_1 ?_
  exact w_iret hx hb hr hlocks hX ⟨rfl, rfl⟩ ⟨Nat.le_of_ble_eq_true rfl, Nat.le_of_ble_eq_true rfl⟩ dX2_hour_4

set_option maxHeartbeats 4000000 in
set_option maxRecDepth 100000 in
/-- a number -/
theorem c_X2_day (l : Launch) (g : wG) (μ : wMu) (zz : Nat) {Λ σ : sSt} {xv : Option Int64} (hF : fD g Λ xv σ μ) (hO : sOk σ)  : wMet l yX2_day cX2_day 1 (some .int) 0 0 0 0 g [.ref (Λ 0 0)] μ zz (fun r μ' => r = some (.int (nI (σ 0 0 / 24))) ∧ μ' = μ) := by
  refine wMet.of (by decide) (Nat.le_of_ble_eq_true rfl) ?_
  intro p e s m below meth c ls hx hb hr hml hown hlocks hin hl hsz hX
  have hl : lv_has ls 1 [(0, .ref (Λ 0 0))] := hl
  obtain ⟨f1, ⟨m1, f2⟩, ⟨m2, f3⟩, f4, f5, f6, f7, ⟨t1, t2, t3, t4, f8⟩, ⟨u1, u2, u3, u4, u5, f9⟩, f10, f11⟩ := id hF
  obtain ⟨o1, o2, o3, o4, o5, o6, o7⟩ := id hO
  refine lv_aload_n hx hb dX2_day_0 rfl (lv_at hl 0 rfl) ?_
  refine gX2_4 hx hb hX hown f1 kw112 dX2_day_1 ?_
  refine lv_bipush (v := nI 24) hx hb dX2_day_4 (by decide) ?_
  refine n_idiv hx hb dX2_day_6 (by decide) (pk_div (by omega) (by decide) (by decide)) ?_
  exact w_iret hx hb hr hlocks hX ⟨rfl, rfl⟩ ⟨Nat.le_of_ble_eq_true rfl, Nat.le_of_ble_eq_true rfl⟩ dX2_day_7

set_option maxHeartbeats 4000000 in
set_option maxRecDepth 100000 in
/-- a number -/
theorem c_X2_granted (l : Launch) (g : wG) (μ : wMu) (zz : Nat) {Λ σ : sSt} {xv : Option Int64} (hF : fD g Λ xv σ μ) (hO : sOk σ)  : wMet l yX2_granted cX2_granted 1 (some .int) 0 0 0 0 g [.ref (Λ 0 0)] μ zz (fun r μ' => r = some (.int (nI (σ 1 0))) ∧ μ' = μ) := by
  refine wMet.of (by decide) (Nat.le_of_ble_eq_true rfl) ?_
  intro p e s m below meth c ls hx hb hr hml hown hlocks hin hl hsz hX
  have hl : lv_has ls 1 [(0, .ref (Λ 0 0))] := hl
  obtain ⟨f1, ⟨m1, f2⟩, ⟨m2, f3⟩, f4, f5, f6, f7, ⟨t1, t2, t3, t4, f8⟩, ⟨u1, u2, u3, u4, u5, f9⟩, f10, f11⟩ := id hF
  obtain ⟨o1, o2, o3, o4, o5, o6, o7⟩ := id hO
  refine lv_aload_n hx hb dX2_granted_0 rfl (lv_at hl 0 rfl) ?_
  refine gX2_5 hx hb hX hown f1 kw113 dX2_granted_1 ?_
  exact w_iret hx hb hr hlocks hX ⟨rfl, rfl⟩ ⟨Nat.le_of_ble_eq_true rfl, Nat.le_of_ble_eq_true rfl⟩ dX2_granted_4

set_option maxHeartbeats 4000000 in
set_option maxRecDepth 100000 in
/-- a number -/
theorem c_X2_denied (l : Launch) (g : wG) (μ : wMu) (zz : Nat) {Λ σ : sSt} {xv : Option Int64} (hF : fD g Λ xv σ μ) (hO : sOk σ)  : wMet l yX2_denied cX2_denied 1 (some .int) 0 0 0 0 g [.ref (Λ 0 0)] μ zz (fun r μ' => r = some (.int (nI (σ 2 0))) ∧ μ' = μ) := by
  refine wMet.of (by decide) (Nat.le_of_ble_eq_true rfl) ?_
  intro p e s m below meth c ls hx hb hr hml hown hlocks hin hl hsz hX
  have hl : lv_has ls 1 [(0, .ref (Λ 0 0))] := hl
  obtain ⟨f1, ⟨m1, f2⟩, ⟨m2, f3⟩, f4, f5, f6, f7, ⟨t1, t2, t3, t4, f8⟩, ⟨u1, u2, u3, u4, u5, f9⟩, f10, f11⟩ := id hF
  obtain ⟨o1, o2, o3, o4, o5, o6, o7⟩ := id hO
  refine lv_aload_n hx hb dX2_denied_0 rfl (lv_at hl 0 rfl) ?_
  refine gX2_6 hx hb hX hown f1 kw114 dX2_denied_1 ?_
  exact w_iret hx hb hr hlocks hX ⟨rfl, rfl⟩ ⟨Nat.le_of_ble_eq_true rfl, Nat.le_of_ble_eq_true rfl⟩ dX2_denied_4

set_option maxHeartbeats 4000000 in
set_option maxRecDepth 100000 in
/-- a number -/
theorem c_X2_wands (l : Launch) (g : wG) (μ : wMu) (zz : Nat) {Λ σ : sSt} {xv : Option Int64} (hF : fD g Λ xv σ μ) (hO : sOk σ)  : wMet l yX2_wands cX2_wands 1 (some .int) 1 0 0 20 g [.ref (Λ 0 0)] μ zz (fun r μ' => r = some (.int (nI (σ 3 0))) ∧ μ' = μ) := by
  refine wMet.of (by decide) (Nat.le_of_ble_eq_true rfl) ?_
  intro p e s m below meth c ls hx hb hr hml hown hlocks hin hl hsz hX
  have hl : lv_has ls 1 [(0, .ref (Λ 0 0))] := hl
  obtain ⟨f1, ⟨m1, f2⟩, ⟨m2, f3⟩, f4, f5, f6, f7, ⟨t1, t2, t3, t4, f8⟩, ⟨u1, u2, u3, u4, u5, f9⟩, f10, f11⟩ := id hF
  obtain ⟨o1, o2, o3, o4, o5, o6, o7⟩ := id hO
  refine lv_aload_n hx hb dX2_wands_0 rfl (lv_at hl 0 rfl) ?_
  refine gX2_0 hx hb hX hown f1 kw108 dX2_wands_1 ?_
  refine w_call (w_runV (n := 0) (As := []) (rest := []) hx hb hml hown hX (c_Jx4a65c_size_8abf5 l g μ s.heap.size f2) kw141 kw4 kw138 kw139 kw140 wn_Jx4a65c_size_8abf5 rfl f2 rfl ⟨Nat.le_of_ble_eq_true rfl, Nat.le_of_ble_eq_true rfl⟩ hl.1 rfl (Nat.le_of_ble_eq_true rfl) dX2_wands_4 ⟨Nat.le_of_ble_eq_true rfl, Nat.le_of_ble_eq_true rfl⟩) hX (fun r_3 μ_1 H locs q_2 hX hz => ?_)
  obtain ⟨rfl, e_4⟩ := q_2
  rw [e_4] at hX
  refine W.eq (g2 := F0 m 7 ls [.int (nI (σ 3 0))]) rfl ?_
  exact w_iret hx hb hr hlocks hX ⟨rfl, rfl⟩ ⟨Nat.le_of_ble_eq_true rfl, Nat.le_of_ble_eq_true rfl⟩ dX2_wands_7

set_option maxHeartbeats 4000000 in
set_option maxRecDepth 100000 in
/-- a number -/
theorem c_X2_children (l : Launch) (g : wG) (μ : wMu) (zz : Nat) {Λ σ : sSt} {xv : Option Int64} (hF : fD g Λ xv σ μ) (hO : sOk σ)  : wMet l yX2_children cX2_children 1 (some .int) 1 0 0 20 g [.ref (Λ 0 0)] μ zz (fun r μ' => r = some (.int (nI (σ 4 0))) ∧ μ' = μ) := by
  refine wMet.of (by decide) (Nat.le_of_ble_eq_true rfl) ?_
  intro p e s m below meth c ls hx hb hr hml hown hlocks hin hl hsz hX
  have hl : lv_has ls 1 [(0, .ref (Λ 0 0))] := hl
  obtain ⟨f1, ⟨m1, f2⟩, ⟨m2, f3⟩, f4, f5, f6, f7, ⟨t1, t2, t3, t4, f8⟩, ⟨u1, u2, u3, u4, u5, f9⟩, f10, f11⟩ := id hF
  obtain ⟨o1, o2, o3, o4, o5, o6, o7⟩ := id hO
  refine lv_aload_n hx hb dX2_children_0 rfl (lv_at hl 0 rfl) ?_
  refine gX2_1 hx hb hX hown f1 kw109 dX2_children_1 ?_
  refine w_call (w_runV (n := 0) (As := []) (rest := []) hx hb hml hown hX (c_Jx4a65c_size_8abf5 l g μ s.heap.size f3) kw141 kw4 kw138 kw139 kw140 wn_Jx4a65c_size_8abf5 rfl f3 rfl ⟨Nat.le_of_ble_eq_true rfl, Nat.le_of_ble_eq_true rfl⟩ hl.1 rfl (Nat.le_of_ble_eq_true rfl) dX2_children_4 ⟨Nat.le_of_ble_eq_true rfl, Nat.le_of_ble_eq_true rfl⟩) hX (fun r_3 μ_1 H locs q_2 hX hz => ?_)
  obtain ⟨rfl, e_4⟩ := q_2
  rw [e_4] at hX
  refine W.eq (g2 := F0 m 7 ls [.int (nI (σ 4 0))]) rfl ?_
  exact w_iret hx hb hr hlocks hX ⟨rfl, rfl⟩ ⟨Nat.le_of_ble_eq_true rfl, Nat.le_of_ble_eq_true rfl⟩ dX2_children_7

set_option maxHeartbeats 4000000 in
set_option maxRecDepth 100000 in
/-- an answer, or thrown -/
theorem c_X2_dustIn (l : Launch) (hlt : l.stackTraces = false) (g : wG) (μ : wMu) (zz : Nat) {Λ σ : sSt} {xv : Option Int64} (hF : fD g Λ xv σ μ) (hO : sOk σ) {x : Int32} : wMetX l yX2_dustIn cX2_dustIn 2 (some .int) 7 1 6 111 g [.ref (Λ 0 0), .int x] μ zz (fun r μ' => ∃ i, i < σ 3 0 ∧ x = nI i ∧ r = some (.int (nI (σ 7 i))) ∧ μ' = μ) (fun E => E = xIOB ∧ ¬ isX x (σ 3 0)) := by
  refine wMetX.of (by decide) (Nat.le_of_ble_eq_true rfl) ?_
  intro p e s m below meth c ls hx hb hr hml hown hlocks hin hl hsz hX hxt
  have hl : lv_has ls 2 [(0, .ref (Λ 0 0)), (1, .int x)] := hl
  obtain ⟨f1, ⟨m1, f2⟩, ⟨m2, f3⟩, f4, f5, f6, f7, ⟨t1, t2, t3, t4, f8⟩, ⟨u1, u2, u3, u4, u5, f9⟩, f10, f11⟩ := id hF
  obtain ⟨o1, o2, o3, o4, o5, o6, o7⟩ := id hO
  refine lv_aload_n hx hb dX2_dustIn_0 rfl (lv_at hl 0 rfl) ?_
  refine lv_iload_n hx hb dX2_dustIn_1 rfl (lv_at hl 1 rfl) ?_
  refine w_callX (w_runVX (n := 1) (As := [.int x]) (rest := []) hx hb hml hown hX (c_X2_wandAt l hlt g μ s.heap.size hF hO) kw337 kw1 kw334 kw336 kp13 wn_X2_wandAt rfl f1 rfl ⟨Nat.le_of_ble_eq_true rfl, Nat.le_of_ble_eq_true rfl⟩ hl.1 rfl (Nat.le_of_ble_eq_true rfl) dX2_dustIn_2 ⟨Nat.le_of_ble_eq_true rfl, Nat.le_of_ble_eq_true rfl⟩) hX (fun E ce q9 H locs hE hX hce hcv hcl => ?_) (fun r_3 μ_1 H locs q_2 hX hz => ?_)
  · skip
    exact w_out hxt hlocks hX (by first | exact hE | exact Or.inl hE | simp_all) hce hcv hcl ⟨Nat.le_of_ble_eq_true rfl, Nat.le_of_ble_eq_true rfl⟩
  obtain ⟨i, hi, hxe, rfl, e_4⟩ := q_2
  rw [e_4] at hX
  refine W.eq (g2 := F0 m 5 ls [.ref (Λ 7 i)]) rfl ?_
  have kw_5 := f6 i hi
  have kw_5b := o3 i hi
  refine gnX1_3 hx hb hX hown kw_5 kw67 dX2_dustIn_5 ?_
  exact vx_ret (w_iret hx hb hr hlocks hX ⟨i, hi, hxe, rfl, rfl⟩ ⟨Nat.le_of_ble_eq_true rfl, Nat.le_of_ble_eq_true rfl⟩ dX2_dustIn_8)

set_option maxHeartbeats 4000000 in
set_option maxRecDepth 100000 in
/-- an answer, or thrown -/
theorem c_X2_wandOf (l : Launch) (hlt : l.stackTraces = false) (g : wG) (μ : wMu) (zz : Nat) {Λ σ : sSt} {xv : Option Int64} (hF : fD g Λ xv σ μ) (hO : sOk σ) {x : Int32} : wMetX l yX2_wandOf cX2_wandOf 2 (some .int) 7 1 6 111 g [.ref (Λ 0 0), .int x] μ zz (fun r μ' => ∃ i, i < σ 4 0 ∧ x = nI i ∧ r = some (.int (nI (σ 8 i))) ∧ μ' = μ) (fun E => E = xIOB ∧ ¬ isX x (σ 4 0)) := by
  refine wMetX.of (by decide) (Nat.le_of_ble_eq_true rfl) ?_
  intro p e s m below meth c ls hx hb hr hml hown hlocks hin hl hsz hX hxt
  have hl : lv_has ls 2 [(0, .ref (Λ 0 0)), (1, .int x)] := hl
  obtain ⟨f1, ⟨m1, f2⟩, ⟨m2, f3⟩, f4, f5, f6, f7, ⟨t1, t2, t3, t4, f8⟩, ⟨u1, u2, u3, u4, u5, f9⟩, f10, f11⟩ := id hF
  obtain ⟨o1, o2, o3, o4, o5, o6, o7⟩ := id hO
  refine lv_aload_n hx hb dX2_wandOf_0 rfl (lv_at hl 0 rfl) ?_
  refine lv_iload_n hx hb dX2_wandOf_1 rfl (lv_at hl 1 rfl) ?_
  refine w_callX (w_runVX (n := 1) (As := [.int x]) (rest := []) hx hb hml hown hX (c_X2_childAt l hlt g μ s.heap.size hF hO) kw137 kw1 kw134 kw136 kp0 wn_X2_childAt rfl f1 rfl ⟨Nat.le_of_ble_eq_true rfl, Nat.le_of_ble_eq_true rfl⟩ hl.1 rfl (Nat.le_of_ble_eq_true rfl) dX2_wandOf_2 ⟨Nat.le_of_ble_eq_true rfl, Nat.le_of_ble_eq_true rfl⟩) hX (fun E ce q9 H locs hE hX hce hcv hcl => ?_) (fun r_3 μ_1 H locs q_2 hX hz => ?_)
  · skip
    exact w_out hxt hlocks hX (by first | exact hE | exact Or.inl hE | simp_all) hce hcv hcl ⟨Nat.le_of_ble_eq_true rfl, Nat.le_of_ble_eq_true rfl⟩
  obtain ⟨i, hi, hxe, rfl, e_4⟩ := q_2
  rw [e_4] at hX
  refine W.eq (g2 := F0 m 5 ls [.ref (Λ 8 i)]) rfl ?_
  have kc_5 := f7 i hi
  have kc_5b := o4 i hi
  have kw_6 := f6 (σ 8 i) kc_5b.1
  have kw_6b := o3 (σ 8 i) kc_5b.1
  refine gnX0_0 hx hb hX hown kc_5 kw84 dX2_wandOf_5 ?_
  refine gnX1_0 hx hb hX hown kw_6 kw61 dX2_wandOf_8 ?_
  exact vx_ret (w_iret hx hb hr hlocks hX ⟨i, hi, hxe, rfl, rfl⟩ ⟨Nat.le_of_ble_eq_true rfl, Nat.le_of_ble_eq_true rfl⟩ dX2_wandOf_11)

set_option maxHeartbeats 4000000 in
set_option maxRecDepth 100000 in
/-- an answer, or thrown -/
theorem c_X2_burstOf (l : Launch) (hlt : l.stackTraces = false) (g : wG) (μ : wMu) (zz : Nat) {Λ σ : sSt} {xv : Option Int64} (hF : fD g Λ xv σ μ) (hO : sOk σ) {x : Int32} : wMetX l yX2_burstOf cX2_burstOf 2 (some .int) 7 1 6 111 g [.ref (Λ 0 0), .int x] μ zz (fun r μ' => ∃ i, i < σ 4 0 ∧ x = nI i ∧ r = some (.int (nI (σ 10 i))) ∧ μ' = μ) (fun E => E = xIOB ∧ ¬ isX x (σ 4 0)) := by
  refine wMetX.of (by decide) (Nat.le_of_ble_eq_true rfl) ?_
  intro p e s m below meth c ls hx hb hr hml hown hlocks hin hl hsz hX hxt
  have hl : lv_has ls 2 [(0, .ref (Λ 0 0)), (1, .int x)] := hl
  obtain ⟨f1, ⟨m1, f2⟩, ⟨m2, f3⟩, f4, f5, f6, f7, ⟨t1, t2, t3, t4, f8⟩, ⟨u1, u2, u3, u4, u5, f9⟩, f10, f11⟩ := id hF
  obtain ⟨o1, o2, o3, o4, o5, o6, o7⟩ := id hO
  refine lv_aload_n hx hb dX2_burstOf_0 rfl (lv_at hl 0 rfl) ?_
  refine lv_iload_n hx hb dX2_burstOf_1 rfl (lv_at hl 1 rfl) ?_
  refine w_callX (w_runVX (n := 1) (As := [.int x]) (rest := []) hx hb hml hown hX (c_X2_childAt l hlt g μ s.heap.size hF hO) kw137 kw1 kw134 kw136 kp0 wn_X2_childAt rfl f1 rfl ⟨Nat.le_of_ble_eq_true rfl, Nat.le_of_ble_eq_true rfl⟩ hl.1 rfl (Nat.le_of_ble_eq_true rfl) dX2_burstOf_2 ⟨Nat.le_of_ble_eq_true rfl, Nat.le_of_ble_eq_true rfl⟩) hX (fun E ce q9 H locs hE hX hce hcv hcl => ?_) (fun r_3 μ_1 H locs q_2 hX hz => ?_)
  · skip
    exact w_out hxt hlocks hX (by first | exact hE | exact Or.inl hE | simp_all) hce hcv hcl ⟨Nat.le_of_ble_eq_true rfl, Nat.le_of_ble_eq_true rfl⟩
  obtain ⟨i, hi, hxe, rfl, e_4⟩ := q_2
  rw [e_4] at hX
  refine W.eq (g2 := F0 m 5 ls [.ref (Λ 8 i)]) rfl ?_
  have kc_5 := f7 i hi
  have kc_5b := o4 i hi
  have kw_6 := f6 (σ 8 i) kc_5b.1
  have kw_6b := o3 (σ 8 i) kc_5b.1
  refine gnX0_2 hx hb hX hown kc_5 kw88 dX2_burstOf_5 ?_
  exact vx_ret (w_iret hx hb hr hlocks hX ⟨i, hi, hxe, rfl, rfl⟩ ⟨Nat.le_of_ble_eq_true rfl, Nat.le_of_ble_eq_true rfl⟩ dX2_burstOf_8)

set_option maxHeartbeats 4000000 in
set_option maxRecDepth 100000 in
/-- an answer, or thrown -/
theorem c_X2_punishedFor (l : Launch) (hlt : l.stackTraces = false) (g : wG) (μ : wMu) (zz : Nat) {Λ σ : sSt} {xv : Option Int64} (hF : fD g Λ xv σ μ) (hO : sOk σ) {x : Int32} : wMetX l yX2_punishedFor cX2_punishedFor 2 (some .int) 7 1 6 111 g [.ref (Λ 0 0), .int x] μ zz (fun r μ' => ∃ i, i < σ 4 0 ∧ x = nI i ∧ r = some (.int (nI (σ 11 i))) ∧ μ' = μ) (fun E => E = xIOB ∧ ¬ isX x (σ 4 0)) := by
  refine wMetX.of (by decide) (Nat.le_of_ble_eq_true rfl) ?_
  intro p e s m below meth c ls hx hb hr hml hown hlocks hin hl hsz hX hxt
  have hl : lv_has ls 2 [(0, .ref (Λ 0 0)), (1, .int x)] := hl
  obtain ⟨f1, ⟨m1, f2⟩, ⟨m2, f3⟩, f4, f5, f6, f7, ⟨t1, t2, t3, t4, f8⟩, ⟨u1, u2, u3, u4, u5, f9⟩, f10, f11⟩ := id hF
  obtain ⟨o1, o2, o3, o4, o5, o6, o7⟩ := id hO
  refine lv_aload_n hx hb dX2_punishedFor_0 rfl (lv_at hl 0 rfl) ?_
  refine lv_iload_n hx hb dX2_punishedFor_1 rfl (lv_at hl 1 rfl) ?_
  refine w_callX (w_runVX (n := 1) (As := [.int x]) (rest := []) hx hb hml hown hX (c_X2_childAt l hlt g μ s.heap.size hF hO) kw137 kw1 kw134 kw136 kp0 wn_X2_childAt rfl f1 rfl ⟨Nat.le_of_ble_eq_true rfl, Nat.le_of_ble_eq_true rfl⟩ hl.1 rfl (Nat.le_of_ble_eq_true rfl) dX2_punishedFor_2 ⟨Nat.le_of_ble_eq_true rfl, Nat.le_of_ble_eq_true rfl⟩) hX (fun E ce q9 H locs hE hX hce hcv hcl => ?_) (fun r_3 μ_1 H locs q_2 hX hz => ?_)
  · skip
    exact w_out hxt hlocks hX (by first | exact hE | exact Or.inl hE | simp_all) hce hcv hcl ⟨Nat.le_of_ble_eq_true rfl, Nat.le_of_ble_eq_true rfl⟩
  obtain ⟨i, hi, hxe, rfl, e_4⟩ := q_2
  rw [e_4] at hX
  refine W.eq (g2 := F0 m 5 ls [.ref (Λ 8 i)]) rfl ?_
  have kc_5 := f7 i hi
  have kc_5b := o4 i hi
  have kw_6 := f6 (σ 8 i) kc_5b.1
  have kw_6b := o3 (σ 8 i) kc_5b.1
  refine gnX0_3 hx hb hX hown kc_5 kw90 dX2_punishedFor_5 ?_
  exact vx_ret (w_iret hx hb hr hlocks hX ⟨i, hi, hxe, rfl, rfl⟩ ⟨Nat.le_of_ble_eq_true rfl, Nat.le_of_ble_eq_true rfl⟩ dX2_punishedFor_8)

set_option maxHeartbeats 4000000 in
set_option maxRecDepth 100000 in
/-- an answer, or thrown -/
theorem c_X2_marksOf (l : Launch) (hlt : l.stackTraces = false) (g : wG) (μ : wMu) (zz : Nat) {Λ σ : sSt} {xv : Option Int64} (hF : fD g Λ xv σ μ) (hO : sOk σ) {x : Int32} : wMetX l yX2_marksOf cX2_marksOf 2 (some .int) 7 1 6 111 g [.ref (Λ 0 0), .int x] μ zz (fun r μ' => ∃ i, i < σ 4 0 ∧ x = nI i ∧ r = some (.int (nI (σ 12 i))) ∧ μ' = μ) (fun E => E = xIOB ∧ ¬ isX x (σ 4 0)) := by
  refine wMetX.of (by decide) (Nat.le_of_ble_eq_true rfl) ?_
  intro p e s m below meth c ls hx hb hr hml hown hlocks hin hl hsz hX hxt
  have hl : lv_has ls 2 [(0, .ref (Λ 0 0)), (1, .int x)] := hl
  obtain ⟨f1, ⟨m1, f2⟩, ⟨m2, f3⟩, f4, f5, f6, f7, ⟨t1, t2, t3, t4, f8⟩, ⟨u1, u2, u3, u4, u5, f9⟩, f10, f11⟩ := id hF
  obtain ⟨o1, o2, o3, o4, o5, o6, o7⟩ := id hO
  refine lv_aload_n hx hb dX2_marksOf_0 rfl (lv_at hl 0 rfl) ?_
  refine lv_iload_n hx hb dX2_marksOf_1 rfl (lv_at hl 1 rfl) ?_
  refine w_callX (w_runVX (n := 1) (As := [.int x]) (rest := []) hx hb hml hown hX (c_X2_childAt l hlt g μ s.heap.size hF hO) kw137 kw1 kw134 kw136 kp0 wn_X2_childAt rfl f1 rfl ⟨Nat.le_of_ble_eq_true rfl, Nat.le_of_ble_eq_true rfl⟩ hl.1 rfl (Nat.le_of_ble_eq_true rfl) dX2_marksOf_2 ⟨Nat.le_of_ble_eq_true rfl, Nat.le_of_ble_eq_true rfl⟩) hX (fun E ce q9 H locs hE hX hce hcv hcl => ?_) (fun r_3 μ_1 H locs q_2 hX hz => ?_)
  · skip
    exact w_out hxt hlocks hX (by first | exact hE | exact Or.inl hE | simp_all) hce hcv hcl ⟨Nat.le_of_ble_eq_true rfl, Nat.le_of_ble_eq_true rfl⟩
  obtain ⟨i, hi, hxe, rfl, e_4⟩ := q_2
  rw [e_4] at hX
  refine W.eq (g2 := F0 m 5 ls [.ref (Λ 8 i)]) rfl ?_
  have kc_5 := f7 i hi
  have kc_5b := o4 i hi
  have kw_6 := f6 (σ 8 i) kc_5b.1
  have kw_6b := o3 (σ 8 i) kc_5b.1
  refine gnX0_4 hx hb hX hown kc_5 kw92 dX2_marksOf_5 ?_
  exact vx_ret (w_iret hx hb hr hlocks hX ⟨i, hi, hxe, rfl, rfl⟩ ⟨Nat.le_of_ble_eq_true rfl, Nat.le_of_ble_eq_true rfl⟩ dX2_marksOf_8)

set_option maxHeartbeats 4000000 in
set_option maxRecDepth 100000 in
/-- an answer, or thrown -/
theorem c_X2_nextPunishment (l : Launch) (hlt : l.stackTraces = false) (g : wG) (μ : wMu) (zz : Nat) {Λ σ : sSt} {xv : Option Int64} (hF : fD g Λ xv σ μ) (hO : sOk σ) {x : Int32} : wMetX l yX2_nextPunishment cX2_nextPunishment 2 (some .int) 7 1 6 111 g [.ref (Λ 0 0), .int x] μ zz (fun r μ' => ∃ i, i < σ 4 0 ∧ x = nI i ∧ r = some (.int (nI (σ 13 i))) ∧ μ' = μ) (fun E => E = xIOB ∧ ¬ isX x (σ 4 0)) := by
  refine wMetX.of (by decide) (Nat.le_of_ble_eq_true rfl) ?_
  intro p e s m below meth c ls hx hb hr hml hown hlocks hin hl hsz hX hxt
  have hl : lv_has ls 2 [(0, .ref (Λ 0 0)), (1, .int x)] := hl
  obtain ⟨f1, ⟨m1, f2⟩, ⟨m2, f3⟩, f4, f5, f6, f7, ⟨t1, t2, t3, t4, f8⟩, ⟨u1, u2, u3, u4, u5, f9⟩, f10, f11⟩ := id hF
  obtain ⟨o1, o2, o3, o4, o5, o6, o7⟩ := id hO
  refine lv_aload_n hx hb dX2_nextPunishment_0 rfl (lv_at hl 0 rfl) ?_
  refine lv_iload_n hx hb dX2_nextPunishment_1 rfl (lv_at hl 1 rfl) ?_
  refine w_callX (w_runVX (n := 1) (As := [.int x]) (rest := []) hx hb hml hown hX (c_X2_childAt l hlt g μ s.heap.size hF hO) kw137 kw1 kw134 kw136 kp0 wn_X2_childAt rfl f1 rfl ⟨Nat.le_of_ble_eq_true rfl, Nat.le_of_ble_eq_true rfl⟩ hl.1 rfl (Nat.le_of_ble_eq_true rfl) dX2_nextPunishment_2 ⟨Nat.le_of_ble_eq_true rfl, Nat.le_of_ble_eq_true rfl⟩) hX (fun E ce q9 H locs hE hX hce hcv hcl => ?_) (fun r_3 μ_1 H locs q_2 hX hz => ?_)
  · skip
    exact w_out hxt hlocks hX (by first | exact hE | exact Or.inl hE | simp_all) hce hcv hcl ⟨Nat.le_of_ble_eq_true rfl, Nat.le_of_ble_eq_true rfl⟩
  obtain ⟨i, hi, hxe, rfl, e_4⟩ := q_2
  rw [e_4] at hX
  refine W.eq (g2 := F0 m 5 ls [.ref (Λ 8 i)]) rfl ?_
  have kc_5 := f7 i hi
  have kc_5b := o4 i hi
  have kw_6 := f6 (σ 8 i) kc_5b.1
  have kw_6b := o3 (σ 8 i) kc_5b.1
  refine gnX0_5 hx hb hX hown kc_5 kw94 dX2_nextPunishment_5 ?_
  exact vx_ret (w_iret hx hb hr hlocks hX ⟨i, hi, hxe, rfl, rfl⟩ ⟨Nat.le_of_ble_eq_true rfl, Nat.le_of_ble_eq_true rfl⟩ dX2_nextPunishment_8)

set_option maxHeartbeats 4000000 in
set_option maxRecDepth 100000 in
/-- an answer, or thrown -/
theorem c_X2_daysToBirthday (l : Launch) (hlt : l.stackTraces = false) (g : wG) (μ : wMu) (zz : Nat) {Λ σ : sSt} {xv : Option Int64} (hF : fD g Λ xv σ μ) (hO : sOk σ) {x : Int32} : wMetX l yX2_daysToBirthday cX2_daysToBirthday 2 (some .int) 7 1 6 111 g [.ref (Λ 0 0), .int x] μ zz (fun r μ' => ∃ i, i < σ 4 0 ∧ x = nI i ∧ r = some (.int (nI (vDay σ i))) ∧ μ' = μ) (fun E => E = xIOB ∧ ¬ isX x (σ 4 0)) := by
  refine wMetX.of (by decide) (Nat.le_of_ble_eq_true rfl) ?_
  intro p e s m below meth c ls hx hb hr hml hown hlocks hin hl hsz hX hxt
  have hl : lv_has ls 2 [(0, .ref (Λ 0 0)), (1, .int x)] := hl
  obtain ⟨f1, ⟨m1, f2⟩, ⟨m2, f3⟩, f4, f5, f6, f7, ⟨t1, t2, t3, t4, f8⟩, ⟨u1, u2, u3, u4, u5, f9⟩, f10, f11⟩ := id hF
  obtain ⟨o1, o2, o3, o4, o5, o6, o7⟩ := id hO
  refine lv_aload_n hx hb dX2_daysToBirthday_0 rfl (lv_at hl 0 rfl) ?_
  refine lv_iload_n hx hb dX2_daysToBirthday_1 rfl (lv_at hl 1 rfl) ?_
  refine w_callX (w_runVX (n := 1) (As := [.int x]) (rest := []) hx hb hml hown hX (c_X2_childAt l hlt g μ s.heap.size hF hO) kw137 kw1 kw134 kw136 kp0 wn_X2_childAt rfl f1 rfl ⟨Nat.le_of_ble_eq_true rfl, Nat.le_of_ble_eq_true rfl⟩ hl.1 rfl (Nat.le_of_ble_eq_true rfl) dX2_daysToBirthday_2 ⟨Nat.le_of_ble_eq_true rfl, Nat.le_of_ble_eq_true rfl⟩) hX (fun E ce q9 H locs hE hX hce hcv hcl => ?_) (fun r_3 μ_1 H locs q_2 hX hz => ?_)
  · skip
    exact w_out hxt hlocks hX (by first | exact hE | exact Or.inl hE | simp_all) hce hcv hcl ⟨Nat.le_of_ble_eq_true rfl, Nat.le_of_ble_eq_true rfl⟩
  obtain ⟨i, hi, hxe, rfl, e_4⟩ := q_2
  rw [e_4] at hX
  refine W.eq (g2 := F0 m 5 ls [.ref (Λ 8 i)]) rfl ?_
  have kc_5 := f7 i hi
  have kc_5b := o4 i hi
  have kw_6 := f6 (σ 8 i) kc_5b.1
  have kw_6b := o3 (σ 8 i) kc_5b.1
  refine gnX0_1 hx hb hX hown kc_5 kw86 dX2_daysToBirthday_5 ?_
  refine lv_aload_n hx hb dX2_daysToBirthday_8 rfl (lv_at hl 0 rfl) ?_
  refine w_call (w_runV (n := 0) (As := []) (rest := [.int (nI (σ 9 i))]) hx hb hml hown hX (c_X2_day l g μ H.size hF hO) kw308 kw1 kw367 kw306 kw307 wn_X2_day rfl f1 rfl ⟨Nat.le_of_ble_eq_true rfl, Nat.le_of_ble_eq_true rfl⟩ hl.1 rfl (Nat.le_of_ble_eq_true rfl) dX2_daysToBirthday_9 ⟨Nat.le_of_ble_eq_true rfl, Nat.le_of_ble_eq_true rfl⟩) hX (fun r_9 μ_7 H locs q_8 hX hz => ?_)
  obtain ⟨rfl, e_10⟩ := q_8
  rw [e_10] at hX
  refine W.eq (g2 := F0 m 12 ls [.int (nI (σ 0 0 / 24)), .int (nI (σ 9 i))]) rfl ?_
  refine n_isub hx hb dX2_daysToBirthday_12 rfl ?_
  refine lv_bipush (v := nI 30) hx hb dX2_daysToBirthday_13 (by decide) ?_
  refine w_call (w_runS (n := 2) (As := [.int ((nI (σ 9 i)) - (nI (σ 0 0 / 24))), .int (nI 30)]) (rest := []) hx hb hml hown hX (c_J9_floorMod_7cf53 l g μ H.size (by omega) (by omega)) kw370 kw14 kw368 kw369 wn_J9_floorMod_7cf53 rfl ⟨Nat.le_of_ble_eq_true rfl, Nat.le_of_ble_eq_true rfl⟩ hl.1 rfl (Nat.le_of_ble_eq_true rfl) dX2_daysToBirthday_15 ⟨Nat.le_of_ble_eq_true rfl, Nat.le_of_ble_eq_true rfl⟩) hX (fun r_13 μ_11 H locs q_12 hX hz => ?_)
  obtain ⟨rfl, e_14⟩ := q_12
  rw [e_14] at hX
  refine W.eq (g2 := F0 m 18 ls [.int (nI (vDay σ i))]) rfl ?_
  exact vx_ret (w_iret hx hb hr hlocks hX ⟨i, hi, hxe, rfl, rfl⟩ ⟨Nat.le_of_ble_eq_true rfl, Nat.le_of_ble_eq_true rfl⟩ dX2_daysToBirthday_18)

set_option maxHeartbeats 4000000 in
set_option maxRecDepth 100000 in
/-- an answer, or thrown -/
theorem c_X2_greatestWish (l : Launch) (hlt : l.stackTraces = false) (g : wG) (μ : wMu) (zz : Nat) {Λ σ : sSt} {xv : Option Int64} (hF : fD g Λ xv σ μ) (hO : sOk σ) {x : Int32} : wMetX l yX2_greatestWish cX2_greatestWish 2 (some .int) 7 1 6 111 g [.ref (Λ 0 0), .int x] μ zz (fun r μ' => ∃ i, i < σ 4 0 ∧ x = nI i ∧ r = some (.int (nI (vGrt σ i))) ∧ μ' = μ) (fun E => E = xIOB ∧ ¬ isX x (σ 4 0)) := by
  refine wMetX.of (by decide) (Nat.le_of_ble_eq_true rfl) ?_
  intro p e s m below meth c ls hx hb hr hml hown hlocks hin hl hsz hX hxt
  have hl : lv_has ls 2 [(0, .ref (Λ 0 0)), (1, .int x)] := hl
  obtain ⟨f1, ⟨m1, f2⟩, ⟨m2, f3⟩, f4, f5, f6, f7, ⟨t1, t2, t3, t4, f8⟩, ⟨u1, u2, u3, u4, u5, f9⟩, f10, f11⟩ := id hF
  obtain ⟨o1, o2, o3, o4, o5, o6, o7⟩ := id hO
  refine lv_bipush (v := nI 20) hx hb dX2_greatestWish_0 (by decide) ?_
  refine lv_aload_n hx hb dX2_greatestWish_2 rfl (lv_at hl 0 rfl) ?_
  refine lv_iload_n hx hb dX2_greatestWish_3 rfl (lv_at hl 1 rfl) ?_
  refine w_callX (w_runVX (n := 1) (As := [.int x]) (rest := [.int (nI 20)]) hx hb hml hown hX (c_X2_childAt l hlt g μ s.heap.size hF hO) kw137 kw1 kw134 kw136 kp0 wn_X2_childAt rfl f1 rfl ⟨Nat.le_of_ble_eq_true rfl, Nat.le_of_ble_eq_true rfl⟩ hl.1 rfl (Nat.le_of_ble_eq_true rfl) dX2_greatestWish_4 ⟨Nat.le_of_ble_eq_true rfl, Nat.le_of_ble_eq_true rfl⟩) hX (fun E ce q9 H locs hE hX hce hcv hcl => ?_) (fun r_3 μ_1 H locs q_2 hX hz => ?_)
  · skip
    exact w_out hxt hlocks hX (by first | exact hE | exact Or.inl hE | simp_all) hce hcv hcl ⟨Nat.le_of_ble_eq_true rfl, Nat.le_of_ble_eq_true rfl⟩
  obtain ⟨i, hi, hxe, rfl, e_4⟩ := q_2
  rw [e_4] at hX
  refine W.eq (g2 := F0 m 7 ls [.ref (Λ 8 i), .int (nI 20)]) rfl ?_
  have kc_5 := f7 i hi
  have kc_5b := o4 i hi
  have kw_6 := f6 (σ 8 i) kc_5b.1
  have kw_6b := o3 (σ 8 i) kc_5b.1
  refine w_call (w_runVN (n := 0) (As := []) (rest := [.int (nI 20)]) hx hb hml hown hX (c_X0_grainsAtHand l g μ H.size kc_5 kw_6 (by omega) (by omega) (by omega)) kw257 kw6 kw375 kw256 kp4 wn_X0_grainsAtHand rfl kc_5 rfl ⟨Nat.le_of_ble_eq_true rfl, Nat.le_of_ble_eq_true rfl⟩ hl.1 rfl (Nat.le_of_ble_eq_true rfl) dX2_greatestWish_7 ⟨Nat.le_of_ble_eq_true rfl, Nat.le_of_ble_eq_true rfl⟩) hX (fun r_9 μ_7 H locs q_8 hX hz => ?_)
  obtain ⟨q_11, e_10⟩ := q_8
  rw [e_10] at hX
  obtain ⟨rfl, hp⟩ | ⟨rfl, hp⟩ := q_11
  · skip
    refine W.eq (g2 := F0 m 10 ls [.int (nI 0), .int (nI 20)]) rfl ?_
    refine n_mmin hx hb (hml.trans hl.1.symm) hX hown kw376 kStMin kInMath kCdMin ⟨Nat.le_of_ble_eq_true rfl, Nat.le_of_ble_eq_true rfl⟩ ⟨Nat.le_of_ble_eq_true rfl, Nat.le_of_ble_eq_true rfl⟩ dX2_greatestWish_10 (nI_min (by omega) (by omega)) ?_
    exact vx_ret (w_iret hx hb hr hlocks hX ⟨i, hi, hxe, by rw [vGrt, if_pos hp]; rfl, rfl⟩ ⟨Nat.le_of_ble_eq_true rfl, Nat.le_of_ble_eq_true rfl⟩ dX2_greatestWish_13)
  · skip
    refine W.eq (g2 := F0 m 10 ls [.int (nI (σ 10 i + σ 7 (σ 8 i))), .int (nI 20)]) rfl ?_
    refine n_mmin hx hb (hml.trans hl.1.symm) hX hown kw376 kStMin kInMath kCdMin ⟨Nat.le_of_ble_eq_true rfl, Nat.le_of_ble_eq_true rfl⟩ ⟨Nat.le_of_ble_eq_true rfl, Nat.le_of_ble_eq_true rfl⟩ dX2_greatestWish_10 (nI_min (by omega) (by omega)) ?_
    exact vx_ret (w_iret hx hb hr hlocks hX ⟨i, hi, hxe, by rw [vGrt, if_neg (by omega)], rfl⟩ ⟨Nat.le_of_ble_eq_true rfl, Nat.le_of_ble_eq_true rfl⟩ dX2_greatestWish_13)

set_option maxHeartbeats 4000000 in
set_option maxRecDepth 100000 in
/-- an answer -/
theorem c_X2_dustIn_g (l : Launch) (g : wG) (μ : wMu) (zz : Nat) {Λ σ : sSt} {xv : Option Int64} (hF : fD g Λ xv σ μ) (hO : sOk σ) {i : Nat} (hi : i < σ 3 0) : wMet l yX2_dustIn cX2_dustIn 2 (some .int) 4 0 0 85 g [.ref (Λ 0 0), .int (nI i)] μ zz (fun r μ' => r = some (.int (nI (σ 7 i))) ∧ μ' = μ) := by
  refine wMet.of (by decide) (Nat.le_of_ble_eq_true rfl) ?_
  intro p e s m below meth c ls hx hb hr hml hown hlocks hin hl hsz hX
  have hl : lv_has ls 2 [(0, .ref (Λ 0 0)), (1, .int (nI i))] := hl
  obtain ⟨f1, ⟨m1, f2⟩, ⟨m2, f3⟩, f4, f5, f6, f7, ⟨t1, t2, t3, t4, f8⟩, ⟨u1, u2, u3, u4, u5, f9⟩, f10, f11⟩ := id hF
  obtain ⟨o1, o2, o3, o4, o5, o6, o7⟩ := id hO
  refine lv_aload_n hx hb dX2_dustIn_0 rfl (lv_at hl 0 rfl) ?_
  refine lv_iload_n hx hb dX2_dustIn_1 rfl (lv_at hl 1 rfl) ?_
  refine w_call (w_runV (n := 1) (As := [.int (nI i)]) (rest := []) hx hb hml hown hX (c_X2_wandAt_g l g μ s.heap.size hF hO hi) kw337 kw1 kw334 kw336 kp13 wn_X2_wandAt rfl f1 rfl ⟨Nat.le_of_ble_eq_true rfl, Nat.le_of_ble_eq_true rfl⟩ hl.1 rfl (Nat.le_of_ble_eq_true rfl) dX2_dustIn_2 ⟨Nat.le_of_ble_eq_true rfl, Nat.le_of_ble_eq_true rfl⟩) hX (fun r_3 μ_1 H locs q_2 hX hz => ?_)
  obtain ⟨rfl, e_4⟩ := q_2
  rw [e_4] at hX
  refine W.eq (g2 := F0 m 5 ls [.ref (Λ 7 i)]) rfl ?_
  have kw_5 := f6 i hi
  have kw_5b := o3 i hi
  refine gnX1_3 hx hb hX hown kw_5 kw67 dX2_dustIn_5 ?_
  exact w_iret hx hb hr hlocks hX ⟨rfl, rfl⟩ ⟨Nat.le_of_ble_eq_true rfl, Nat.le_of_ble_eq_true rfl⟩ dX2_dustIn_8

set_option maxHeartbeats 4000000 in
set_option maxRecDepth 100000 in
/-- an answer -/
theorem c_X2_wandOf_g (l : Launch) (g : wG) (μ : wMu) (zz : Nat) {Λ σ : sSt} {xv : Option Int64} (hF : fD g Λ xv σ μ) (hO : sOk σ) {i : Nat} (hi : i < σ 4 0) : wMet l yX2_wandOf cX2_wandOf 2 (some .int) 4 0 0 85 g [.ref (Λ 0 0), .int (nI i)] μ zz (fun r μ' => r = some (.int (nI (σ 8 i))) ∧ μ' = μ) := by
  refine wMet.of (by decide) (Nat.le_of_ble_eq_true rfl) ?_
  intro p e s m below meth c ls hx hb hr hml hown hlocks hin hl hsz hX
  have hl : lv_has ls 2 [(0, .ref (Λ 0 0)), (1, .int (nI i))] := hl
  obtain ⟨f1, ⟨m1, f2⟩, ⟨m2, f3⟩, f4, f5, f6, f7, ⟨t1, t2, t3, t4, f8⟩, ⟨u1, u2, u3, u4, u5, f9⟩, f10, f11⟩ := id hF
  obtain ⟨o1, o2, o3, o4, o5, o6, o7⟩ := id hO
  refine lv_aload_n hx hb dX2_wandOf_0 rfl (lv_at hl 0 rfl) ?_
  refine lv_iload_n hx hb dX2_wandOf_1 rfl (lv_at hl 1 rfl) ?_
  refine w_call (w_runV (n := 1) (As := [.int (nI i)]) (rest := []) hx hb hml hown hX (c_X2_childAt_g l g μ s.heap.size hF hO hi) kw137 kw1 kw134 kw136 kp0 wn_X2_childAt rfl f1 rfl ⟨Nat.le_of_ble_eq_true rfl, Nat.le_of_ble_eq_true rfl⟩ hl.1 rfl (Nat.le_of_ble_eq_true rfl) dX2_wandOf_2 ⟨Nat.le_of_ble_eq_true rfl, Nat.le_of_ble_eq_true rfl⟩) hX (fun r_3 μ_1 H locs q_2 hX hz => ?_)
  obtain ⟨rfl, e_4⟩ := q_2
  rw [e_4] at hX
  refine W.eq (g2 := F0 m 5 ls [.ref (Λ 8 i)]) rfl ?_
  have kc_5 := f7 i hi
  have kc_5b := o4 i hi
  have kw_6 := f6 (σ 8 i) kc_5b.1
  have kw_6b := o3 (σ 8 i) kc_5b.1
  refine gnX0_0 hx hb hX hown kc_5 kw84 dX2_wandOf_5 ?_
  refine gnX1_0 hx hb hX hown kw_6 kw61 dX2_wandOf_8 ?_
  exact w_iret hx hb hr hlocks hX ⟨rfl, rfl⟩ ⟨Nat.le_of_ble_eq_true rfl, Nat.le_of_ble_eq_true rfl⟩ dX2_wandOf_11

set_option maxHeartbeats 4000000 in
set_option maxRecDepth 100000 in
/-- an answer -/
theorem c_X2_burstOf_g (l : Launch) (g : wG) (μ : wMu) (zz : Nat) {Λ σ : sSt} {xv : Option Int64} (hF : fD g Λ xv σ μ) (hO : sOk σ) {i : Nat} (hi : i < σ 4 0) : wMet l yX2_burstOf cX2_burstOf 2 (some .int) 4 0 0 85 g [.ref (Λ 0 0), .int (nI i)] μ zz (fun r μ' => r = some (.int (nI (σ 10 i))) ∧ μ' = μ) := by
  refine wMet.of (by decide) (Nat.le_of_ble_eq_true rfl) ?_
  intro p e s m below meth c ls hx hb hr hml hown hlocks hin hl hsz hX
  have hl : lv_has ls 2 [(0, .ref (Λ 0 0)), (1, .int (nI i))] := hl
  obtain ⟨f1, ⟨m1, f2⟩, ⟨m2, f3⟩, f4, f5, f6, f7, ⟨t1, t2, t3, t4, f8⟩, ⟨u1, u2, u3, u4, u5, f9⟩, f10, f11⟩ := id hF
  obtain ⟨o1, o2, o3, o4, o5, o6, o7⟩ := id hO
  refine lv_aload_n hx hb dX2_burstOf_0 rfl (lv_at hl 0 rfl) ?_
  refine lv_iload_n hx hb dX2_burstOf_1 rfl (lv_at hl 1 rfl) ?_
  refine w_call (w_runV (n := 1) (As := [.int (nI i)]) (rest := []) hx hb hml hown hX (c_X2_childAt_g l g μ s.heap.size hF hO hi) kw137 kw1 kw134 kw136 kp0 wn_X2_childAt rfl f1 rfl ⟨Nat.le_of_ble_eq_true rfl, Nat.le_of_ble_eq_true rfl⟩ hl.1 rfl (Nat.le_of_ble_eq_true rfl) dX2_burstOf_2 ⟨Nat.le_of_ble_eq_true rfl, Nat.le_of_ble_eq_true rfl⟩) hX (fun r_3 μ_1 H locs q_2 hX hz => ?_)
  obtain ⟨rfl, e_4⟩ := q_2
  rw [e_4] at hX
  refine W.eq (g2 := F0 m 5 ls [.ref (Λ 8 i)]) rfl ?_
  have kc_5 := f7 i hi
  have kc_5b := o4 i hi
  have kw_6 := f6 (σ 8 i) kc_5b.1
  have kw_6b := o3 (σ 8 i) kc_5b.1
  refine gnX0_2 hx hb hX hown kc_5 kw88 dX2_burstOf_5 ?_
  exact w_iret hx hb hr hlocks hX ⟨rfl, rfl⟩ ⟨Nat.le_of_ble_eq_true rfl, Nat.le_of_ble_eq_true rfl⟩ dX2_burstOf_8

set_option maxHeartbeats 4000000 in
set_option maxRecDepth 100000 in
/-- an answer -/
theorem c_X2_punishedFor_g (l : Launch) (g : wG) (μ : wMu) (zz : Nat) {Λ σ : sSt} {xv : Option Int64} (hF : fD g Λ xv σ μ) (hO : sOk σ) {i : Nat} (hi : i < σ 4 0) : wMet l yX2_punishedFor cX2_punishedFor 2 (some .int) 4 0 0 85 g [.ref (Λ 0 0), .int (nI i)] μ zz (fun r μ' => r = some (.int (nI (σ 11 i))) ∧ μ' = μ) := by
  refine wMet.of (by decide) (Nat.le_of_ble_eq_true rfl) ?_
  intro p e s m below meth c ls hx hb hr hml hown hlocks hin hl hsz hX
  have hl : lv_has ls 2 [(0, .ref (Λ 0 0)), (1, .int (nI i))] := hl
  obtain ⟨f1, ⟨m1, f2⟩, ⟨m2, f3⟩, f4, f5, f6, f7, ⟨t1, t2, t3, t4, f8⟩, ⟨u1, u2, u3, u4, u5, f9⟩, f10, f11⟩ := id hF
  obtain ⟨o1, o2, o3, o4, o5, o6, o7⟩ := id hO
  refine lv_aload_n hx hb dX2_punishedFor_0 rfl (lv_at hl 0 rfl) ?_
  refine lv_iload_n hx hb dX2_punishedFor_1 rfl (lv_at hl 1 rfl) ?_
  refine w_call (w_runV (n := 1) (As := [.int (nI i)]) (rest := []) hx hb hml hown hX (c_X2_childAt_g l g μ s.heap.size hF hO hi) kw137 kw1 kw134 kw136 kp0 wn_X2_childAt rfl f1 rfl ⟨Nat.le_of_ble_eq_true rfl, Nat.le_of_ble_eq_true rfl⟩ hl.1 rfl (Nat.le_of_ble_eq_true rfl) dX2_punishedFor_2 ⟨Nat.le_of_ble_eq_true rfl, Nat.le_of_ble_eq_true rfl⟩) hX (fun r_3 μ_1 H locs q_2 hX hz => ?_)
  obtain ⟨rfl, e_4⟩ := q_2
  rw [e_4] at hX
  refine W.eq (g2 := F0 m 5 ls [.ref (Λ 8 i)]) rfl ?_
  have kc_5 := f7 i hi
  have kc_5b := o4 i hi
  have kw_6 := f6 (σ 8 i) kc_5b.1
  have kw_6b := o3 (σ 8 i) kc_5b.1
  refine gnX0_3 hx hb hX hown kc_5 kw90 dX2_punishedFor_5 ?_
  exact w_iret hx hb hr hlocks hX ⟨rfl, rfl⟩ ⟨Nat.le_of_ble_eq_true rfl, Nat.le_of_ble_eq_true rfl⟩ dX2_punishedFor_8

set_option maxHeartbeats 4000000 in
set_option maxRecDepth 100000 in
/-- an answer -/
theorem c_X2_marksOf_g (l : Launch) (g : wG) (μ : wMu) (zz : Nat) {Λ σ : sSt} {xv : Option Int64} (hF : fD g Λ xv σ μ) (hO : sOk σ) {i : Nat} (hi : i < σ 4 0) : wMet l yX2_marksOf cX2_marksOf 2 (some .int) 4 0 0 85 g [.ref (Λ 0 0), .int (nI i)] μ zz (fun r μ' => r = some (.int (nI (σ 12 i))) ∧ μ' = μ) := by
  refine wMet.of (by decide) (Nat.le_of_ble_eq_true rfl) ?_
  intro p e s m below meth c ls hx hb hr hml hown hlocks hin hl hsz hX
  have hl : lv_has ls 2 [(0, .ref (Λ 0 0)), (1, .int (nI i))] := hl
  obtain ⟨f1, ⟨m1, f2⟩, ⟨m2, f3⟩, f4, f5, f6, f7, ⟨t1, t2, t3, t4, f8⟩, ⟨u1, u2, u3, u4, u5, f9⟩, f10, f11⟩ := id hF
  obtain ⟨o1, o2, o3, o4, o5, o6, o7⟩ := id hO
  refine lv_aload_n hx hb dX2_marksOf_0 rfl (lv_at hl 0 rfl) ?_
  refine lv_iload_n hx hb dX2_marksOf_1 rfl (lv_at hl 1 rfl) ?_
  refine w_call (w_runV (n := 1) (As := [.int (nI i)]) (rest := []) hx hb hml hown hX (c_X2_childAt_g l g μ s.heap.size hF hO hi) kw137 kw1 kw134 kw136 kp0 wn_X2_childAt rfl f1 rfl ⟨Nat.le_of_ble_eq_true rfl, Nat.le_of_ble_eq_true rfl⟩ hl.1 rfl (Nat.le_of_ble_eq_true rfl) dX2_marksOf_2 ⟨Nat.le_of_ble_eq_true rfl, Nat.le_of_ble_eq_true rfl⟩) hX (fun r_3 μ_1 H locs q_2 hX hz => ?_)
  obtain ⟨rfl, e_4⟩ := q_2
  rw [e_4] at hX
  refine W.eq (g2 := F0 m 5 ls [.ref (Λ 8 i)]) rfl ?_
  have kc_5 := f7 i hi
  have kc_5b := o4 i hi
  have kw_6 := f6 (σ 8 i) kc_5b.1
  have kw_6b := o3 (σ 8 i) kc_5b.1
  refine gnX0_4 hx hb hX hown kc_5 kw92 dX2_marksOf_5 ?_
  exact w_iret hx hb hr hlocks hX ⟨rfl, rfl⟩ ⟨Nat.le_of_ble_eq_true rfl, Nat.le_of_ble_eq_true rfl⟩ dX2_marksOf_8

set_option maxHeartbeats 4000000 in
set_option maxRecDepth 100000 in
/-- an answer -/
theorem c_X2_nextPunishment_g (l : Launch) (g : wG) (μ : wMu) (zz : Nat) {Λ σ : sSt} {xv : Option Int64} (hF : fD g Λ xv σ μ) (hO : sOk σ) {i : Nat} (hi : i < σ 4 0) : wMet l yX2_nextPunishment cX2_nextPunishment 2 (some .int) 4 0 0 85 g [.ref (Λ 0 0), .int (nI i)] μ zz (fun r μ' => r = some (.int (nI (σ 13 i))) ∧ μ' = μ) := by
  refine wMet.of (by decide) (Nat.le_of_ble_eq_true rfl) ?_
  intro p e s m below meth c ls hx hb hr hml hown hlocks hin hl hsz hX
  have hl : lv_has ls 2 [(0, .ref (Λ 0 0)), (1, .int (nI i))] := hl
  obtain ⟨f1, ⟨m1, f2⟩, ⟨m2, f3⟩, f4, f5, f6, f7, ⟨t1, t2, t3, t4, f8⟩, ⟨u1, u2, u3, u4, u5, f9⟩, f10, f11⟩ := id hF
  obtain ⟨o1, o2, o3, o4, o5, o6, o7⟩ := id hO
  refine lv_aload_n hx hb dX2_nextPunishment_0 rfl (lv_at hl 0 rfl) ?_
  refine lv_iload_n hx hb dX2_nextPunishment_1 rfl (lv_at hl 1 rfl) ?_
  refine w_call (w_runV (n := 1) (As := [.int (nI i)]) (rest := []) hx hb hml hown hX (c_X2_childAt_g l g μ s.heap.size hF hO hi) kw137 kw1 kw134 kw136 kp0 wn_X2_childAt rfl f1 rfl ⟨Nat.le_of_ble_eq_true rfl, Nat.le_of_ble_eq_true rfl⟩ hl.1 rfl (Nat.le_of_ble_eq_true rfl) dX2_nextPunishment_2 ⟨Nat.le_of_ble_eq_true rfl, Nat.le_of_ble_eq_true rfl⟩) hX (fun r_3 μ_1 H locs q_2 hX hz => ?_)
  obtain ⟨rfl, e_4⟩ := q_2
  rw [e_4] at hX
  refine W.eq (g2 := F0 m 5 ls [.ref (Λ 8 i)]) rfl ?_
  have kc_5 := f7 i hi
  have kc_5b := o4 i hi
  have kw_6 := f6 (σ 8 i) kc_5b.1
  have kw_6b := o3 (σ 8 i) kc_5b.1
  refine gnX0_5 hx hb hX hown kc_5 kw94 dX2_nextPunishment_5 ?_
  exact w_iret hx hb hr hlocks hX ⟨rfl, rfl⟩ ⟨Nat.le_of_ble_eq_true rfl, Nat.le_of_ble_eq_true rfl⟩ dX2_nextPunishment_8

set_option maxHeartbeats 4000000 in
set_option maxRecDepth 100000 in
/-- an answer -/
theorem c_X2_daysToBirthday_g (l : Launch) (g : wG) (μ : wMu) (zz : Nat) {Λ σ : sSt} {xv : Option Int64} (hF : fD g Λ xv σ μ) (hO : sOk σ) {i : Nat} (hi : i < σ 4 0) : wMet l yX2_daysToBirthday cX2_daysToBirthday 2 (some .int) 4 0 0 85 g [.ref (Λ 0 0), .int (nI i)] μ zz (fun r μ' => r = some (.int (nI (vDay σ i))) ∧ μ' = μ) := by
  refine wMet.of (by decide) (Nat.le_of_ble_eq_true rfl) ?_
  intro p e s m below meth c ls hx hb hr hml hown hlocks hin hl hsz hX
  have hl : lv_has ls 2 [(0, .ref (Λ 0 0)), (1, .int (nI i))] := hl
  obtain ⟨f1, ⟨m1, f2⟩, ⟨m2, f3⟩, f4, f5, f6, f7, ⟨t1, t2, t3, t4, f8⟩, ⟨u1, u2, u3, u4, u5, f9⟩, f10, f11⟩ := id hF
  obtain ⟨o1, o2, o3, o4, o5, o6, o7⟩ := id hO
  refine lv_aload_n hx hb dX2_daysToBirthday_0 rfl (lv_at hl 0 rfl) ?_
  refine lv_iload_n hx hb dX2_daysToBirthday_1 rfl (lv_at hl 1 rfl) ?_
  refine w_call (w_runV (n := 1) (As := [.int (nI i)]) (rest := []) hx hb hml hown hX (c_X2_childAt_g l g μ s.heap.size hF hO hi) kw137 kw1 kw134 kw136 kp0 wn_X2_childAt rfl f1 rfl ⟨Nat.le_of_ble_eq_true rfl, Nat.le_of_ble_eq_true rfl⟩ hl.1 rfl (Nat.le_of_ble_eq_true rfl) dX2_daysToBirthday_2 ⟨Nat.le_of_ble_eq_true rfl, Nat.le_of_ble_eq_true rfl⟩) hX (fun r_3 μ_1 H locs q_2 hX hz => ?_)
  obtain ⟨rfl, e_4⟩ := q_2
  rw [e_4] at hX
  refine W.eq (g2 := F0 m 5 ls [.ref (Λ 8 i)]) rfl ?_
  have kc_5 := f7 i hi
  have kc_5b := o4 i hi
  have kw_6 := f6 (σ 8 i) kc_5b.1
  have kw_6b := o3 (σ 8 i) kc_5b.1
  refine gnX0_1 hx hb hX hown kc_5 kw86 dX2_daysToBirthday_5 ?_
  refine lv_aload_n hx hb dX2_daysToBirthday_8 rfl (lv_at hl 0 rfl) ?_
  refine w_call (w_runV (n := 0) (As := []) (rest := [.int (nI (σ 9 i))]) hx hb hml hown hX (c_X2_day l g μ H.size hF hO) kw308 kw1 kw367 kw306 kw307 wn_X2_day rfl f1 rfl ⟨Nat.le_of_ble_eq_true rfl, Nat.le_of_ble_eq_true rfl⟩ hl.1 rfl (Nat.le_of_ble_eq_true rfl) dX2_daysToBirthday_9 ⟨Nat.le_of_ble_eq_true rfl, Nat.le_of_ble_eq_true rfl⟩) hX (fun r_9 μ_7 H locs q_8 hX hz => ?_)
  obtain ⟨rfl, e_10⟩ := q_8
  rw [e_10] at hX
  refine W.eq (g2 := F0 m 12 ls [.int (nI (σ 0 0 / 24)), .int (nI (σ 9 i))]) rfl ?_
  refine n_isub hx hb dX2_daysToBirthday_12 rfl ?_
  refine lv_bipush (v := nI 30) hx hb dX2_daysToBirthday_13 (by decide) ?_
  refine w_call (w_runS (n := 2) (As := [.int ((nI (σ 9 i)) - (nI (σ 0 0 / 24))), .int (nI 30)]) (rest := []) hx hb hml hown hX (c_J9_floorMod_7cf53 l g μ H.size (by omega) (by omega)) kw370 kw14 kw368 kw369 wn_J9_floorMod_7cf53 rfl ⟨Nat.le_of_ble_eq_true rfl, Nat.le_of_ble_eq_true rfl⟩ hl.1 rfl (Nat.le_of_ble_eq_true rfl) dX2_daysToBirthday_15 ⟨Nat.le_of_ble_eq_true rfl, Nat.le_of_ble_eq_true rfl⟩) hX (fun r_13 μ_11 H locs q_12 hX hz => ?_)
  obtain ⟨rfl, e_14⟩ := q_12
  rw [e_14] at hX
  refine W.eq (g2 := F0 m 18 ls [.int (nI (vDay σ i))]) rfl ?_
  exact w_iret hx hb hr hlocks hX ⟨rfl, rfl⟩ ⟨Nat.le_of_ble_eq_true rfl, Nat.le_of_ble_eq_true rfl⟩ dX2_daysToBirthday_18

set_option maxHeartbeats 4000000 in
set_option maxRecDepth 100000 in
/-- an answer -/
theorem c_X2_greatestWish_g (l : Launch) (g : wG) (μ : wMu) (zz : Nat) {Λ σ : sSt} {xv : Option Int64} (hF : fD g Λ xv σ μ) (hO : sOk σ) {i : Nat} (hi : i < σ 4 0) : wMet l yX2_greatestWish cX2_greatestWish 2 (some .int) 4 0 0 85 g [.ref (Λ 0 0), .int (nI i)] μ zz (fun r μ' => r = some (.int (nI (vGrt σ i))) ∧ μ' = μ) := by
  refine wMet.of (by decide) (Nat.le_of_ble_eq_true rfl) ?_
  intro p e s m below meth c ls hx hb hr hml hown hlocks hin hl hsz hX
  have hl : lv_has ls 2 [(0, .ref (Λ 0 0)), (1, .int (nI i))] := hl
  obtain ⟨f1, ⟨m1, f2⟩, ⟨m2, f3⟩, f4, f5, f6, f7, ⟨t1, t2, t3, t4, f8⟩, ⟨u1, u2, u3, u4, u5, f9⟩, f10, f11⟩ := id hF
  obtain ⟨o1, o2, o3, o4, o5, o6, o7⟩ := id hO
  refine lv_bipush (v := nI 20) hx hb dX2_greatestWish_0 (by decide) ?_
  refine lv_aload_n hx hb dX2_greatestWish_2 rfl (lv_at hl 0 rfl) ?_
  refine lv_iload_n hx hb dX2_greatestWish_3 rfl (lv_at hl 1 rfl) ?_
  refine w_call (w_runV (n := 1) (As := [.int (nI i)]) (rest := [.int (nI 20)]) hx hb hml hown hX (c_X2_childAt_g l g μ s.heap.size hF hO hi) kw137 kw1 kw134 kw136 kp0 wn_X2_childAt rfl f1 rfl ⟨Nat.le_of_ble_eq_true rfl, Nat.le_of_ble_eq_true rfl⟩ hl.1 rfl (Nat.le_of_ble_eq_true rfl) dX2_greatestWish_4 ⟨Nat.le_of_ble_eq_true rfl, Nat.le_of_ble_eq_true rfl⟩) hX (fun r_3 μ_1 H locs q_2 hX hz => ?_)
  obtain ⟨rfl, e_4⟩ := q_2
  rw [e_4] at hX
  refine W.eq (g2 := F0 m 7 ls [.ref (Λ 8 i), .int (nI 20)]) rfl ?_
  have kc_5 := f7 i hi
  have kc_5b := o4 i hi
  have kw_6 := f6 (σ 8 i) kc_5b.1
  have kw_6b := o3 (σ 8 i) kc_5b.1
  refine w_call (w_runVN (n := 0) (As := []) (rest := [.int (nI 20)]) hx hb hml hown hX (c_X0_grainsAtHand l g μ H.size kc_5 kw_6 (by omega) (by omega) (by omega)) kw257 kw6 kw375 kw256 kp4 wn_X0_grainsAtHand rfl kc_5 rfl ⟨Nat.le_of_ble_eq_true rfl, Nat.le_of_ble_eq_true rfl⟩ hl.1 rfl (Nat.le_of_ble_eq_true rfl) dX2_greatestWish_7 ⟨Nat.le_of_ble_eq_true rfl, Nat.le_of_ble_eq_true rfl⟩) hX (fun r_9 μ_7 H locs q_8 hX hz => ?_)
  obtain ⟨q_11, e_10⟩ := q_8
  rw [e_10] at hX
  obtain ⟨rfl, hp⟩ | ⟨rfl, hp⟩ := q_11
  · skip
    refine W.eq (g2 := F0 m 10 ls [.int (nI 0), .int (nI 20)]) rfl ?_
    refine n_mmin hx hb (hml.trans hl.1.symm) hX hown kw376 kStMin kInMath kCdMin ⟨Nat.le_of_ble_eq_true rfl, Nat.le_of_ble_eq_true rfl⟩ ⟨Nat.le_of_ble_eq_true rfl, Nat.le_of_ble_eq_true rfl⟩ dX2_greatestWish_10 (nI_min (by omega) (by omega)) ?_
    exact w_iret hx hb hr hlocks hX ⟨by rw [vGrt, if_pos hp]; rfl, rfl⟩ ⟨Nat.le_of_ble_eq_true rfl, Nat.le_of_ble_eq_true rfl⟩ dX2_greatestWish_13
  · skip
    refine W.eq (g2 := F0 m 10 ls [.int (nI (σ 10 i + σ 7 (σ 8 i))), .int (nI 20)]) rfl ?_
    refine n_mmin hx hb (hml.trans hl.1.symm) hX hown kw376 kStMin kInMath kCdMin ⟨Nat.le_of_ble_eq_true rfl, Nat.le_of_ble_eq_true rfl⟩ ⟨Nat.le_of_ble_eq_true rfl, Nat.le_of_ble_eq_true rfl⟩ dX2_greatestWish_10 (nI_min (by omega) (by omega)) ?_
    exact w_iret hx hb hr hlocks hX ⟨by rw [vGrt, if_neg (by omega)], rfl⟩ ⟨Nat.le_of_ble_eq_true rfl, Nat.le_of_ble_eq_true rfl⟩ dX2_greatestWish_13

