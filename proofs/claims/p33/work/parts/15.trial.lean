/-! THE TRIAL -/
abbrev tW (n : Int32) (rm fl du : Nat) : va_E := .inr (2, [.int n, .int (nI rm), .int (nI fl), .int (nI du)])
abbrev tC (Λ : sSt) (bd bu he mr nx : Nat) : va_E := .inr (1, [.ref (Λ 5 0), .int (nI bd), .int (nI bu), .int (nI he), .int (nI mr), .int (nI nx)])
theorem fw_b {sz du bu he mr nx : Nat} (h1 : bu ≤ 12) (h2 : he ≤ 48) (h3 : mr ≤ 2) (h4 : nx ≤ 32) : fwD sz du bu he ≤ du ∧ fwB sz du bu he ≤ 12 ∧ fwH sz du bu he mr nx ≤ 48 ∧ fwM sz du bu he mr ≤ 2 ∧ fwN sz du bu he mr nx ≤ 32 := by
  refine ⟨?_, ?_, ?_, ?_, ?_⟩
  · unfold fwD; split <;> omega
  · unfold fwB; split <;> omega
  · unfold fwH; (repeat' split) <;> omega
  · unfold fwM; (repeat' split) <;> omega
  · unfold fwN; (repeat' split) <;> omega
theorem bstH_le {bd bu h : Nat} (h1 : bu ≤ 12) : bstH bd bu h ≤ 12 := by
  unfold bstH bstD; (repeat' split) <;> omega
theorem fwG_le (sz du bu he : Nat) : fwG sz du bu he ≤ 1 := by unfold fwG; split <;> omega
theorem bIn_0 (σ : sSt) (j : Nat) : bIn σ j 0 = σ 10 j := by simp [bIn]
theorem dIn_0 {σ : sSt} {i : Nat} (h : σ 7 i ≤ σ 5 i) : dIn σ i 0 = σ 7 i := by simp only [dIn, Nat.zero_mul, Nat.add_zero]; omega
theorem bIn_s (σ : sSt) (j k : Nat) : bstH (σ 9 j) (bIn σ j k) (σ 0 0 + k + 1) = bIn σ j (k + 1) := by
  unfold bstH bIn
  rw [show σ 0 0 + (k + 1) = σ 0 0 + k + 1 by omega]
  by_cases h : (σ 0 0 + k + 1) % 24 = 0
  · rw [if_pos h, if_neg (by omega)]
  · rw [if_neg h, show (σ 0 0 + k + 1) / 24 = (σ 0 0 + k) / 24 by omega]
theorem dIn_s (σ : sSt) (i k : Nat) : min (σ 5 i) (dIn σ i k + σ 6 i) = dIn σ i (k + 1) := by
  unfold dIn
  rw [Nat.succ_mul]
  omega
theorem bIn_le {σ : sSt} {j k : Nat} (h : σ 10 j ≤ 12) : bIn σ j k ≤ 12 := by
  unfold bIn bstD; (repeat' split) <;> omega
theorem dIn_le (σ : sSt) (i k : Nat) : dIn σ i k ≤ σ 5 i := by unfold dIn; omega
theorem dIn_ge {σ : sSt} {i k : Nat} (h : σ 7 i ≤ σ 5 i) : σ 7 i ≤ dIn σ i k := by unfold dIn; omega

set_option maxHeartbeats 4000000 in
set_option maxRecDepth 100000 in
/-- the trial takes over a child and its wand -/
theorem c_X2_beginTrial (l : Launch) (g : wG) (μ : wMu) (zz : Nat) {Λ σ : sSt} {xv : Option Int64} (hF : fD g Λ xv σ μ) (hO : sOk σ) {j : Nat} (hj : j < σ 4 0) : wMet l yX2_beginTrial cX2_beginTrial 2 none 1 0 0 21 g [.ref (Λ 0 0), .ref (Λ 8 j)] μ zz (fun r μ' => r = none ∧ fD g Λ xv σ μ' ∧ μ' (Λ 5 0) = some (cW σ (σ 8 j)) ∧ μ' (Λ 6 0) = some (tC Λ (σ 9 j) (σ 10 j) (σ 11 j) (σ 12 j) (σ 13 j))) := by
  refine wMet.of (by decide) (Nat.le_of_ble_eq_true rfl) ?_
  intro p e s m below meth c ls hx hb hr hml hown hlocks hin hl hsz hX
  have hl : lv_has ls 2 [(0, .ref (Λ 0 0)), (1, .ref (Λ 8 j))] := hl
  obtain ⟨f1, ⟨m1, f2⟩, ⟨m2, f3⟩, f4, f5, f6, f7, ⟨t1, t2, t3, t4, f8⟩, ⟨u1, u2, u3, u4, u5, f9⟩, f10, f11⟩ := id hF
  obtain ⟨o1, o2, o3, o4, o5, o6, o7⟩ := id hO
  have kc_1 := f7 j hj
  have kc_1b := o4 j hj
  have kw_2 := f6 (σ 8 j) kc_1b.1
  have kw_2b := o3 (σ 8 j) kc_1b.1
  refine lv_aload_n hx hb dX2_beginTrial_0 rfl (lv_at hl 0 rfl) ?_
  refine gX2_2 hx hb hX hown f1 kw110 dX2_beginTrial_1 ?_
  refine lv_aload_n hx hb dX2_beginTrial_4 rfl (lv_at hl 1 rfl) ?_
  refine gnX0_0 hx hb hX hown kc_1 kw84 dX2_beginTrial_5 ?_
  have n1 : Λ 7 (σ 8 j) ≠ Λ 5 0 := f10.2.2.2.2.1 _ kc_1b.1
  refine w_call (w_runVN (n := 1) (As := [.ref (Λ 7 (σ 8 j))]) (rest := []) hx hb hml hown hX (c_X1_copyFrom l g μ s.heap.size f8 kw_2 n1) kw388 kw5 kw385 kw387 kp15 wn_X1_copyFrom rfl f8 rfl ⟨Nat.le_of_ble_eq_true rfl, Nat.le_of_ble_eq_true rfl⟩ hl.1 rfl (Nat.le_of_ble_eq_true rfl) dX2_beginTrial_8 ⟨Nat.le_of_ble_eq_true rfl, Nat.le_of_ble_eq_true rfl⟩) hX (fun r_5 μ_3 H locs q_4 hX hz => ?_)
  obtain ⟨rfl, k1, k2⟩ := q_4
  have kk_6 := (k2 _ (kd_ne f1 f8 rfl)).trans f1
  have kk_7 := (k2 _ (kd_ne f9 f8 rfl)).trans f9
  have kk_8 := (k2 _ (kd_ne kc_1 f8 rfl)).trans kc_1
  refine W.eq (g2 := F0 m 11 ls []) rfl ?_
  refine lv_aload_n hx hb dX2_beginTrial_11 rfl (lv_at hl 0 rfl) ?_
  refine gX2_3 hx hb hX hown kk_6 kw111 dX2_beginTrial_12 ?_
  refine lv_aload_n hx hb dX2_beginTrial_15 rfl (lv_at hl 1 rfl) ?_
  refine w_call (w_runVN (n := 1) (As := [.ref (Λ 8 j)]) (rest := []) hx hb hml hown hX (c_X0_copyFrom l g μ_3 H.size kk_7 kk_8 (f10.2.2.2.2.2 j hj)) kw392 kw6 kw389 kw391 kp16 wn_X0_copyFrom rfl kk_7 rfl ⟨Nat.le_of_ble_eq_true rfl, Nat.le_of_ble_eq_true rfl⟩ hl.1 rfl (Nat.le_of_ble_eq_true rfl) dX2_beginTrial_16 ⟨Nat.le_of_ble_eq_true rfl, Nat.le_of_ble_eq_true rfl⟩) hX (fun r_11 μ_9 H locs q_10 hX hz => ?_)
  obtain ⟨rfl, k3, k4⟩ := q_10
  refine W.eq (g2 := F0 m 19 ls []) rfl ?_
  exact w_vret hx hb hr hlocks hX ⟨rfl, hF.t1 ⟨_, _, _, _, (k4 _ (kd_ne f8 f9 rfl)).trans k1⟩ ⟨_, _, _, _, _, k3⟩ (fun q n1 n2 => (k4 q n2).trans (k2 q n1)), (k4 _ (kd_ne f8 f9 rfl)).trans k1, k3⟩ ⟨Nat.le_of_ble_eq_true rfl, Nat.le_of_ble_eq_true rfl⟩ dX2_beginTrial_19

set_option maxHeartbeats 4000000 in
set_option maxRecDepth 100000 in
/-- an hour of the trial -/
theorem c_X2_passTrialHour (l : Launch) (g : wG) (μ : wMu) (zz : Nat) {Λ σ : sSt} {xv : Option Int64} (hF : fD g Λ xv σ μ) (hO : sOk σ) {tn : Int32} {rm fl du bd bu he mr nx : Nat} (ht : μ (Λ 5 0) = some (tW tn rm fl du)) (hc : μ (Λ 6 0) = some (tC Λ bd bu he mr nx)) (b1 : bu ≤ 12) (b2 : he ≤ 48) (b3 : mr ≤ 2) (b4 : nx ≤ 32) (b5 : du ≤ rm) (b6 : rm ≤ 60) (b7 : fl ≤ 20) (b9 : bd ≤ 29) {b : Nat} (b10 : b ≤ 100) : wMet l yX2_passTrialHour cX2_passTrialHour 2 none 2 0 0 42 g [.ref (Λ 0 0), .int (nI b)] μ zz (fun r μ' => r = none ∧ fD g Λ xv σ μ' ∧ μ' (Λ 5 0) = some (tW tn rm fl (min rm (du + fl))) ∧ μ' (Λ 6 0) = some (tC Λ bd (bstH bd bu (σ 0 0 + b + 1)) (he - 1) mr nx)) := by
  refine wMet.of (by decide) (Nat.le_of_ble_eq_true rfl) ?_
  intro p e s m below meth c ls hx hb hr hml hown hlocks hin hl hsz hX
  have hl : lv_has ls 2 [(0, .ref (Λ 0 0)), (1, .int (nI b))] := hl
  obtain ⟨f1, ⟨m1, f2⟩, ⟨m2, f3⟩, f4, f5, f6, f7, ⟨t1, t2, t3, t4, f8⟩, ⟨u1, u2, u3, u4, u5, f9⟩, f10, f11⟩ := id hF
  obtain ⟨o1, o2, o3, o4, o5, o6, o7⟩ := id hO
  refine lv_aload_n hx hb dX2_passTrialHour_0 rfl (lv_at hl 0 rfl) ?_
  refine gX2_2 hx hb hX hown f1 kw110 dX2_passTrialHour_1 ?_
  refine w_call (w_runVN (n := 0) (As := []) (rest := []) hx hb hml hown hX (c_X1_letFall l g μ s.heap.size ht b5 b6 b7) kw291 kw5 kw288 kw290 kp10 wn_X1_letFall rfl ht rfl ⟨Nat.le_of_ble_eq_true rfl, Nat.le_of_ble_eq_true rfl⟩ hl.1 rfl (Nat.le_of_ble_eq_true rfl) dX2_passTrialHour_4 ⟨Nat.le_of_ble_eq_true rfl, Nat.le_of_ble_eq_true rfl⟩) hX (fun r_3 μ_1 H locs q_2 hX hz => ?_)
  obtain ⟨rfl, k1, k2⟩ := q_2
  have kx := (k2 _ (kd_ne f1 ht rfl)).trans f1
  have kt := (k2 _ (kd_ne hc ht rfl)).trans hc
  refine W.eq (g2 := F0 m 7 ls [.int (nI (min fl (rm - du)))]) rfl ?_
  refine lv_pop hx hb dX2_passTrialHour_7 rfl ?_
  refine lv_aload_n hx hb dX2_passTrialHour_8 rfl (lv_at hl 0 rfl) ?_
  refine gX2_3 hx hb hX hown kx kw111 dX2_passTrialHour_9 ?_
  refine lv_aload_n hx hb dX2_passTrialHour_12 rfl (lv_at hl 0 rfl) ?_
  refine gX2_4 hx hb hX hown kx kw112 dX2_passTrialHour_13 ?_
  refine lv_iload_n hx hb dX2_passTrialHour_16 rfl (lv_at hl 1 rfl) ?_
  refine n_iadd hx hb dX2_passTrialHour_17 (nI_add _ _) ?_
  refine lv_iconst (v := nI 1) hx hb dX2_passTrialHour_18 (by decide) ?_
  refine n_iadd hx hb dX2_passTrialHour_19 (nI_add _ _) ?_
  refine w_call (w_runVN (n := 1) (As := [.int (nI (((σ 0 0) + b) + 1))]) (rest := []) hx hb hml hown hX (c_X0_liveTo l g μ_1 H.size kt b2 b9 (by omega)) kw296 kw6 kw293 kw295 kp11 wn_X0_liveTo rfl kt rfl ⟨Nat.le_of_ble_eq_true rfl, Nat.le_of_ble_eq_true rfl⟩ hl.1 rfl (Nat.le_of_ble_eq_true rfl) dX2_passTrialHour_20 ⟨Nat.le_of_ble_eq_true rfl, Nat.le_of_ble_eq_true rfl⟩) hX (fun r_6 μ_4 H locs q_5 hX hz => ?_)
  obtain ⟨rfl, k3, k4⟩ := q_5
  refine W.eq (g2 := F0 m 23 ls []) rfl ?_
  have ku := (k4 _ (kd_ne ht hc rfl)).trans k1
  rw [show du + min fl (rm - du) = min rm (du + fl) by omega] at ku
  exact w_vret hx hb hr hlocks hX ⟨rfl, hF.t1 ⟨_, _, _, _, ku⟩ ⟨_, _, _, _, _, k3⟩ (fun q n1 n2 => (k4 q n2).trans (k2 q n1)), ku, k3⟩ ⟨Nat.le_of_ble_eq_true rfl, Nat.le_of_ble_eq_true rfl⟩ dX2_passTrialHour_23

set_option maxHeartbeats 4000000 in
set_option maxRecDepth 100000 in
/-- so many wishes in a row -/
theorem c_X2_tryWishes (l : Launch) (g : wG) (μ : wMu) (zz : Nat) {Λ σ : sSt} {xv : Option Int64} (hF : fD g Λ xv σ μ) (hO : sOk σ) {tn : Int32} {rm fl d0 bd b0 h0 m0 x0 : Nat} (ht : μ (Λ 5 0) = some (tW tn rm fl d0)) (hc : μ (Λ 6 0) = some (tC Λ bd b0 h0 m0 x0)) (b1 : b0 ≤ 12) (b2 : h0 ≤ 48) (b3 : m0 ≤ 2) (b4 : x0 ≤ 32) (b5 : d0 ≤ rm) (b6 : rm ≤ 60) (b7 : fl ≤ 20) (b9 : bd ≤ 29) {sz nn : Nat} (h1 : 1 ≤ sz) (h2 : sz ≤ 20) (h3 : nn ≤ 100) : wMet l yX2_tryWishes cX2_tryWishes 5 (some .int) 4 0 0 85 g [.ref (Λ 0 0), .int (nI sz), .int (nI nn)] μ zz (fun r μ' => r = some (.int (nI (twc sz rm fl bd (σ 0 0) nn 0 d0 b0 h0 m0 x0))) ∧ fD g Λ xv σ μ') := by
  refine wMet.of (by decide) (Nat.le_of_ble_eq_true rfl) ?_
  intro p e s m below meth c ls hx hb hr hml hown hlocks hin hl hsz hX
  have hl : lv_has ls 5 [(0, .ref (Λ 0 0)), (1, .int (nI sz)), (2, .int (nI nn))] := hl
  obtain ⟨f1, ⟨m1, f2⟩, ⟨m2, f3⟩, f4, f5, f6, f7, ⟨t1, t2, t3, t4, f8⟩, ⟨u1, u2, u3, u4, u5, f9⟩, f10, f11⟩ := id hF
  obtain ⟨o1, o2, o3, o4, o5, o6, o7⟩ := id hO
  refine lv_iconst (v := nI 0) hx hb dX2_tryWishes_0 (by decide) ?_
  refine lv_istore_n (lv' := [(3, .int (nI 0)), (0, .ref (Λ 0 0)), (1, .int (nI sz)), (2, .int (nI nn))]) hx hb dX2_tryWishes_1 rfl hl (by decide) rfl (fun ls hl => ?_)
  refine lv_iconst (v := nI 0) hx hb dX2_tryWishes_2 (by decide) ?_
  refine lv_istore (lv' := [(4, .int (nI 0)), (3, .int (nI 0)), (0, .ref (Λ 0 0)), (1, .int (nI sz)), (2, .int (nI nn))]) hx hb dX2_tryWishes_3 hl (by decide) rfl (fun ls hl => ?_)
  have hloop : ∀ (n : Nat) (i cn du bu he mr nx : Nat) (ν : wMu) (H : Heap) (locs : List Loc) (ls : Array Slot), nn < i + n → i ≤ nn → cn ≤ i → cn + twc sz rm fl bd (σ 0 0) (nn - i) i du bu he mr nx = twc sz rm fl bd (σ 0 0) nn 0 d0 b0 h0 m0 x0 → fD g Λ xv σ ν → ν (Λ 5 0) = some (tW tn rm fl du) → ν (Λ 6 0) = some (tC Λ bd bu he mr nx) → bu ≤ 12 → he ≤ 48 → mr ≤ 2 → nx ≤ 32 → du ≤ rm → wX g (wA μ zz) s H locs ν → lv_has ls 5 [(4, .int (nI i)), (3, .int (nI cn)), (0, .ref (Λ 0 0)), (1, .int (nI sz)), (2, .int (nI nn))] → W p l e ({ frames := 4, cells := 0, slots := 0, locals := 85 } : Room) s m ([.ref (Λ 0 0), .int (nI sz), .int (nI nn)] : List Value).toArray below meth c H locs 0 0 (MQ below (wQc g μ zz (fun r μ' => r = some (.int (nI (twc sz rm fl bd (σ 0 0) nn 0 d0 b0 h0 m0 x0))) ∧ fD g Λ xv σ μ')) ([.ref (Λ 0 0), .int (nI sz), .int (nI nn)] : List Value).toArray s 0 0 (wA μ zz)) (F0 m 5 ls []) := by
    intro n
    induction n with
    | zero => intro i cn du bu he mr nx ν H locs ls hn hi hcn htot hF ht hc b1 b2 b3 b4 b5 hX hl; exact absurd hn (by omega)
    | succ n ih =>
      intro i cn du bu he mr nx ν H locs ls hn hi hcn htot hF ht hc b1 b2 b3 b4 b5 hX hl
      obtain ⟨f1, ⟨m1, f2⟩, ⟨m2, f3⟩, f4, f5, f6, f7, ⟨t1, t2, t3, t4, f8⟩, ⟨u1, u2, u3, u4, u5, f9⟩, f10, f11⟩ := id hF
      refine lv_iload hx hb dX2_tryWishes_5 (lv_at hl 0 rfl) ?_
      refine lv_iload_n hx hb dX2_tryWishes_7 rfl (lv_at hl 4 rfl) ?_
      refine n_ge (tgt := 37) hx hb (by omega) (by omega) dX2_tryWishes_8 (by decide) (fun c_1 => ?_) (fun c_1 => ?_)
      · skip
        refine lv_iload_n hx hb dX2_tryWishes_37 rfl (lv_at hl 1 rfl) ?_
        rw [show nn - i = 0 by omega] at htot
        exact w_iret hx hb hr hlocks hX ⟨by rw [← htot]; rfl, hF⟩ ⟨Nat.le_of_ble_eq_true rfl, Nat.le_of_ble_eq_true rfl⟩ dX2_tryWishes_38
      · skip
        refine lv_aload_n hx hb dX2_tryWishes_11 rfl (lv_at hl 2 rfl) ?_
        refine gX2_3 hx hb hX hown f1 kw111 dX2_tryWishes_12 ?_
        refine lv_iload_n hx hb dX2_tryWishes_15 rfl (lv_at hl 3 rfl) ?_
        refine w_call (w_runVN (n := 1) (As := [.int (nI sz)]) (rest := []) hx hb hml hown hX (c_X0_makeWish l g ν H.size hc ht (kd_ne hc ht rfl) b1 b2 b3 b4 (by omega) h1 h2) kw249 kw6 kw246 kw248 kp2 wn_X0_makeWish rfl hc rfl ⟨Nat.le_of_ble_eq_true rfl, Nat.le_of_ble_eq_true rfl⟩ hl.1 rfl (Nat.le_of_ble_eq_true rfl) dX2_tryWishes_16 ⟨Nat.le_of_ble_eq_true rfl, Nat.le_of_ble_eq_true rfl⟩) hX (fun r_4 μ_2 H locs q_3 hX hz => ?_)
        obtain ⟨rfl, k1, k2, k3⟩ := q_3
        have hF2 : fD g Λ xv σ μ_2 := hF.t1 ⟨_, _, _, _, k2⟩ ⟨_, _, _, _, _, k1⟩ (fun q n1 n2 => k3 q n2 n1)
        have hg := fwG_le sz du bu he
        obtain ⟨c1, c2, c3, c4, c5⟩ := fw_b (sz := sz) (du := du) b1 b2 b3 b4
        refine W.eq (g2 := F0 m 19 ls [.int (nI (fwG sz du bu he))]) rfl ?_
        refine n_if_eq (tgt := 25) hx hb (by omega) dX2_tryWishes_19 (by decide) (fun c_5 => ?_) (fun c_5 => ?_)
        · skip
          refine lv_aload_n hx hb dX2_tryWishes_25 rfl (lv_at hl 2 rfl) ?_
          refine lv_iload hx hb dX2_tryWishes_26 (lv_at hl 0 rfl) ?_
          refine w_call (w_runV (n := 1) (As := [.int (nI i)]) (rest := []) hx hb hml hown hX (c_X2_passTrialHour l g μ_2 H.size hF2 hO k2 k1 c2 c3 c4 c5 (by omega) b6 b7 b9 (by omega)) kw397 kw1 kw394 kw396 kp17 wn_X2_passTrialHour rfl (k3 _ (kd_ne f1 hc rfl) (kd_ne f1 ht rfl) |>.trans f1) rfl ⟨Nat.le_of_ble_eq_true rfl, Nat.le_of_ble_eq_true rfl⟩ hl.1 rfl (Nat.le_of_ble_eq_true rfl) dX2_tryWishes_28 ⟨Nat.le_of_ble_eq_true rfl, Nat.le_of_ble_eq_true rfl⟩) hX (fun r_8 μ_6 H locs q_7 hX hz => ?_)
          obtain ⟨rfl, k4, k5, k6⟩ := q_7
          refine W.eq (g2 := F0 m 31 ls []) rfl ?_
          refine lv_iinc (v := nI (i + 1)) (lv' := [(4, .int (nI (i + 1))), (3, .int (nI cn)), (0, .ref (Λ 0 0)), (1, .int (nI sz)), (2, .int (nI nn))]) hx hb dX2_tryWishes_31 hl (k := 0) rfl (nI_inc _) (by decide) rfl (fun ls hl => ?_)
          refine lv_goto (tgt := 5) hx hb dX2_tryWishes_34 (by decide) ?_
          have hstep : twc sz rm fl bd (σ 0 0) (nn - i) i du bu he mr nx = fwG sz du bu he + twc sz rm fl bd (σ 0 0) (nn - (i + 1)) (i + 1) (min rm (fwD sz du bu he + fl)) (bstH bd (fwB sz du bu he) (σ 0 0 + i + 1)) (fwH sz du bu he mr nx - 1) (fwM sz du bu he mr) (fwN sz du bu he mr nx) := by
            rw [show nn - i = (nn - (i + 1)) + 1 by omega]; rfl
          refine ih (i + 1) (cn) _ _ _ _ _ _ H locs ls (by omega) (by omega) (by omega) (by omega) k4 k5 k6 (bstH_le c2) (by omega) c4 c5 (by omega) hX ?_
          exact lv_sub hl [0, 1, 2, 3, 4] rfl
        · skip
          refine lv_iinc (v := nI (cn + 1)) (lv' := [(3, .int (nI (cn + 1))), (4, .int (nI i)), (0, .ref (Λ 0 0)), (1, .int (nI sz)), (2, .int (nI nn))]) hx hb dX2_tryWishes_22 hl (k := 1) rfl (nI_inc _) (by decide) rfl (fun ls hl => ?_)
          refine lv_aload_n hx hb dX2_tryWishes_25 rfl (lv_at hl 2 rfl) ?_
          refine lv_iload hx hb dX2_tryWishes_26 (lv_at hl 1 rfl) ?_
          refine w_call (w_runV (n := 1) (As := [.int (nI i)]) (rest := []) hx hb hml hown hX (c_X2_passTrialHour l g μ_2 H.size hF2 hO k2 k1 c2 c3 c4 c5 (by omega) b6 b7 b9 (by omega)) kw397 kw1 kw394 kw396 kp17 wn_X2_passTrialHour rfl (k3 _ (kd_ne f1 hc rfl) (kd_ne f1 ht rfl) |>.trans f1) rfl ⟨Nat.le_of_ble_eq_true rfl, Nat.le_of_ble_eq_true rfl⟩ hl.1 rfl (Nat.le_of_ble_eq_true rfl) dX2_tryWishes_28 ⟨Nat.le_of_ble_eq_true rfl, Nat.le_of_ble_eq_true rfl⟩) hX (fun r_11 μ_9 H locs q_10 hX hz => ?_)
          obtain ⟨rfl, k4, k5, k6⟩ := q_10
          refine W.eq (g2 := F0 m 31 ls []) rfl ?_
          refine lv_iinc (v := nI (i + 1)) (lv' := [(4, .int (nI (i + 1))), (3, .int (nI (cn + 1))), (0, .ref (Λ 0 0)), (1, .int (nI sz)), (2, .int (nI nn))]) hx hb dX2_tryWishes_31 hl (k := 1) rfl (nI_inc _) (by decide) rfl (fun ls hl => ?_)
          refine lv_goto (tgt := 5) hx hb dX2_tryWishes_34 (by decide) ?_
          have hstep : twc sz rm fl bd (σ 0 0) (nn - i) i du bu he mr nx = fwG sz du bu he + twc sz rm fl bd (σ 0 0) (nn - (i + 1)) (i + 1) (min rm (fwD sz du bu he + fl)) (bstH bd (fwB sz du bu he) (σ 0 0 + i + 1)) (fwH sz du bu he mr nx - 1) (fwM sz du bu he mr) (fwN sz du bu he mr nx) := by
            rw [show nn - i = (nn - (i + 1)) + 1 by omega]; rfl
          refine ih (i + 1) (cn + 1) _ _ _ _ _ _ H locs ls (by omega) (by omega) (by omega) (by omega) k4 k5 k6 (bstH_le c2) (by omega) c4 c5 (by omega) hX ?_
          exact lv_sub hl [0, 1, 2, 3, 4] rfl
  exact hloop (nn + 1) 0 0 d0 b0 h0 m0 x0 μ s.heap [] ls (by omega) (by omega) (Nat.le_refl 0) (by rw [Nat.zero_add, Nat.sub_zero]) hF ht hc b1 b2 b3 b4 b5 hX hl

set_option maxHeartbeats 4000000 in
set_option maxRecDepth 100000 in
/-- when a wish would be granted -/
theorem c_X2_hoursUntil (l : Launch) (hlt : l.stackTraces = false) (g : wG) (μ : wMu) (zz : Nat) {Λ σ : sSt} {xv : Option Int64} (hF : fD g Λ xv σ μ) (hO : sOk σ) {x x2 : Int32} : wMetX l yX2_hoursUntil cX2_hoursUntil 5 (some .int) 8 2 12 132 g [.ref (Λ 0 0), .int x, .int x2] μ zz (fun r μ' => ∃ i sz, i < σ 4 0 ∧ 1 ≤ sz ∧ sz ≤ 20 ∧ x = nI i ∧ x2 = nI sz ∧ r = some (.int (utl σ i sz 101 0)) ∧ fD g Λ xv σ μ') (fun E => (E = xIOB ∧ ¬ isX x (σ 4 0)) ∨ (E = xIAE ∧ isX x (σ 4 0) ∧ ¬ isI x2 1 20)) := by
  refine wMetX.of (by decide) (Nat.le_of_ble_eq_true rfl) ?_
  intro p e s m below meth c ls hx hb hr hml hown hlocks hin hl hsz hX hxt
  have hl : lv_has ls 5 [(0, .ref (Λ 0 0)), (1, .int x), (2, .int x2)] := hl
  obtain ⟨f1, ⟨m1, f2⟩, ⟨m2, f3⟩, f4, f5, f6, f7, ⟨t1, t2, t3, t4, f8⟩, ⟨u1, u2, u3, u4, u5, f9⟩, f10, f11⟩ := id hF
  obtain ⟨o1, o2, o3, o4, o5, o6, o7⟩ := id hO
  refine lv_aload_n hx hb dX2_hoursUntil_0 rfl (lv_at hl 0 rfl) ?_
  refine lv_iload_n hx hb dX2_hoursUntil_1 rfl (lv_at hl 1 rfl) ?_
  refine w_callX (w_runVX (n := 1) (As := [.int x]) (rest := []) hx hb hml hown hX (c_X2_childAt l hlt g μ s.heap.size hF hO) kw137 kw1 kw134 kw136 kp0 wn_X2_childAt rfl f1 rfl ⟨Nat.le_of_ble_eq_true rfl, Nat.le_of_ble_eq_true rfl⟩ hl.1 rfl (Nat.le_of_ble_eq_true rfl) dX2_hoursUntil_2 ⟨Nat.le_of_ble_eq_true rfl, Nat.le_of_ble_eq_true rfl⟩) hX (fun E ce q9 H locs hE hX hce hcv hcl => ?_) (fun r_3 μ_1 H locs q_2 hX hz => ?_)
  · skip
    exact w_out hxt hlocks hX (Or.inl hE) hce hcv hcl ⟨Nat.le_of_ble_eq_true rfl, Nat.le_of_ble_eq_true rfl⟩
  obtain ⟨i, hi, hxe, rfl, e_4⟩ := q_2
  rw [e_4] at hX
  refine W.eq (g2 := F0 m 5 ls [.ref (Λ 8 i)]) rfl ?_
  have kc_5 := f7 i hi
  have kc_5b := o4 i hi
  have kw_6 := f6 (σ 8 i) kc_5b.1
  have kw_6b := o3 (σ 8 i) kc_5b.1
  refine lv_astore_n (lv' := [(3, .ref (Λ 8 i)), (0, .ref (Λ 0 0)), (1, .int x), (2, .int x2)]) hx hb dX2_hoursUntil_5 rfl hl (by decide) rfl (fun ls hl => ?_)
  refine lv_iload_n hx hb dX2_hoursUntil_6 rfl (lv_at hl 3 rfl) ?_
  refine w_callX (w_runSX (n := 1) (As := [.int x2]) (rest := []) hx hb hml hown hX (c_X2_needSize l hlt g μ H.size) kw226 kw1 kw224 kw225 wn_X2_needSize rfl ⟨Nat.le_of_ble_eq_true rfl, Nat.le_of_ble_eq_true rfl⟩ hl.1 rfl (Nat.le_of_ble_eq_true rfl) dX2_hoursUntil_7 ⟨Nat.le_of_ble_eq_true rfl, Nat.le_of_ble_eq_true rfl⟩) hX (fun E ce q9 H locs hE hX hce hcv hcl => ?_) (fun r_9 μ_7 H locs q_8 hX hz => ?_)
  · skip
    exact w_out hxt hlocks hX (Or.inr ⟨hE.1, (by rw [hxe]; exact (isX_nI (by omega)).mpr hi), hE.2⟩) hce hcv hcl ⟨Nat.le_of_ble_eq_true rfl, Nat.le_of_ble_eq_true rfl⟩
  obtain ⟨sz, h1, h2, hse, rfl, e_10⟩ := q_8
  rw [e_10] at hX
  refine W.eq (g2 := F0 m 10 ls []) rfl ?_
  rw [hse] at hl
  refine lv_aload_n hx hb dX2_hoursUntil_10 rfl (lv_at hl 1 rfl) ?_
  refine lv_aload_n hx hb dX2_hoursUntil_11 rfl (lv_at hl 0 rfl) ?_
  refine w_call (w_runV (n := 1) (As := [.ref (Λ 8 i)]) (rest := []) hx hb hml hown hX (c_X2_beginTrial l g μ H.size hF hO hi) kw384 kw1 kw381 kw383 kp14 wn_X2_beginTrial rfl f1 rfl ⟨Nat.le_of_ble_eq_true rfl, Nat.le_of_ble_eq_true rfl⟩ hl.1 rfl (Nat.le_of_ble_eq_true rfl) dX2_hoursUntil_12 ⟨Nat.le_of_ble_eq_true rfl, Nat.le_of_ble_eq_true rfl⟩) hX (fun r_13 μ_11 H locs q_12 hX hz => ?_)
  obtain ⟨rfl, hF2, ht, hc⟩ := q_12
  refine W.eq (g2 := F0 m 15 ls []) rfl ?_
  refine lv_iconst (v := nI 0) hx hb dX2_hoursUntil_15 (by decide) ?_
  refine lv_istore (lv' := [(4, .int (nI 0)), (3, .ref (Λ 8 i)), (0, .ref (Λ 0 0)), (1, .int x), (2, .int (nI sz))]) hx hb dX2_hoursUntil_16 hl (by decide) rfl (fun ls hl => ?_)
  rw [show cW σ (σ 8 i) = tW (nI (σ 8 i)) (σ 5 (σ 8 i)) (σ 6 (σ 8 i)) (dIn σ (σ 8 i) 0) by rw [dIn_0 (by omega)]] at ht
  rw [show tC Λ (σ 9 i) (σ 10 i) (σ 11 i) (σ 12 i) (σ 13 i) = tC Λ (σ 9 i) (bIn σ i 0) (σ 11 i - 0) (σ 12 i) (σ 13 i) by rw [bIn_0, Nat.sub_zero]] at hc
  have hloop : ∀ (n : Nat) (k : Nat) (ν : wMu) (H : Heap) (locs : List Loc) (ls : Array Slot), 101 < k + n → k ≤ 101 → utl σ i sz (101 - k) k = utl σ i sz 101 0 → fD g Λ xv σ ν → ν (Λ 5 0) = some (tW (nI (σ 8 i)) (σ 5 (σ 8 i)) (σ 6 (σ 8 i)) (dIn σ (σ 8 i) k)) → ν (Λ 6 0) = some (tC Λ (σ 9 i) (bIn σ i k) (σ 11 i - k) (σ 12 i) (σ 13 i)) → wX g (wA μ zz) s H locs ν → lv_has ls 5 [(4, .int (nI k)), (3, .ref (Λ 8 i)), (0, .ref (Λ 0 0)), (1, .int x), (2, .int (nI sz))] → W p l e ({ frames := 8, cells := 2, slots := 12, locals := 132 } : Room) s m ([.ref (Λ 0 0), .int x, .int x2] : List Value).toArray below meth c H locs 2 12 (vx_MQ below (wQc g μ zz (fun r μ' => ∃ i sz, i < σ 4 0 ∧ 1 ≤ sz ∧ sz ≤ 20 ∧ x = nI i ∧ x2 = nI sz ∧ r = some (.int (utl σ i sz 101 0)) ∧ fD g Λ xv σ μ')) (wXc g μ zz (fun E => (E = xIOB ∧ ¬ isX x (σ 4 0)) ∨ (E = xIAE ∧ isX x (σ 4 0) ∧ ¬ isI x2 1 20))) ([.ref (Λ 0 0), .int x, .int x2] : List Value).toArray s 2 12 (wA μ zz)) (F0 m 18 ls []) := by
    intro n
    induction n with
    | zero => intro k ν H locs ls hn hk hv hF2 ht hc hX hl; exact absurd hn (by omega)
    | succ n ih =>
      intro k ν H locs ls hn hk hv hF2 ht hc hX hl
      obtain ⟨f1, ⟨m1, f2⟩, ⟨m2, f3⟩, f4, f5, f6, f7, ⟨t1, t2, t3, t4, f8⟩, ⟨u1, u2, u3, u4, u5, f9⟩, f10, f11⟩ := id hF2
      refine lv_iload hx hb dX2_hoursUntil_18 (lv_at hl 0 rfl) ?_
      refine lv_bipush (v := nI 100) hx hb dX2_hoursUntil_20 (by decide) ?_
      refine n_gt (tgt := 51) hx hb (by omega) (by omega) dX2_hoursUntil_22 (by decide) (fun c_14 => ?_) (fun c_14 => ?_)
      · skip
        refine lv_iconst (v := (-1 : Int32)) hx hb dX2_hoursUntil_51 (by decide) ?_
        exact vx_ret (w_iret hx hb hr hlocks hX ⟨i, sz, hi, h1, h2, hxe, hse, by rw [← hv, show k = 101 by omega]; rfl, hF2⟩ ⟨Nat.le_of_ble_eq_true rfl, Nat.le_of_ble_eq_true rfl⟩ dX2_hoursUntil_52)
      · skip
        refine lv_aload_n hx hb dX2_hoursUntil_25 rfl (lv_at hl 2 rfl) ?_
        refine gX2_3 hx hb hX hown f1 kw111 dX2_hoursUntil_26 ?_
        refine lv_iload_n hx hb dX2_hoursUntil_29 rfl (lv_at hl 4 rfl) ?_
        refine w_call (w_runVN (n := 1) (As := [.int (nI sz)]) (rest := []) hx hb hml hown hX (c_X0_canHave l g ν H.size hc ht (bIn_le (by omega)) (by omega) (Nat.le_trans (dIn_le _ _ _) (by omega)) h1 h2) kw253 kw6 kw393 kw252 kp3 wn_X0_canHave rfl hc rfl ⟨Nat.le_of_ble_eq_true rfl, Nat.le_of_ble_eq_true rfl⟩ hl.1 rfl (Nat.le_of_ble_eq_true rfl) dX2_hoursUntil_30 ⟨Nat.le_of_ble_eq_true rfl, Nat.le_of_ble_eq_true rfl⟩) hX (fun r_17 μ_15 H locs q_16 hX hz => ?_)
        obtain ⟨q_19, e_18⟩ := q_16
        rw [e_18] at hX
        obtain ⟨rfl, p_20⟩ | ⟨rfl, p_21⟩ := q_19
        · skip
          refine W.eq (g2 := F0 m 33 ls [.int (nI 1)]) rfl ?_
          refine n_if_eq (tgt := 39) hx hb (by omega) dX2_hoursUntil_33 (by decide) (fun h => absurd h (by omega)) (fun _ => ?_)
          refine lv_iload hx hb dX2_hoursUntil_36 (lv_at hl 0 rfl) ?_
          exact vx_ret (w_iret hx hb hr hlocks hX ⟨i, sz, hi, h1, h2, hxe, hse, by rw [← hv, show 101 - k = (100 - k) + 1 by omega]; simp only [utl]; rw [if_pos ⟨by omega, p_20.2⟩], hF2⟩ ⟨Nat.le_of_ble_eq_true rfl, Nat.le_of_ble_eq_true rfl⟩ dX2_hoursUntil_38)
        · skip
          refine W.eq (g2 := F0 m 33 ls [.int (nI 0)]) rfl ?_
          refine n_if_eq (tgt := 39) hx hb (by omega) dX2_hoursUntil_33 (by decide) (fun _ => ?_) (fun h => absurd h (by omega))
          refine lv_aload_n hx hb dX2_hoursUntil_39 rfl (lv_at hl 2 rfl) ?_
          refine lv_iload hx hb dX2_hoursUntil_40 (lv_at hl 0 rfl) ?_
          refine w_call (w_runV (n := 1) (As := [.int (nI k)]) (rest := []) hx hb hml hown hX (c_X2_passTrialHour l g ν H.size hF2 hO ht hc (bIn_le (by omega)) (by omega) (by omega) (by omega) (dIn_le _ _ _) (by omega) (by omega) (by omega) (by omega)) kw397 kw1 kw394 kw396 kp17 wn_X2_passTrialHour rfl f1 rfl ⟨Nat.le_of_ble_eq_true rfl, Nat.le_of_ble_eq_true rfl⟩ hl.1 rfl (Nat.le_of_ble_eq_true rfl) dX2_hoursUntil_42 ⟨Nat.le_of_ble_eq_true rfl, Nat.le_of_ble_eq_true rfl⟩) hX (fun r_24 μ_22 H locs q_23 hX hz => ?_)
          obtain ⟨rfl, k4, k5, k6⟩ := q_23
          refine W.eq (g2 := F0 m 45 ls []) rfl ?_
          rw [dIn_s] at k5
          rw [bIn_s] at k6
          refine lv_iinc (v := nI (k + 1)) (lv' := [(4, .int (nI (k + 1))), (3, .ref (Λ 8 i)), (0, .ref (Λ 0 0)), (1, .int x), (2, .int (nI sz))]) hx hb dX2_hoursUntil_45 hl (k := 0) rfl (nI_inc _) (by decide) rfl (fun ls hl => ?_)
          refine lv_goto (tgt := 18) hx hb dX2_hoursUntil_48 (by decide) ?_
          have hneg : ¬ (σ 11 i ≤ k ∧ sz ≤ bIn σ i k + dIn σ (σ 8 i) k) := fun z => p_21 ⟨by omega, z.2⟩
          refine ih (k + 1) _ H locs ls (by omega) (by omega) (by rw [← hv, show 101 - k = (101 - (k + 1)) + 1 by omega]; simp only [utl, if_neg hneg]) k4 k5 (by rw [show σ 11 i - (k + 1) = σ 11 i - k - 1 by omega]; exact k6) hX ?_
          exact lv_sub hl [0, 1, 2, 3, 4] rfl
  exact hloop 102 0 μ_11 H _ ls (by omega) (by omega) rfl hF2 ht hc hX hl

set_option maxHeartbeats 4000000 in
set_option maxRecDepth 100000 in
/-- when a wish would be granted -/
theorem c_X2_hoursUntil_g (l : Launch) (g : wG) (μ : wMu) (zz : Nat) {Λ σ : sSt} {xv : Option Int64} (hF : fD g Λ xv σ μ) (hO : sOk σ) {i sz : Nat} (hi : i < σ 4 0) (h1 : 1 ≤ sz) (h2 : sz ≤ 20) : wMet l yX2_hoursUntil cX2_hoursUntil 5 (some .int) 4 0 0 85 g [.ref (Λ 0 0), .int (nI i), .int (nI sz)] μ zz (fun r μ' => r = some (.int (utl σ i sz 101 0)) ∧ fD g Λ xv σ μ') := by
  refine wMet.of (by decide) (Nat.le_of_ble_eq_true rfl) ?_
  intro p e s m below meth c ls hx hb hr hml hown hlocks hin hl hsz hX
  have hl : lv_has ls 5 [(0, .ref (Λ 0 0)), (1, .int (nI i)), (2, .int (nI sz))] := hl
  obtain ⟨f1, ⟨m1, f2⟩, ⟨m2, f3⟩, f4, f5, f6, f7, ⟨t1, t2, t3, t4, f8⟩, ⟨u1, u2, u3, u4, u5, f9⟩, f10, f11⟩ := id hF
  obtain ⟨o1, o2, o3, o4, o5, o6, o7⟩ := id hO
  refine lv_aload_n hx hb dX2_hoursUntil_0 rfl (lv_at hl 0 rfl) ?_
  refine lv_iload_n hx hb dX2_hoursUntil_1 rfl (lv_at hl 1 rfl) ?_
  refine w_call (w_runV (n := 1) (As := [.int (nI i)]) (rest := []) hx hb hml hown hX (c_X2_childAt_g l g μ s.heap.size hF hO hi) kw137 kw1 kw134 kw136 kp0 wn_X2_childAt rfl f1 rfl ⟨Nat.le_of_ble_eq_true rfl, Nat.le_of_ble_eq_true rfl⟩ hl.1 rfl (Nat.le_of_ble_eq_true rfl) dX2_hoursUntil_2 ⟨Nat.le_of_ble_eq_true rfl, Nat.le_of_ble_eq_true rfl⟩) hX (fun r_3 μ_1 H locs q_2 hX hz => ?_)
  obtain ⟨rfl, e_4⟩ := q_2
  rw [e_4] at hX
  refine W.eq (g2 := F0 m 5 ls [.ref (Λ 8 i)]) rfl ?_
  have kc_5 := f7 i hi
  have kc_5b := o4 i hi
  have kw_6 := f6 (σ 8 i) kc_5b.1
  have kw_6b := o3 (σ 8 i) kc_5b.1
  refine lv_astore_n (lv' := [(3, .ref (Λ 8 i)), (0, .ref (Λ 0 0)), (1, .int (nI i)), (2, .int (nI sz))]) hx hb dX2_hoursUntil_5 rfl hl (by decide) rfl (fun ls hl => ?_)
  refine lv_iload_n hx hb dX2_hoursUntil_6 rfl (lv_at hl 3 rfl) ?_
  refine w_call (w_runS (n := 1) (As := [.int (nI sz)]) (rest := []) hx hb hml hown hX (c_X2_needSize_g l g μ H.size h1 h2) kw226 kw1 kw224 kw225 wn_X2_needSize rfl ⟨Nat.le_of_ble_eq_true rfl, Nat.le_of_ble_eq_true rfl⟩ hl.1 rfl (Nat.le_of_ble_eq_true rfl) dX2_hoursUntil_7 ⟨Nat.le_of_ble_eq_true rfl, Nat.le_of_ble_eq_true rfl⟩) hX (fun r_9 μ_7 H locs q_8 hX hz => ?_)
  obtain ⟨rfl, e_10⟩ := q_8
  rw [e_10] at hX
  refine W.eq (g2 := F0 m 10 ls []) rfl ?_
  refine lv_aload_n hx hb dX2_hoursUntil_10 rfl (lv_at hl 1 rfl) ?_
  refine lv_aload_n hx hb dX2_hoursUntil_11 rfl (lv_at hl 0 rfl) ?_
  refine w_call (w_runV (n := 1) (As := [.ref (Λ 8 i)]) (rest := []) hx hb hml hown hX (c_X2_beginTrial l g μ H.size hF hO hi) kw384 kw1 kw381 kw383 kp14 wn_X2_beginTrial rfl f1 rfl ⟨Nat.le_of_ble_eq_true rfl, Nat.le_of_ble_eq_true rfl⟩ hl.1 rfl (Nat.le_of_ble_eq_true rfl) dX2_hoursUntil_12 ⟨Nat.le_of_ble_eq_true rfl, Nat.le_of_ble_eq_true rfl⟩) hX (fun r_13 μ_11 H locs q_12 hX hz => ?_)
  obtain ⟨rfl, hF2, ht, hc⟩ := q_12
  refine W.eq (g2 := F0 m 15 ls []) rfl ?_
  refine lv_iconst (v := nI 0) hx hb dX2_hoursUntil_15 (by decide) ?_
  refine lv_istore (lv' := [(4, .int (nI 0)), (3, .ref (Λ 8 i)), (0, .ref (Λ 0 0)), (1, .int (nI i)), (2, .int (nI sz))]) hx hb dX2_hoursUntil_16 hl (by decide) rfl (fun ls hl => ?_)
  rw [show cW σ (σ 8 i) = tW (nI (σ 8 i)) (σ 5 (σ 8 i)) (σ 6 (σ 8 i)) (dIn σ (σ 8 i) 0) by rw [dIn_0 (by omega)]] at ht
  rw [show tC Λ (σ 9 i) (σ 10 i) (σ 11 i) (σ 12 i) (σ 13 i) = tC Λ (σ 9 i) (bIn σ i 0) (σ 11 i - 0) (σ 12 i) (σ 13 i) by rw [bIn_0, Nat.sub_zero]] at hc
  have hloop : ∀ (n : Nat) (k : Nat) (ν : wMu) (H : Heap) (locs : List Loc) (ls : Array Slot), 101 < k + n → k ≤ 101 → utl σ i sz (101 - k) k = utl σ i sz 101 0 → fD g Λ xv σ ν → ν (Λ 5 0) = some (tW (nI (σ 8 i)) (σ 5 (σ 8 i)) (σ 6 (σ 8 i)) (dIn σ (σ 8 i) k)) → ν (Λ 6 0) = some (tC Λ (σ 9 i) (bIn σ i k) (σ 11 i - k) (σ 12 i) (σ 13 i)) → wX g (wA μ zz) s H locs ν → lv_has ls 5 [(4, .int (nI k)), (3, .ref (Λ 8 i)), (0, .ref (Λ 0 0)), (1, .int (nI i)), (2, .int (nI sz))] → W p l e ({ frames := 4, cells := 0, slots := 0, locals := 85 } : Room) s m ([.ref (Λ 0 0), .int (nI i), .int (nI sz)] : List Value).toArray below meth c H locs 0 0 (MQ below (wQc g μ zz (fun r μ' => r = some (.int (utl σ i sz 101 0)) ∧ fD g Λ xv σ μ')) ([.ref (Λ 0 0), .int (nI i), .int (nI sz)] : List Value).toArray s 0 0 (wA μ zz)) (F0 m 18 ls []) := by
    intro n
    induction n with
    | zero => intro k ν H locs ls hn hk hv hF2 ht hc hX hl; exact absurd hn (by omega)
    | succ n ih =>
      intro k ν H locs ls hn hk hv hF2 ht hc hX hl
      obtain ⟨f1, ⟨m1, f2⟩, ⟨m2, f3⟩, f4, f5, f6, f7, ⟨t1, t2, t3, t4, f8⟩, ⟨u1, u2, u3, u4, u5, f9⟩, f10, f11⟩ := id hF2
      refine lv_iload hx hb dX2_hoursUntil_18 (lv_at hl 0 rfl) ?_
      refine lv_bipush (v := nI 100) hx hb dX2_hoursUntil_20 (by decide) ?_
      refine n_gt (tgt := 51) hx hb (by omega) (by omega) dX2_hoursUntil_22 (by decide) (fun c_14 => ?_) (fun c_14 => ?_)
      · skip
        refine lv_iconst (v := (-1 : Int32)) hx hb dX2_hoursUntil_51 (by decide) ?_
        exact w_iret hx hb hr hlocks hX ⟨by rw [← hv, show k = 101 by omega]; rfl, hF2⟩ ⟨Nat.le_of_ble_eq_true rfl, Nat.le_of_ble_eq_true rfl⟩ dX2_hoursUntil_52
      · skip
        refine lv_aload_n hx hb dX2_hoursUntil_25 rfl (lv_at hl 2 rfl) ?_
        refine gX2_3 hx hb hX hown f1 kw111 dX2_hoursUntil_26 ?_
        refine lv_iload_n hx hb dX2_hoursUntil_29 rfl (lv_at hl 4 rfl) ?_
        refine w_call (w_runVN (n := 1) (As := [.int (nI sz)]) (rest := []) hx hb hml hown hX (c_X0_canHave l g ν H.size hc ht (bIn_le (by omega)) (by omega) (Nat.le_trans (dIn_le _ _ _) (by omega)) h1 h2) kw253 kw6 kw393 kw252 kp3 wn_X0_canHave rfl hc rfl ⟨Nat.le_of_ble_eq_true rfl, Nat.le_of_ble_eq_true rfl⟩ hl.1 rfl (Nat.le_of_ble_eq_true rfl) dX2_hoursUntil_30 ⟨Nat.le_of_ble_eq_true rfl, Nat.le_of_ble_eq_true rfl⟩) hX (fun r_17 μ_15 H locs q_16 hX hz => ?_)
        obtain ⟨q_19, e_18⟩ := q_16
        rw [e_18] at hX
        obtain ⟨rfl, p_20⟩ | ⟨rfl, p_21⟩ := q_19
        · skip
          refine W.eq (g2 := F0 m 33 ls [.int (nI 1)]) rfl ?_
          refine n_if_eq (tgt := 39) hx hb (by omega) dX2_hoursUntil_33 (by decide) (fun h => absurd h (by omega)) (fun _ => ?_)
          refine lv_iload hx hb dX2_hoursUntil_36 (lv_at hl 0 rfl) ?_
          exact w_iret hx hb hr hlocks hX ⟨by rw [← hv, show 101 - k = (100 - k) + 1 by omega]; simp only [utl]; rw [if_pos ⟨by omega, p_20.2⟩], hF2⟩ ⟨Nat.le_of_ble_eq_true rfl, Nat.le_of_ble_eq_true rfl⟩ dX2_hoursUntil_38
        · skip
          refine W.eq (g2 := F0 m 33 ls [.int (nI 0)]) rfl ?_
          refine n_if_eq (tgt := 39) hx hb (by omega) dX2_hoursUntil_33 (by decide) (fun _ => ?_) (fun h => absurd h (by omega))
          refine lv_aload_n hx hb dX2_hoursUntil_39 rfl (lv_at hl 2 rfl) ?_
          refine lv_iload hx hb dX2_hoursUntil_40 (lv_at hl 0 rfl) ?_
          refine w_call (w_runV (n := 1) (As := [.int (nI k)]) (rest := []) hx hb hml hown hX (c_X2_passTrialHour l g ν H.size hF2 hO ht hc (bIn_le (by omega)) (by omega) (by omega) (by omega) (dIn_le _ _ _) (by omega) (by omega) (by omega) (by omega)) kw397 kw1 kw394 kw396 kp17 wn_X2_passTrialHour rfl f1 rfl ⟨Nat.le_of_ble_eq_true rfl, Nat.le_of_ble_eq_true rfl⟩ hl.1 rfl (Nat.le_of_ble_eq_true rfl) dX2_hoursUntil_42 ⟨Nat.le_of_ble_eq_true rfl, Nat.le_of_ble_eq_true rfl⟩) hX (fun r_24 μ_22 H locs q_23 hX hz => ?_)
          obtain ⟨rfl, k4, k5, k6⟩ := q_23
          refine W.eq (g2 := F0 m 45 ls []) rfl ?_
          rw [dIn_s] at k5
          rw [bIn_s] at k6
          refine lv_iinc (v := nI (k + 1)) (lv' := [(4, .int (nI (k + 1))), (3, .ref (Λ 8 i)), (0, .ref (Λ 0 0)), (1, .int (nI i)), (2, .int (nI sz))]) hx hb dX2_hoursUntil_45 hl (k := 0) rfl (nI_inc _) (by decide) rfl (fun ls hl => ?_)
          refine lv_goto (tgt := 18) hx hb dX2_hoursUntil_48 (by decide) ?_
          have hneg : ¬ (σ 11 i ≤ k ∧ sz ≤ bIn σ i k + dIn σ (σ 8 i) k) := fun z => p_21 ⟨by omega, z.2⟩
          refine ih (k + 1) _ H locs ls (by omega) (by omega) (by rw [← hv, show 101 - k = (101 - (k + 1)) + 1 by omega]; simp only [utl, if_neg hneg]) k4 k5 (by rw [show σ 11 i - (k + 1) = σ 11 i - k - 1 by omega]; exact k6) hX ?_
          exact lv_sub hl [0, 1, 2, 3, 4] rfl
  exact hloop 102 0 μ_11 H _ ls (by omega) (by omega) rfl hF2 ht hc hX hl

set_option maxHeartbeats 4000000 in
set_option maxRecDepth 100000 in
/-- how many would be granted -/
theorem c_X2_grantedIn (l : Launch) (hlt : l.stackTraces = false) (g : wG) (μ : wMu) (zz : Nat) {Λ σ : sSt} {xv : Option Int64} (hF : fD g Λ xv σ μ) (hO : sOk σ) {x x2 x3 : Int32} : wMetX l yX2_grantedIn cX2_grantedIn 5 (some .int) 8 3 18 132 g [.ref (Λ 0 0), .int x, .int x2, .int x3] μ zz (fun r μ' => ∃ i sz nn, i < σ 4 0 ∧ 1 ≤ sz ∧ sz ≤ 20 ∧ 1 ≤ nn ∧ nn ≤ 60 ∧ x = nI i ∧ x2 = nI sz ∧ x3 = nI nn ∧ r = some (.int (nI (tws σ i sz nn (σ 6 (σ 8 i))))) ∧ fD g Λ xv σ μ') (fun E => (E = xIOB ∧ ¬ isX x (σ 4 0)) ∨ (E = xIAE ∧ isX x (σ 4 0) ∧ ¬ (isI x2 1 20 ∧ isI x3 1 60))) := by
  refine wMetX.of (by decide) (Nat.le_of_ble_eq_true rfl) ?_
  intro p e s m below meth c ls hx hb hr hml hown hlocks hin hl hsz hX hxt
  have hl : lv_has ls 5 [(0, .ref (Λ 0 0)), (1, .int x), (2, .int x2), (3, .int x3)] := hl
  obtain ⟨f1, ⟨m1, f2⟩, ⟨m2, f3⟩, f4, f5, f6, f7, ⟨t1, t2, t3, t4, f8⟩, ⟨u1, u2, u3, u4, u5, f9⟩, f10, f11⟩ := id hF
  obtain ⟨o1, o2, o3, o4, o5, o6, o7⟩ := id hO
  refine lv_aload_n hx hb dX2_grantedIn_0 rfl (lv_at hl 0 rfl) ?_
  refine lv_iload_n hx hb dX2_grantedIn_1 rfl (lv_at hl 1 rfl) ?_
  refine w_callX (w_runVX (n := 1) (As := [.int x]) (rest := []) hx hb hml hown hX (c_X2_childAt l hlt g μ s.heap.size hF hO) kw137 kw1 kw134 kw136 kp0 wn_X2_childAt rfl f1 rfl ⟨Nat.le_of_ble_eq_true rfl, Nat.le_of_ble_eq_true rfl⟩ hl.1 rfl (Nat.le_of_ble_eq_true rfl) dX2_grantedIn_2 ⟨Nat.le_of_ble_eq_true rfl, Nat.le_of_ble_eq_true rfl⟩) hX (fun E ce q9 H locs hE hX hce hcv hcl => ?_) (fun r_3 μ_1 H locs q_2 hX hz => ?_)
  · skip
    exact w_out hxt hlocks hX (Or.inl hE) hce hcv hcl ⟨Nat.le_of_ble_eq_true rfl, Nat.le_of_ble_eq_true rfl⟩
  obtain ⟨i, hi, hxe, rfl, e_4⟩ := q_2
  rw [e_4] at hX
  refine W.eq (g2 := F0 m 5 ls [.ref (Λ 8 i)]) rfl ?_
  have kc_5 := f7 i hi
  have kc_5b := o4 i hi
  have kw_6 := f6 (σ 8 i) kc_5b.1
  have kw_6b := o3 (σ 8 i) kc_5b.1
  refine lv_astore (lv' := [(4, .ref (Λ 8 i)), (0, .ref (Λ 0 0)), (1, .int x), (2, .int x2), (3, .int x3)]) hx hb dX2_grantedIn_5 hl (by decide) rfl (fun ls hl => ?_)
  refine lv_iload_n hx hb dX2_grantedIn_7 rfl (lv_at hl 3 rfl) ?_
  refine w_callX (w_runSX (n := 1) (As := [.int x2]) (rest := []) hx hb hml hown hX (c_X2_needSize l hlt g μ H.size) kw226 kw1 kw224 kw225 wn_X2_needSize rfl ⟨Nat.le_of_ble_eq_true rfl, Nat.le_of_ble_eq_true rfl⟩ hl.1 rfl (Nat.le_of_ble_eq_true rfl) dX2_grantedIn_8 ⟨Nat.le_of_ble_eq_true rfl, Nat.le_of_ble_eq_true rfl⟩) hX (fun E ce q9 H locs hE hX hce hcv hcl => ?_) (fun r_9 μ_7 H locs q_8 hX hz => ?_)
  · skip
    exact w_out hxt hlocks hX (Or.inr ⟨hE.1, (by rw [hxe]; exact (isX_nI (by omega)).mpr hi), fun z => hE.2 z.1⟩) hce hcv hcl ⟨Nat.le_of_ble_eq_true rfl, Nat.le_of_ble_eq_true rfl⟩
  obtain ⟨sz, h1, h2, hse, rfl, e_10⟩ := q_8
  rw [e_10] at hX
  refine W.eq (g2 := F0 m 11 ls []) rfl ?_
  rw [hse] at hl
  refine lv_iload_n hx hb dX2_grantedIn_11 rfl (lv_at hl 4 rfl) ?_
  refine lv_iconst (v := nI 1) hx hb dX2_grantedIn_12 (by decide) ?_
  refine lv_bipush (v := nI 60) hx hb dX2_grantedIn_13 (by decide) ?_
  refine w_callX (w_runSX (n := 3) (As := [.int x3, .int (nI 1), .int (nI 60)]) (rest := []) hx hb hml hown hX (c_X2_needWithin l hlt g μ H.size (by omega) (by omega)) kw229 kw1 kw227 kw228 wn_X2_needWithin rfl ⟨Nat.le_of_ble_eq_true rfl, Nat.le_of_ble_eq_true rfl⟩ hl.1 rfl (Nat.le_of_ble_eq_true rfl) dX2_grantedIn_15 ⟨Nat.le_of_ble_eq_true rfl, Nat.le_of_ble_eq_true rfl⟩) hX (fun E ce q9 H locs hE hX hce hcv hcl => ?_) (fun r_13 μ_11 H locs q_12 hX hz => ?_)
  · skip
    exact w_out hxt hlocks hX (Or.inr ⟨hE.1, (by rw [hxe]; exact (isX_nI (by omega)).mpr hi), fun z => hE.2 z.2⟩) hce hcv hcl ⟨Nat.le_of_ble_eq_true rfl, Nat.le_of_ble_eq_true rfl⟩
  obtain ⟨nn, h3, h4, hne, rfl, e_14⟩ := q_12
  rw [e_14] at hX
  refine W.eq (g2 := F0 m 18 ls []) rfl ?_
  rw [hne] at hl
  refine lv_aload_n hx hb dX2_grantedIn_18 rfl (lv_at hl 1 rfl) ?_
  refine lv_aload hx hb dX2_grantedIn_19 (lv_at hl 0 rfl) ?_
  refine w_call (w_runV (n := 1) (As := [.ref (Λ 8 i)]) (rest := []) hx hb hml hown hX (c_X2_beginTrial l g μ H.size hF hO hi) kw384 kw1 kw381 kw383 kp14 wn_X2_beginTrial rfl f1 rfl ⟨Nat.le_of_ble_eq_true rfl, Nat.le_of_ble_eq_true rfl⟩ hl.1 rfl (Nat.le_of_ble_eq_true rfl) dX2_grantedIn_21 ⟨Nat.le_of_ble_eq_true rfl, Nat.le_of_ble_eq_true rfl⟩) hX (fun r_17 μ_15 H locs q_16 hX hz => ?_)
  obtain ⟨rfl, hF2, ht, hc⟩ := q_16
  refine W.eq (g2 := F0 m 24 ls []) rfl ?_
  refine lv_aload_n hx hb dX2_grantedIn_24 rfl (lv_at hl 1 rfl) ?_
  refine lv_iload_n hx hb dX2_grantedIn_25 rfl (lv_at hl 3 rfl) ?_
  refine lv_iload_n hx hb dX2_grantedIn_26 rfl (lv_at hl 4 rfl) ?_
  refine w_call (w_runV (n := 2) (As := [.int (nI sz), .int (nI nn)]) (rest := []) hx hb hml hown hX (c_X2_tryWishes l g μ_15 H.size hF2 hO ht hc (by omega) (by omega) (by omega) (by omega) (by omega) (by omega) (by omega) (by omega) h1 h2 (by omega)) kw405 kw1 kw402 kw404 kp18 wn_X2_tryWishes rfl hF2.1 rfl ⟨Nat.le_of_ble_eq_true rfl, Nat.le_of_ble_eq_true rfl⟩ hl.1 rfl (Nat.le_of_ble_eq_true rfl) dX2_grantedIn_27 ⟨Nat.le_of_ble_eq_true rfl, Nat.le_of_ble_eq_true rfl⟩) hX (fun r_20 μ_18 H locs q_19 hX hz => ?_)
  obtain ⟨rfl, hF3⟩ := q_19
  refine W.eq (g2 := F0 m 30 ls [.int (nI (tws σ i sz nn (σ 6 (σ 8 i))))]) rfl ?_
  exact vx_ret (w_iret hx hb hr hlocks hX ⟨i, sz, nn, hi, h1, h2, h3, h4, hxe, hse, hne, rfl, hF3⟩ ⟨Nat.le_of_ble_eq_true rfl, Nat.le_of_ble_eq_true rfl⟩ dX2_grantedIn_30)

set_option maxHeartbeats 4000000 in
set_option maxRecDepth 100000 in
/-- how many would be granted -/
theorem c_X2_grantedIn_g (l : Launch) (g : wG) (μ : wMu) (zz : Nat) {Λ σ : sSt} {xv : Option Int64} (hF : fD g Λ xv σ μ) (hO : sOk σ) {i sz nn : Nat} (hi : i < σ 4 0) (h1 : 1 ≤ sz) (h2 : sz ≤ 20) (h3 : 1 ≤ nn) (h4 : nn ≤ 60) : wMet l yX2_grantedIn cX2_grantedIn 5 (some .int) 5 0 0 109 g [.ref (Λ 0 0), .int (nI i), .int (nI sz), .int (nI nn)] μ zz (fun r μ' => r = some (.int (nI (tws σ i sz nn (σ 6 (σ 8 i))))) ∧ fD g Λ xv σ μ') := by
  refine wMet.of (by decide) (Nat.le_of_ble_eq_true rfl) ?_
  intro p e s m below meth c ls hx hb hr hml hown hlocks hin hl hsz hX
  have hl : lv_has ls 5 [(0, .ref (Λ 0 0)), (1, .int (nI i)), (2, .int (nI sz)), (3, .int (nI nn))] := hl
  obtain ⟨f1, ⟨m1, f2⟩, ⟨m2, f3⟩, f4, f5, f6, f7, ⟨t1, t2, t3, t4, f8⟩, ⟨u1, u2, u3, u4, u5, f9⟩, f10, f11⟩ := id hF
  obtain ⟨o1, o2, o3, o4, o5, o6, o7⟩ := id hO
  refine lv_aload_n hx hb dX2_grantedIn_0 rfl (lv_at hl 0 rfl) ?_
  refine lv_iload_n hx hb dX2_grantedIn_1 rfl (lv_at hl 1 rfl) ?_
  refine w_call (w_runV (n := 1) (As := [.int (nI i)]) (rest := []) hx hb hml hown hX (c_X2_childAt_g l g μ s.heap.size hF hO hi) kw137 kw1 kw134 kw136 kp0 wn_X2_childAt rfl f1 rfl ⟨Nat.le_of_ble_eq_true rfl, Nat.le_of_ble_eq_true rfl⟩ hl.1 rfl (Nat.le_of_ble_eq_true rfl) dX2_grantedIn_2 ⟨Nat.le_of_ble_eq_true rfl, Nat.le_of_ble_eq_true rfl⟩) hX (fun r_3 μ_1 H locs q_2 hX hz => ?_)
  obtain ⟨rfl, e_4⟩ := q_2
  rw [e_4] at hX
  refine W.eq (g2 := F0 m 5 ls [.ref (Λ 8 i)]) rfl ?_
  have kc_5 := f7 i hi
  have kc_5b := o4 i hi
  have kw_6 := f6 (σ 8 i) kc_5b.1
  have kw_6b := o3 (σ 8 i) kc_5b.1
  refine lv_astore (lv' := [(4, .ref (Λ 8 i)), (0, .ref (Λ 0 0)), (1, .int (nI i)), (2, .int (nI sz)), (3, .int (nI nn))]) hx hb dX2_grantedIn_5 hl (by decide) rfl (fun ls hl => ?_)
  refine lv_iload_n hx hb dX2_grantedIn_7 rfl (lv_at hl 3 rfl) ?_
  refine w_call (w_runS (n := 1) (As := [.int (nI sz)]) (rest := []) hx hb hml hown hX (c_X2_needSize_g l g μ H.size h1 h2) kw226 kw1 kw224 kw225 wn_X2_needSize rfl ⟨Nat.le_of_ble_eq_true rfl, Nat.le_of_ble_eq_true rfl⟩ hl.1 rfl (Nat.le_of_ble_eq_true rfl) dX2_grantedIn_8 ⟨Nat.le_of_ble_eq_true rfl, Nat.le_of_ble_eq_true rfl⟩) hX (fun r_9 μ_7 H locs q_8 hX hz => ?_)
  obtain ⟨rfl, e_10⟩ := q_8
  rw [e_10] at hX
  refine W.eq (g2 := F0 m 11 ls []) rfl ?_
  refine lv_iload_n hx hb dX2_grantedIn_11 rfl (lv_at hl 4 rfl) ?_
  refine lv_iconst (v := nI 1) hx hb dX2_grantedIn_12 (by decide) ?_
  refine lv_bipush (v := nI 60) hx hb dX2_grantedIn_13 (by decide) ?_
  refine w_call (w_runS (n := 3) (As := [.int (nI nn), .int (nI 1), .int (nI 60)]) (rest := []) hx hb hml hown hX (c_X2_needWithin_g l g μ H.size h3 h4 (by omega)) kw229 kw1 kw227 kw228 wn_X2_needWithin rfl ⟨Nat.le_of_ble_eq_true rfl, Nat.le_of_ble_eq_true rfl⟩ hl.1 rfl (Nat.le_of_ble_eq_true rfl) dX2_grantedIn_15 ⟨Nat.le_of_ble_eq_true rfl, Nat.le_of_ble_eq_true rfl⟩) hX (fun r_13 μ_11 H locs q_12 hX hz => ?_)
  obtain ⟨rfl, e_14⟩ := q_12
  rw [e_14] at hX
  refine W.eq (g2 := F0 m 18 ls []) rfl ?_
  refine lv_aload_n hx hb dX2_grantedIn_18 rfl (lv_at hl 1 rfl) ?_
  refine lv_aload hx hb dX2_grantedIn_19 (lv_at hl 0 rfl) ?_
  refine w_call (w_runV (n := 1) (As := [.ref (Λ 8 i)]) (rest := []) hx hb hml hown hX (c_X2_beginTrial l g μ H.size hF hO hi) kw384 kw1 kw381 kw383 kp14 wn_X2_beginTrial rfl f1 rfl ⟨Nat.le_of_ble_eq_true rfl, Nat.le_of_ble_eq_true rfl⟩ hl.1 rfl (Nat.le_of_ble_eq_true rfl) dX2_grantedIn_21 ⟨Nat.le_of_ble_eq_true rfl, Nat.le_of_ble_eq_true rfl⟩) hX (fun r_17 μ_15 H locs q_16 hX hz => ?_)
  obtain ⟨rfl, hF2, ht, hc⟩ := q_16
  refine W.eq (g2 := F0 m 24 ls []) rfl ?_
  refine lv_aload_n hx hb dX2_grantedIn_24 rfl (lv_at hl 1 rfl) ?_
  refine lv_iload_n hx hb dX2_grantedIn_25 rfl (lv_at hl 3 rfl) ?_
  refine lv_iload_n hx hb dX2_grantedIn_26 rfl (lv_at hl 4 rfl) ?_
  refine w_call (w_runV (n := 2) (As := [.int (nI sz), .int (nI nn)]) (rest := []) hx hb hml hown hX (c_X2_tryWishes l g μ_15 H.size hF2 hO ht hc (by omega) (by omega) (by omega) (by omega) (by omega) (by omega) (by omega) (by omega) h1 h2 (by omega)) kw405 kw1 kw402 kw404 kp18 wn_X2_tryWishes rfl hF2.1 rfl ⟨Nat.le_of_ble_eq_true rfl, Nat.le_of_ble_eq_true rfl⟩ hl.1 rfl (Nat.le_of_ble_eq_true rfl) dX2_grantedIn_27 ⟨Nat.le_of_ble_eq_true rfl, Nat.le_of_ble_eq_true rfl⟩) hX (fun r_20 μ_18 H locs q_19 hX hz => ?_)
  obtain ⟨rfl, hF3⟩ := q_19
  refine W.eq (g2 := F0 m 30 ls [.int (nI (tws σ i sz nn (σ 6 (σ 8 i))))]) rfl ?_
  exact w_iret hx hb hr hlocks hX ⟨rfl, hF3⟩ ⟨Nat.le_of_ble_eq_true rfl, Nat.le_of_ble_eq_true rfl⟩ dX2_grantedIn_30

theorem twc_le (sz rm fl bd h0 : Nat) : ∀ n b du bu he mr nx, twc sz rm fl bd h0 n b du bu he mr nx ≤ n
  | 0, _, _, _, _, _, _ => Nat.le_refl 0
  | n + 1, b, du, bu, he, mr, nx => by
    have h1 := fwG_le sz du bu he
    have h2 := twc_le sz rm fl bd h0 n (b + 1) (min rm (fwD sz du bu he + fl)) (bstH bd (fwB sz du bu he) (h0 + b + 1)) (fwH sz du bu he mr nx - 1) (fwM sz du bu he mr) (fwN sz du bu he mr nx)
    simp only [twc]
    omega
theorem tws_le (σ : sSt) (j sz n fl : Nat) : tws σ j sz n fl ≤ n := twc_le _ _ _ _ _ _ _ _ _ _ _ _
set_option maxHeartbeats 4000000 in
set_option maxRecDepth 100000 in
/-- how many would have to fall -/
theorem c_X2_fallWanted (l : Launch) (hlt : l.stackTraces = false) (g : wG) (μ : wMu) (zz : Nat) {Λ σ : sSt} {xv : Option Int64} (hF : fD g Λ xv σ μ) (hO : sOk σ) {x x2 : Int32} : wMetX l yX2_fallWanted cX2_fallWanted 5 (some .int) 8 2 12 132 g [.ref (Λ 0 0), .int x, .int x2] μ zz (fun r μ' => ∃ i sz, i < σ 4 0 ∧ 1 ≤ sz ∧ sz ≤ 20 ∧ x = nI i ∧ x2 = nI sz ∧ r = some (.int (wtd σ i sz 21 0)) ∧ fD g Λ xv σ μ') (fun E => (E = xIOB ∧ ¬ isX x (σ 4 0)) ∨ (E = xIAE ∧ isX x (σ 4 0) ∧ ¬ isI x2 1 20)) := by
  refine wMetX.of (by decide) (Nat.le_of_ble_eq_true rfl) ?_
  intro p e s m below meth c ls hx hb hr hml hown hlocks hin hl hsz hX hxt
  have hl : lv_has ls 5 [(0, .ref (Λ 0 0)), (1, .int x), (2, .int x2)] := hl
  obtain ⟨f1, ⟨m1, f2⟩, ⟨m2, f3⟩, f4, f5, f6, f7, ⟨t1, t2, t3, t4, f8⟩, ⟨u1, u2, u3, u4, u5, f9⟩, f10, f11⟩ := id hF
  obtain ⟨o1, o2, o3, o4, o5, o6, o7⟩ := id hO
  refine lv_aload_n hx hb dX2_fallWanted_0 rfl (lv_at hl 0 rfl) ?_
  refine lv_iload_n hx hb dX2_fallWanted_1 rfl (lv_at hl 1 rfl) ?_
  refine w_callX (w_runVX (n := 1) (As := [.int x]) (rest := []) hx hb hml hown hX (c_X2_childAt l hlt g μ s.heap.size hF hO) kw137 kw1 kw134 kw136 kp0 wn_X2_childAt rfl f1 rfl ⟨Nat.le_of_ble_eq_true rfl, Nat.le_of_ble_eq_true rfl⟩ hl.1 rfl (Nat.le_of_ble_eq_true rfl) dX2_fallWanted_2 ⟨Nat.le_of_ble_eq_true rfl, Nat.le_of_ble_eq_true rfl⟩) hX (fun E ce q9 H locs hE hX hce hcv hcl => ?_) (fun r_3 μ_1 H locs q_2 hX hz => ?_)
  · skip
    exact w_out hxt hlocks hX (Or.inl hE) hce hcv hcl ⟨Nat.le_of_ble_eq_true rfl, Nat.le_of_ble_eq_true rfl⟩
  obtain ⟨i, hi, hxe, rfl, e_4⟩ := q_2
  rw [e_4] at hX
  refine W.eq (g2 := F0 m 5 ls [.ref (Λ 8 i)]) rfl ?_
  have kc_5 := f7 i hi
  have kc_5b := o4 i hi
  have kw_6 := f6 (σ 8 i) kc_5b.1
  have kw_6b := o3 (σ 8 i) kc_5b.1
  refine lv_astore_n (lv' := [(3, .ref (Λ 8 i)), (0, .ref (Λ 0 0)), (1, .int x), (2, .int x2)]) hx hb dX2_fallWanted_5 rfl hl (by decide) rfl (fun ls hl => ?_)
  refine lv_iload_n hx hb dX2_fallWanted_6 rfl (lv_at hl 3 rfl) ?_
  refine w_callX (w_runSX (n := 1) (As := [.int x2]) (rest := []) hx hb hml hown hX (c_X2_needSize l hlt g μ H.size) kw226 kw1 kw224 kw225 wn_X2_needSize rfl ⟨Nat.le_of_ble_eq_true rfl, Nat.le_of_ble_eq_true rfl⟩ hl.1 rfl (Nat.le_of_ble_eq_true rfl) dX2_fallWanted_7 ⟨Nat.le_of_ble_eq_true rfl, Nat.le_of_ble_eq_true rfl⟩) hX (fun E ce q9 H locs hE hX hce hcv hcl => ?_) (fun r_9 μ_7 H locs q_8 hX hz => ?_)
  · skip
    exact w_out hxt hlocks hX (Or.inr ⟨hE.1, (by rw [hxe]; exact (isX_nI (by omega)).mpr hi), hE.2⟩) hce hcv hcl ⟨Nat.le_of_ble_eq_true rfl, Nat.le_of_ble_eq_true rfl⟩
  obtain ⟨sz, h1, h2, hse, rfl, e_10⟩ := q_8
  rw [e_10] at hX
  refine W.eq (g2 := F0 m 10 ls []) rfl ?_
  rw [hse] at hl
  refine lv_iconst (v := nI 0) hx hb dX2_fallWanted_10 (by decide) ?_
  refine lv_istore (lv' := [(4, .int (nI 0)), (3, .ref (Λ 8 i)), (0, .ref (Λ 0 0)), (1, .int x), (2, .int (nI sz))]) hx hb dX2_fallWanted_11 hl (by decide) rfl (fun ls hl => ?_)
  have hloop : ∀ (n : Nat) (k : Nat) (ν : wMu) (H : Heap) (locs : List Loc) (ls : Array Slot), 21 < k + n → k ≤ 21 → wtd σ i sz (21 - k) k = wtd σ i sz 21 0 → fD g Λ xv σ ν → wX g (wA μ zz) s H locs ν → lv_has ls 5 [(4, .int (nI k)), (3, .ref (Λ 8 i)), (0, .ref (Λ 0 0)), (1, .int x), (2, .int (nI sz))] → W p l e ({ frames := 8, cells := 2, slots := 12, locals := 132 } : Room) s m ([.ref (Λ 0 0), .int x, .int x2] : List Value).toArray below meth c H locs 2 12 (vx_MQ below (wQc g μ zz (fun r μ' => ∃ i sz, i < σ 4 0 ∧ 1 ≤ sz ∧ sz ≤ 20 ∧ x = nI i ∧ x2 = nI sz ∧ r = some (.int (wtd σ i sz 21 0)) ∧ fD g Λ xv σ μ')) (wXc g μ zz (fun E => (E = xIOB ∧ ¬ isX x (σ 4 0)) ∨ (E = xIAE ∧ isX x (σ 4 0) ∧ ¬ isI x2 1 20))) ([.ref (Λ 0 0), .int x, .int x2] : List Value).toArray s 2 12 (wA μ zz)) (F0 m 13 ls []) := by
    intro n
    induction n with
    | zero => intro k ν H locs ls hn hk hv hF hX hl; exact absurd hn (by omega)
    | succ n ih =>
      intro k ν H locs ls hn hk hv hF hX hl
      obtain ⟨f1, ⟨m1, f2⟩, ⟨m2, f3⟩, f4, f5, f6, f7, ⟨t1, t2, t3, t4, f8⟩, ⟨u1, u2, u3, u4, u5, f9⟩, f10, f11⟩ := id hF
      refine lv_iload hx hb dX2_fallWanted_13 (lv_at hl 0 rfl) ?_
      refine lv_bipush (v := nI 20) hx hb dX2_fallWanted_15 (by decide) ?_
      refine n_gt (tgt := 55) hx hb (by omega) (by omega) dX2_fallWanted_17 (by decide) (fun c_11 => ?_) (fun c_11 => ?_)
      · skip
        refine lv_iconst (v := (-1 : Int32)) hx hb dX2_fallWanted_55 (by decide) ?_
        exact vx_ret (w_iret hx hb hr hlocks hX ⟨i, sz, hi, h1, h2, hxe, hse, by rw [← hv, show k = 21 by omega]; rfl, hF⟩ ⟨Nat.le_of_ble_eq_true rfl, Nat.le_of_ble_eq_true rfl⟩ dX2_fallWanted_56)
      · skip
        refine lv_aload_n hx hb dX2_fallWanted_20 rfl (lv_at hl 2 rfl) ?_
        refine lv_aload_n hx hb dX2_fallWanted_21 rfl (lv_at hl 1 rfl) ?_
        refine w_call (w_runV (n := 1) (As := [.ref (Λ 8 i)]) (rest := []) hx hb hml hown hX (c_X2_beginTrial l g ν H.size hF hO hi) kw384 kw1 kw381 kw383 kp14 wn_X2_beginTrial rfl f1 rfl ⟨Nat.le_of_ble_eq_true rfl, Nat.le_of_ble_eq_true rfl⟩ hl.1 rfl (Nat.le_of_ble_eq_true rfl) dX2_fallWanted_22 ⟨Nat.le_of_ble_eq_true rfl, Nat.le_of_ble_eq_true rfl⟩) hX (fun r_14 μ_12 H locs q_13 hX hz => ?_)
        obtain ⟨rfl, hF2, ht, hc⟩ := q_13
        refine W.eq (g2 := F0 m 25 ls []) rfl ?_
        obtain ⟨f1, ⟨m1, f2⟩, ⟨m2, f3⟩, f4, f5, f6, f7, ⟨t1, t2, t3, t4, f8⟩, ⟨u1, u2, u3, u4, u5, f9⟩, f10, f11⟩ := id hF2
        refine lv_aload_n hx hb dX2_fallWanted_25 rfl (lv_at hl 2 rfl) ?_
        refine gX2_2 hx hb hX hown f1 kw110 dX2_fallWanted_26 ?_
        refine lv_iload hx hb dX2_fallWanted_29 (lv_at hl 0 rfl) ?_
        refine pnX1_2 hx hb hX hown ht kw64 dX2_fallWanted_31 (fun H locs hX => ?_)
        obtain ⟨μ_15, e_16⟩ : ∃ z, z = va_up μ_12 (Λ 5 0) (some (.inr (2, [.int (nI (σ 8 i)), .int (nI (σ 5 (σ 8 i))), .int (nI k), .int (nI (σ 7 (σ 8 i)))]))) := ⟨_, rfl⟩
        rw [← e_16] at hX
        have k_17 : μ_15 (Λ 5 0) = some (.inr (2, [.int (nI (σ 8 i)), .int (nI (σ 5 (σ 8 i))), .int (nI k), .int (nI (σ 7 (σ 8 i)))])) := by rw [e_16]; exact va_up_self _ _ _
        have k_18 := (congrFun e_16 (Λ 0 0)).trans ((va_up_ne _ _ (kd_ne f1 ht rfl)).trans f1)
        have k_19 := (congrFun e_16 (Λ 6 0)).trans ((va_up_ne _ _ (kd_ne hc ht rfl)).trans hc)
        refine lv_aload_n hx hb dX2_fallWanted_34 rfl (lv_at hl 2 rfl) ?_
        refine lv_iload_n hx hb dX2_fallWanted_35 rfl (lv_at hl 4 rfl) ?_
        refine lv_bipush (v := nI 24) hx hb dX2_fallWanted_36 (by decide) ?_
        have hF3 : fD g Λ xv σ μ_15 := hF2.t1 ⟨_, _, _, _, k_17⟩ ⟨_, _, _, _, _, k_19⟩ (fun q n1 n2 => by rw [e_16, va_up_ne _ _ n1])
        refine w_call (w_runV (n := 2) (As := [.int (nI sz), .int (nI 24)]) (rest := []) hx hb hml hown hX (c_X2_tryWishes l g μ_15 H.size hF3 hO k_17 k_19 (by omega) (by omega) (by omega) (by omega) (by omega) (by omega) (by omega) (by omega) h1 h2 (by omega)) kw405 kw1 kw402 kw404 kp18 wn_X2_tryWishes rfl k_18 rfl ⟨Nat.le_of_ble_eq_true rfl, Nat.le_of_ble_eq_true rfl⟩ hl.1 rfl (Nat.le_of_ble_eq_true rfl) dX2_fallWanted_38 ⟨Nat.le_of_ble_eq_true rfl, Nat.le_of_ble_eq_true rfl⟩) hX (fun r_22 μ_20 H locs q_21 hX hz => ?_)
        obtain ⟨rfl, hF4⟩ := q_21
        refine W.eq (g2 := F0 m 41 ls [.int (nI (tws σ i sz 24 k))]) rfl ?_
        have htw := tws_le σ i sz 24 k
        refine lv_bipush (v := nI 24) hx hb dX2_fallWanted_41 (by decide) ?_
        refine n_ne (tgt := 49) hx hb (by omega) (by omega) dX2_fallWanted_43 (by decide) (fun c_23 => ?_) (fun c_23 => ?_)
        · skip
          refine lv_iinc (v := nI (k + 1)) (lv' := [(4, .int (nI (k + 1))), (3, .ref (Λ 8 i)), (0, .ref (Λ 0 0)), (1, .int x), (2, .int (nI sz))]) hx hb dX2_fallWanted_49 hl (k := 0) rfl (nI_inc _) (by decide) rfl (fun ls hl => ?_)
          refine lv_goto (tgt := 13) hx hb dX2_fallWanted_52 (by decide) ?_
          refine ih (k + 1) _ H locs ls (by omega) (by omega) (by rw [← hv, show 21 - k = (21 - (k + 1)) + 1 by omega]; simp only [wtd, if_neg c_23]) hF4 hX ?_
          exact lv_sub hl [0, 1, 2, 3, 4] rfl
        · skip
          refine lv_iload hx hb dX2_fallWanted_46 (lv_at hl 0 rfl) ?_
          exact vx_ret (w_iret hx hb hr hlocks hX ⟨i, sz, hi, h1, h2, hxe, hse, by rw [← hv, show 21 - k = (20 - k) + 1 by omega]; simp only [wtd, if_pos c_23], hF4⟩ ⟨Nat.le_of_ble_eq_true rfl, Nat.le_of_ble_eq_true rfl⟩ dX2_fallWanted_48)
  exact hloop 22 0 μ H _ ls (by omega) (by omega) rfl hF hX hl

set_option maxHeartbeats 4000000 in
set_option maxRecDepth 100000 in
/-- how many would have to fall -/
theorem c_X2_fallWanted_g (l : Launch) (g : wG) (μ : wMu) (zz : Nat) {Λ σ : sSt} {xv : Option Int64} (hF : fD g Λ xv σ μ) (hO : sOk σ) {i sz : Nat} (hi : i < σ 4 0) (h1 : 1 ≤ sz) (h2 : sz ≤ 20) : wMet l yX2_fallWanted cX2_fallWanted 5 (some .int) 5 0 0 109 g [.ref (Λ 0 0), .int (nI i), .int (nI sz)] μ zz (fun r μ' => r = some (.int (wtd σ i sz 21 0)) ∧ fD g Λ xv σ μ') := by
  refine wMet.of (by decide) (Nat.le_of_ble_eq_true rfl) ?_
  intro p e s m below meth c ls hx hb hr hml hown hlocks hin hl hsz hX
  have hl : lv_has ls 5 [(0, .ref (Λ 0 0)), (1, .int (nI i)), (2, .int (nI sz))] := hl
  obtain ⟨f1, ⟨m1, f2⟩, ⟨m2, f3⟩, f4, f5, f6, f7, ⟨t1, t2, t3, t4, f8⟩, ⟨u1, u2, u3, u4, u5, f9⟩, f10, f11⟩ := id hF
  obtain ⟨o1, o2, o3, o4, o5, o6, o7⟩ := id hO
  refine lv_aload_n hx hb dX2_fallWanted_0 rfl (lv_at hl 0 rfl) ?_
  refine lv_iload_n hx hb dX2_fallWanted_1 rfl (lv_at hl 1 rfl) ?_
  refine w_call (w_runV (n := 1) (As := [.int (nI i)]) (rest := []) hx hb hml hown hX (c_X2_childAt_g l g μ s.heap.size hF hO hi) kw137 kw1 kw134 kw136 kp0 wn_X2_childAt rfl f1 rfl ⟨Nat.le_of_ble_eq_true rfl, Nat.le_of_ble_eq_true rfl⟩ hl.1 rfl (Nat.le_of_ble_eq_true rfl) dX2_fallWanted_2 ⟨Nat.le_of_ble_eq_true rfl, Nat.le_of_ble_eq_true rfl⟩) hX (fun r_3 μ_1 H locs q_2 hX hz => ?_)
  obtain ⟨rfl, e_4⟩ := q_2
  rw [e_4] at hX
  refine W.eq (g2 := F0 m 5 ls [.ref (Λ 8 i)]) rfl ?_
  have kc_5 := f7 i hi
  have kc_5b := o4 i hi
  have kw_6 := f6 (σ 8 i) kc_5b.1
  have kw_6b := o3 (σ 8 i) kc_5b.1
  refine lv_astore_n (lv' := [(3, .ref (Λ 8 i)), (0, .ref (Λ 0 0)), (1, .int (nI i)), (2, .int (nI sz))]) hx hb dX2_fallWanted_5 rfl hl (by decide) rfl (fun ls hl => ?_)
  refine lv_iload_n hx hb dX2_fallWanted_6 rfl (lv_at hl 3 rfl) ?_
  refine w_call (w_runS (n := 1) (As := [.int (nI sz)]) (rest := []) hx hb hml hown hX (c_X2_needSize_g l g μ H.size h1 h2) kw226 kw1 kw224 kw225 wn_X2_needSize rfl ⟨Nat.le_of_ble_eq_true rfl, Nat.le_of_ble_eq_true rfl⟩ hl.1 rfl (Nat.le_of_ble_eq_true rfl) dX2_fallWanted_7 ⟨Nat.le_of_ble_eq_true rfl, Nat.le_of_ble_eq_true rfl⟩) hX (fun r_9 μ_7 H locs q_8 hX hz => ?_)
  obtain ⟨rfl, e_10⟩ := q_8
  rw [e_10] at hX
  refine W.eq (g2 := F0 m 10 ls []) rfl ?_
  refine lv_iconst (v := nI 0) hx hb dX2_fallWanted_10 (by decide) ?_
  refine lv_istore (lv' := [(4, .int (nI 0)), (3, .ref (Λ 8 i)), (0, .ref (Λ 0 0)), (1, .int (nI i)), (2, .int (nI sz))]) hx hb dX2_fallWanted_11 hl (by decide) rfl (fun ls hl => ?_)
  have hloop : ∀ (n : Nat) (k : Nat) (ν : wMu) (H : Heap) (locs : List Loc) (ls : Array Slot), 21 < k + n → k ≤ 21 → wtd σ i sz (21 - k) k = wtd σ i sz 21 0 → fD g Λ xv σ ν → wX g (wA μ zz) s H locs ν → lv_has ls 5 [(4, .int (nI k)), (3, .ref (Λ 8 i)), (0, .ref (Λ 0 0)), (1, .int (nI i)), (2, .int (nI sz))] → W p l e ({ frames := 5, cells := 0, slots := 0, locals := 109 } : Room) s m ([.ref (Λ 0 0), .int (nI i), .int (nI sz)] : List Value).toArray below meth c H locs 0 0 (MQ below (wQc g μ zz (fun r μ' => r = some (.int (wtd σ i sz 21 0)) ∧ fD g Λ xv σ μ')) ([.ref (Λ 0 0), .int (nI i), .int (nI sz)] : List Value).toArray s 0 0 (wA μ zz)) (F0 m 13 ls []) := by
    intro n
    induction n with
    | zero => intro k ν H locs ls hn hk hv hF hX hl; exact absurd hn (by omega)
    | succ n ih =>
      intro k ν H locs ls hn hk hv hF hX hl
      obtain ⟨f1, ⟨m1, f2⟩, ⟨m2, f3⟩, f4, f5, f6, f7, ⟨t1, t2, t3, t4, f8⟩, ⟨u1, u2, u3, u4, u5, f9⟩, f10, f11⟩ := id hF
      refine lv_iload hx hb dX2_fallWanted_13 (lv_at hl 0 rfl) ?_
      refine lv_bipush (v := nI 20) hx hb dX2_fallWanted_15 (by decide) ?_
      refine n_gt (tgt := 55) hx hb (by omega) (by omega) dX2_fallWanted_17 (by decide) (fun c_11 => ?_) (fun c_11 => ?_)
      · skip
        refine lv_iconst (v := (-1 : Int32)) hx hb dX2_fallWanted_55 (by decide) ?_
        exact w_iret hx hb hr hlocks hX ⟨by rw [← hv, show k = 21 by omega]; rfl, hF⟩ ⟨Nat.le_of_ble_eq_true rfl, Nat.le_of_ble_eq_true rfl⟩ dX2_fallWanted_56
      · skip
        refine lv_aload_n hx hb dX2_fallWanted_20 rfl (lv_at hl 2 rfl) ?_
        refine lv_aload_n hx hb dX2_fallWanted_21 rfl (lv_at hl 1 rfl) ?_
        refine w_call (w_runV (n := 1) (As := [.ref (Λ 8 i)]) (rest := []) hx hb hml hown hX (c_X2_beginTrial l g ν H.size hF hO hi) kw384 kw1 kw381 kw383 kp14 wn_X2_beginTrial rfl f1 rfl ⟨Nat.le_of_ble_eq_true rfl, Nat.le_of_ble_eq_true rfl⟩ hl.1 rfl (Nat.le_of_ble_eq_true rfl) dX2_fallWanted_22 ⟨Nat.le_of_ble_eq_true rfl, Nat.le_of_ble_eq_true rfl⟩) hX (fun r_14 μ_12 H locs q_13 hX hz => ?_)
        obtain ⟨rfl, hF2, ht, hc⟩ := q_13
        refine W.eq (g2 := F0 m 25 ls []) rfl ?_
        obtain ⟨f1, ⟨m1, f2⟩, ⟨m2, f3⟩, f4, f5, f6, f7, ⟨t1, t2, t3, t4, f8⟩, ⟨u1, u2, u3, u4, u5, f9⟩, f10, f11⟩ := id hF2
        refine lv_aload_n hx hb dX2_fallWanted_25 rfl (lv_at hl 2 rfl) ?_
        refine gX2_2 hx hb hX hown f1 kw110 dX2_fallWanted_26 ?_
        refine lv_iload hx hb dX2_fallWanted_29 (lv_at hl 0 rfl) ?_
        refine pnX1_2 hx hb hX hown ht kw64 dX2_fallWanted_31 (fun H locs hX => ?_)
        obtain ⟨μ_15, e_16⟩ : ∃ z, z = va_up μ_12 (Λ 5 0) (some (.inr (2, [.int (nI (σ 8 i)), .int (nI (σ 5 (σ 8 i))), .int (nI k), .int (nI (σ 7 (σ 8 i)))]))) := ⟨_, rfl⟩
        rw [← e_16] at hX
        have k_17 : μ_15 (Λ 5 0) = some (.inr (2, [.int (nI (σ 8 i)), .int (nI (σ 5 (σ 8 i))), .int (nI k), .int (nI (σ 7 (σ 8 i)))])) := by rw [e_16]; exact va_up_self _ _ _
        have k_18 := (congrFun e_16 (Λ 0 0)).trans ((va_up_ne _ _ (kd_ne f1 ht rfl)).trans f1)
        have k_19 := (congrFun e_16 (Λ 6 0)).trans ((va_up_ne _ _ (kd_ne hc ht rfl)).trans hc)
        refine lv_aload_n hx hb dX2_fallWanted_34 rfl (lv_at hl 2 rfl) ?_
        refine lv_iload_n hx hb dX2_fallWanted_35 rfl (lv_at hl 4 rfl) ?_
        refine lv_bipush (v := nI 24) hx hb dX2_fallWanted_36 (by decide) ?_
        have hF3 : fD g Λ xv σ μ_15 := hF2.t1 ⟨_, _, _, _, k_17⟩ ⟨_, _, _, _, _, k_19⟩ (fun q n1 n2 => by rw [e_16, va_up_ne _ _ n1])
        refine w_call (w_runV (n := 2) (As := [.int (nI sz), .int (nI 24)]) (rest := []) hx hb hml hown hX (c_X2_tryWishes l g μ_15 H.size hF3 hO k_17 k_19 (by omega) (by omega) (by omega) (by omega) (by omega) (by omega) (by omega) (by omega) h1 h2 (by omega)) kw405 kw1 kw402 kw404 kp18 wn_X2_tryWishes rfl k_18 rfl ⟨Nat.le_of_ble_eq_true rfl, Nat.le_of_ble_eq_true rfl⟩ hl.1 rfl (Nat.le_of_ble_eq_true rfl) dX2_fallWanted_38 ⟨Nat.le_of_ble_eq_true rfl, Nat.le_of_ble_eq_true rfl⟩) hX (fun r_22 μ_20 H locs q_21 hX hz => ?_)
        obtain ⟨rfl, hF4⟩ := q_21
        refine W.eq (g2 := F0 m 41 ls [.int (nI (tws σ i sz 24 k))]) rfl ?_
        have htw := tws_le σ i sz 24 k
        refine lv_bipush (v := nI 24) hx hb dX2_fallWanted_41 (by decide) ?_
        refine n_ne (tgt := 49) hx hb (by omega) (by omega) dX2_fallWanted_43 (by decide) (fun c_23 => ?_) (fun c_23 => ?_)
        · skip
          refine lv_iinc (v := nI (k + 1)) (lv' := [(4, .int (nI (k + 1))), (3, .ref (Λ 8 i)), (0, .ref (Λ 0 0)), (1, .int (nI i)), (2, .int (nI sz))]) hx hb dX2_fallWanted_49 hl (k := 0) rfl (nI_inc _) (by decide) rfl (fun ls hl => ?_)
          refine lv_goto (tgt := 13) hx hb dX2_fallWanted_52 (by decide) ?_
          refine ih (k + 1) _ H locs ls (by omega) (by omega) (by rw [← hv, show 21 - k = (21 - (k + 1)) + 1 by omega]; simp only [wtd, if_neg c_23]) hF4 hX ?_
          exact lv_sub hl [0, 1, 2, 3, 4] rfl
        · skip
          refine lv_iload hx hb dX2_fallWanted_46 (lv_at hl 0 rfl) ?_
          exact w_iret hx hb hr hlocks hX ⟨by rw [← hv, show 21 - k = (20 - k) + 1 by omega]; simp only [wtd, if_pos c_23], hF4⟩ ⟨Nat.le_of_ble_eq_true rfl, Nat.le_of_ble_eq_true rfl⟩ dX2_fallWanted_48
  exact hloop 22 0 μ H _ ls (by omega) (by omega) rfl hF hX hl

