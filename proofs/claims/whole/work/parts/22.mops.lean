theorem n_iastR {p : Program} {l : Launch} {e : Env} {R : Room} {s : State} {m : MethodId} {args : Array Value} {below : List Frame} {meth : Method} {c : Code} {H : Heap} {locs : List Loc} {cells slots : Nat} {Q : State → Prop} {cc : ByteArray} {pc : Nat} {ls : Array Slot} {rest : List Value} {A : Nat → Prop} {a : Nat} {g : wG} {μ : wMu}
    (hexec : p.tables.exec = Jvm.exec) (hb : c.code = cc) (hX : wX g A s H locs μ) {τ : sSt} {n k j v : Nat} (he : μ a = some (.inl (gI g, n, .inl (fun i => nI (τ k i))))) (hj : j < n) (hn : n < 2 ^ 31) (hdg : decode cc pc = .ok (.iastore, 1))
    (kk : ∀ (H1 : Heap) (locs1 : List Loc), wX g A s H1 locs1 (va_up μ a (some (.inl (gI g, n, .inl (fun i => nI (up2 τ k j v k i)))))) → W p l e R s m args below meth c H1 locs1 cells slots Q (F0 m (pc + 1) ls rest)) : W p l e R s m args below meth c H locs cells slots Q (F0 m pc ls (.int (nI v) :: .int (nI j) :: .ref a :: rest)) :=
  n_iast hexec hb hX he hj hn hdg (fun H1 l1 h => kk H1 l1 (by rw [nI_upd] at h; exact h))
theorem up2_same {τ : sSt} {f i v : Nat} (h : τ f i = v) : up2 τ f i v = τ := by
  funext f' i'
  unfold up2
  split
  · rename_i z; rw [z.1, z.2, h]
  · rfl
set_option maxHeartbeats 4000000 in
set_option maxRecDepth 100000 in
/-- a number -/
theorem c_X3_hour (l : Launch) (g : wG) (μ : wMu) (zz : Nat) {Ω : Nat → Nat} {σ : sSt} {th : Nat} (hM : mD g Ω th σ μ) (hO : sOk σ)  : wMet l yX3_hour cX3_hour 1 (some .int) 1 0 0 21 g [.ref (Ω 0)] μ zz (fun r μ' => r = some (.int (nI (σ 0 0))) ∧ mD g Ω 0 σ μ') := by
  refine wMet.of (by decide) (Nat.le_of_ble_eq_true rfl) ?_
  intro p e s m below meth c ls hx hb hr hml hown hlocks hin hl hsz hX
  have hl : lv_has ls 1 [(0, .ref (Ω 0))] := hl
  obtain ⟨r0, r5, r6, r7, r8, r9, r10, r11, r12, r13, hD⟩ := id hM
  obtain ⟨o1, o2, o3, o4, o5, o6, o7⟩ := id hO
  refine lv_aload_n hx hb dX3_hour_0 rfl (lv_at hl 0 rfl) ?_
  refine lv_aload_n hx hb dX3_hour_1 rfl (lv_at hl 0 rfl) ?_
  refine gX3_3 hx hb hX hown r0 kw632 dX3_hour_2 ?_
  refine w_call (w_runV (n := 1) (As := [.int (nI (σ 0 0))]) (rest := []) hx hb hml hown hX (c_X3_ok l g μ s.heap.size hM hO) kw758 kw7 kw755 kw757 kp34 wn_X3_ok rfl r0 rfl ⟨Nat.le_of_ble_eq_true rfl, Nat.le_of_ble_eq_true rfl⟩ hl.1 rfl (Nat.le_of_ble_eq_true rfl) dX3_hour_5 ⟨Nat.le_of_ble_eq_true rfl, Nat.le_of_ble_eq_true rfl⟩) hX (fun r_3 μ_1 H locs q_2 hX hz => ?_)
  obtain ⟨rfl, hMk⟩ := q_2
  refine W.eq (g2 := F0 m 8 ls [.int (nI (σ 0 0))]) rfl ?_
  exact w_iret hx hb hr hlocks hX ⟨rfl, hMk⟩ ⟨Nat.le_of_ble_eq_true rfl, Nat.le_of_ble_eq_true rfl⟩ dX3_hour_8

set_option maxHeartbeats 4000000 in
set_option maxRecDepth 100000 in
/-- a number -/
theorem c_X3_day (l : Launch) (g : wG) (μ : wMu) (zz : Nat) {Ω : Nat → Nat} {σ : sSt} {th : Nat} (hM : mD g Ω th σ μ) (hO : sOk σ)  : wMet l yX3_day cX3_day 1 (some .int) 1 0 0 21 g [.ref (Ω 0)] μ zz (fun r μ' => r = some (.int (nI (σ 0 0 / 24))) ∧ mD g Ω 0 σ μ') := by
  refine wMet.of (by decide) (Nat.le_of_ble_eq_true rfl) ?_
  intro p e s m below meth c ls hx hb hr hml hown hlocks hin hl hsz hX
  have hl : lv_has ls 1 [(0, .ref (Ω 0))] := hl
  obtain ⟨r0, r5, r6, r7, r8, r9, r10, r11, r12, r13, hD⟩ := id hM
  obtain ⟨o1, o2, o3, o4, o5, o6, o7⟩ := id hO
  refine lv_aload_n hx hb dX3_day_0 rfl (lv_at hl 0 rfl) ?_
  refine lv_aload_n hx hb dX3_day_1 rfl (lv_at hl 0 rfl) ?_
  refine gX3_3 hx hb hX hown r0 kw632 dX3_day_2 ?_
  refine w_call (w_runS (n := 1) (As := [.int (nI (σ 0 0))]) (rest := [.ref (Ω 0)]) hx hb hml hown hX (c_X3_dayOf l g μ s.heap.size (by omega)) kw701 kw7 kw699 kw700 wn_X3_dayOf rfl ⟨Nat.le_of_ble_eq_true rfl, Nat.le_of_ble_eq_true rfl⟩ hl.1 rfl (Nat.le_of_ble_eq_true rfl) dX3_day_5 ⟨Nat.le_of_ble_eq_true rfl, Nat.le_of_ble_eq_true rfl⟩) hX (fun r_3 μ_1 H locs q_2 hX hz => ?_)
  obtain ⟨rfl, e_4⟩ := q_2
  rw [e_4] at hX
  refine W.eq (g2 := F0 m 8 ls [.int (nI (σ 0 0 / 24)), .ref (Ω 0)]) rfl ?_
  refine w_call (w_runV (n := 1) (As := [.int (nI (σ 0 0 / 24))]) (rest := []) hx hb hml hown hX (c_X3_ok l g μ H.size hM hO) kw758 kw7 kw755 kw757 kp34 wn_X3_ok rfl r0 rfl ⟨Nat.le_of_ble_eq_true rfl, Nat.le_of_ble_eq_true rfl⟩ hl.1 rfl (Nat.le_of_ble_eq_true rfl) dX3_day_8 ⟨Nat.le_of_ble_eq_true rfl, Nat.le_of_ble_eq_true rfl⟩) hX (fun r_7 μ_5 H locs q_6 hX hz => ?_)
  obtain ⟨rfl, hMk⟩ := q_6
  refine W.eq (g2 := F0 m 11 ls [.int (nI (σ 0 0 / 24))]) rfl ?_
  exact w_iret hx hb hr hlocks hX ⟨rfl, hMk⟩ ⟨Nat.le_of_ble_eq_true rfl, Nat.le_of_ble_eq_true rfl⟩ dX3_day_11

set_option maxHeartbeats 4000000 in
set_option maxRecDepth 100000 in
/-- a number -/
theorem c_X3_wands (l : Launch) (g : wG) (μ : wMu) (zz : Nat) {Ω : Nat → Nat} {σ : sSt} {th : Nat} (hM : mD g Ω th σ μ) (hO : sOk σ)  : wMet l yX3_wands cX3_wands 1 (some .int) 1 0 0 21 g [.ref (Ω 0)] μ zz (fun r μ' => r = some (.int (nI (σ 3 0))) ∧ mD g Ω 0 σ μ') := by
  refine wMet.of (by decide) (Nat.le_of_ble_eq_true rfl) ?_
  intro p e s m below meth c ls hx hb hr hml hown hlocks hin hl hsz hX
  have hl : lv_has ls 1 [(0, .ref (Ω 0))] := hl
  obtain ⟨r0, r5, r6, r7, r8, r9, r10, r11, r12, r13, hD⟩ := id hM
  obtain ⟨o1, o2, o3, o4, o5, o6, o7⟩ := id hO
  refine lv_aload_n hx hb dX3_wands_0 rfl (lv_at hl 0 rfl) ?_
  refine lv_aload_n hx hb dX3_wands_1 rfl (lv_at hl 0 rfl) ?_
  refine gX3_1 hx hb hX hown r0 kw630 dX3_wands_2 ?_
  refine w_call (w_runV (n := 1) (As := [.int (nI (σ 3 0))]) (rest := []) hx hb hml hown hX (c_X3_ok l g μ s.heap.size hM hO) kw758 kw7 kw755 kw757 kp34 wn_X3_ok rfl r0 rfl ⟨Nat.le_of_ble_eq_true rfl, Nat.le_of_ble_eq_true rfl⟩ hl.1 rfl (Nat.le_of_ble_eq_true rfl) dX3_wands_5 ⟨Nat.le_of_ble_eq_true rfl, Nat.le_of_ble_eq_true rfl⟩) hX (fun r_3 μ_1 H locs q_2 hX hz => ?_)
  obtain ⟨rfl, hMk⟩ := q_2
  refine W.eq (g2 := F0 m 8 ls [.int (nI (σ 3 0))]) rfl ?_
  exact w_iret hx hb hr hlocks hX ⟨rfl, hMk⟩ ⟨Nat.le_of_ble_eq_true rfl, Nat.le_of_ble_eq_true rfl⟩ dX3_wands_8

set_option maxHeartbeats 4000000 in
set_option maxRecDepth 100000 in
/-- a number -/
theorem c_X3_children (l : Launch) (g : wG) (μ : wMu) (zz : Nat) {Ω : Nat → Nat} {σ : sSt} {th : Nat} (hM : mD g Ω th σ μ) (hO : sOk σ)  : wMet l yX3_children cX3_children 1 (some .int) 1 0 0 21 g [.ref (Ω 0)] μ zz (fun r μ' => r = some (.int (nI (σ 4 0))) ∧ mD g Ω 0 σ μ') := by
  refine wMet.of (by decide) (Nat.le_of_ble_eq_true rfl) ?_
  intro p e s m below meth c ls hx hb hr hml hown hlocks hin hl hsz hX
  have hl : lv_has ls 1 [(0, .ref (Ω 0))] := hl
  obtain ⟨r0, r5, r6, r7, r8, r9, r10, r11, r12, r13, hD⟩ := id hM
  obtain ⟨o1, o2, o3, o4, o5, o6, o7⟩ := id hO
  refine lv_aload_n hx hb dX3_children_0 rfl (lv_at hl 0 rfl) ?_
  refine lv_aload_n hx hb dX3_children_1 rfl (lv_at hl 0 rfl) ?_
  refine gX3_2 hx hb hX hown r0 kw631 dX3_children_2 ?_
  refine w_call (w_runV (n := 1) (As := [.int (nI (σ 4 0))]) (rest := []) hx hb hml hown hX (c_X3_ok l g μ s.heap.size hM hO) kw758 kw7 kw755 kw757 kp34 wn_X3_ok rfl r0 rfl ⟨Nat.le_of_ble_eq_true rfl, Nat.le_of_ble_eq_true rfl⟩ hl.1 rfl (Nat.le_of_ble_eq_true rfl) dX3_children_5 ⟨Nat.le_of_ble_eq_true rfl, Nat.le_of_ble_eq_true rfl⟩) hX (fun r_3 μ_1 H locs q_2 hX hz => ?_)
  obtain ⟨rfl, hMk⟩ := q_2
  refine W.eq (g2 := F0 m 8 ls [.int (nI (σ 4 0))]) rfl ?_
  exact w_iret hx hb hr hlocks hX ⟨rfl, hMk⟩ ⟨Nat.le_of_ble_eq_true rfl, Nat.le_of_ble_eq_true rfl⟩ dX3_children_8

set_option maxHeartbeats 4000000 in
set_option maxRecDepth 100000 in
/-- a number -/
theorem c_X3_granted (l : Launch) (g : wG) (μ : wMu) (zz : Nat) {Ω : Nat → Nat} {σ : sSt} {th : Nat} (hM : mD g Ω th σ μ) (hO : sOk σ)  : wMet l yX3_granted cX3_granted 1 (some .int) 1 0 0 21 g [.ref (Ω 0)] μ zz (fun r μ' => r = some (.int (nI (σ 1 0))) ∧ mD g Ω 0 σ μ') := by
  refine wMet.of (by decide) (Nat.le_of_ble_eq_true rfl) ?_
  intro p e s m below meth c ls hx hb hr hml hown hlocks hin hl hsz hX
  have hl : lv_has ls 1 [(0, .ref (Ω 0))] := hl
  obtain ⟨r0, r5, r6, r7, r8, r9, r10, r11, r12, r13, hD⟩ := id hM
  obtain ⟨o1, o2, o3, o4, o5, o6, o7⟩ := id hO
  refine lv_aload_n hx hb dX3_granted_0 rfl (lv_at hl 0 rfl) ?_
  refine lv_aload_n hx hb dX3_granted_1 rfl (lv_at hl 0 rfl) ?_
  refine gX3_4 hx hb hX hown r0 kw633 dX3_granted_2 ?_
  refine w_call (w_runV (n := 1) (As := [.int (nI (σ 1 0))]) (rest := []) hx hb hml hown hX (c_X3_ok l g μ s.heap.size hM hO) kw758 kw7 kw755 kw757 kp34 wn_X3_ok rfl r0 rfl ⟨Nat.le_of_ble_eq_true rfl, Nat.le_of_ble_eq_true rfl⟩ hl.1 rfl (Nat.le_of_ble_eq_true rfl) dX3_granted_5 ⟨Nat.le_of_ble_eq_true rfl, Nat.le_of_ble_eq_true rfl⟩) hX (fun r_3 μ_1 H locs q_2 hX hz => ?_)
  obtain ⟨rfl, hMk⟩ := q_2
  refine W.eq (g2 := F0 m 8 ls [.int (nI (σ 1 0))]) rfl ?_
  exact w_iret hx hb hr hlocks hX ⟨rfl, hMk⟩ ⟨Nat.le_of_ble_eq_true rfl, Nat.le_of_ble_eq_true rfl⟩ dX3_granted_8

set_option maxHeartbeats 4000000 in
set_option maxRecDepth 100000 in
/-- a number -/
theorem c_X3_denied (l : Launch) (g : wG) (μ : wMu) (zz : Nat) {Ω : Nat → Nat} {σ : sSt} {th : Nat} (hM : mD g Ω th σ μ) (hO : sOk σ)  : wMet l yX3_denied cX3_denied 1 (some .int) 1 0 0 21 g [.ref (Ω 0)] μ zz (fun r μ' => r = some (.int (nI (σ 2 0))) ∧ mD g Ω 0 σ μ') := by
  refine wMet.of (by decide) (Nat.le_of_ble_eq_true rfl) ?_
  intro p e s m below meth c ls hx hb hr hml hown hlocks hin hl hsz hX
  have hl : lv_has ls 1 [(0, .ref (Ω 0))] := hl
  obtain ⟨r0, r5, r6, r7, r8, r9, r10, r11, r12, r13, hD⟩ := id hM
  obtain ⟨o1, o2, o3, o4, o5, o6, o7⟩ := id hO
  refine lv_aload_n hx hb dX3_denied_0 rfl (lv_at hl 0 rfl) ?_
  refine lv_aload_n hx hb dX3_denied_1 rfl (lv_at hl 0 rfl) ?_
  refine gX3_5 hx hb hX hown r0 kw634 dX3_denied_2 ?_
  refine w_call (w_runV (n := 1) (As := [.int (nI (σ 2 0))]) (rest := []) hx hb hml hown hX (c_X3_ok l g μ s.heap.size hM hO) kw758 kw7 kw755 kw757 kp34 wn_X3_ok rfl r0 rfl ⟨Nat.le_of_ble_eq_true rfl, Nat.le_of_ble_eq_true rfl⟩ hl.1 rfl (Nat.le_of_ble_eq_true rfl) dX3_denied_5 ⟨Nat.le_of_ble_eq_true rfl, Nat.le_of_ble_eq_true rfl⟩) hX (fun r_3 μ_1 H locs q_2 hX hz => ?_)
  obtain ⟨rfl, hMk⟩ := q_2
  refine W.eq (g2 := F0 m 8 ls [.int (nI (σ 2 0))]) rfl ?_
  exact w_iret hx hb hr hlocks hX ⟨rfl, hMk⟩ ⟨Nat.le_of_ble_eq_true rfl, Nat.le_of_ble_eq_true rfl⟩ dX3_denied_8

set_option maxHeartbeats 4000000 in
set_option maxRecDepth 100000 in
/-- a number -/
theorem c_X3_punished (l : Launch) (g : wG) (μ : wMu) (zz : Nat) {Ω : Nat → Nat} {σ : sSt} {th : Nat} (hM : mD g Ω th σ μ) (hO : sOk σ)  : wMet l yX3_punished cX3_punished 1 (some .int) 1 0 0 22 g [.ref (Ω 0)] μ zz (fun r μ' => r = some (.int (nI (cHel σ (σ 4 0)))) ∧ mD g Ω 0 σ μ') := by
  refine wMet.of (by decide) (Nat.le_of_ble_eq_true rfl) ?_
  intro p e s m below meth c ls hx hb hr hml hown hlocks hin hl hsz hX
  have hl : lv_has ls 1 [(0, .ref (Ω 0))] := hl
  obtain ⟨r0, r5, r6, r7, r8, r9, r10, r11, r12, r13, hD⟩ := id hM
  obtain ⟨o1, o2, o3, o4, o5, o6, o7⟩ := id hO
  refine lv_aload_n hx hb dX3_punished_0 rfl (lv_at hl 0 rfl) ?_
  refine lv_aload_n hx hb dX3_punished_1 rfl (lv_at hl 0 rfl) ?_
  refine w_call (w_runV (n := 0) (As := []) (rest := [.ref (Ω 0)]) hx hb hml hown hX (c_X3_manyHeld l g μ s.heap.size hM hO) kw786 kw7 kw783 kw785 kp35 wn_X3_manyHeld rfl r0 rfl ⟨Nat.le_of_ble_eq_true rfl, Nat.le_of_ble_eq_true rfl⟩ hl.1 rfl (Nat.le_of_ble_eq_true rfl) dX3_punished_2 ⟨Nat.le_of_ble_eq_true rfl, Nat.le_of_ble_eq_true rfl⟩) hX (fun r_3 μ_1 H locs q_2 hX hz => ?_)
  obtain ⟨rfl, e_4⟩ := q_2
  rw [e_4] at hX
  refine W.eq (g2 := F0 m 5 ls [.int (nI (cHel σ (σ 4 0))), .ref (Ω 0)]) rfl ?_
  refine w_call (w_runV (n := 1) (As := [.int (nI (cHel σ (σ 4 0)))]) (rest := []) hx hb hml hown hX (c_X3_ok l g μ H.size hM hO) kw758 kw7 kw755 kw757 kp34 wn_X3_ok rfl r0 rfl ⟨Nat.le_of_ble_eq_true rfl, Nat.le_of_ble_eq_true rfl⟩ hl.1 rfl (Nat.le_of_ble_eq_true rfl) dX3_punished_5 ⟨Nat.le_of_ble_eq_true rfl, Nat.le_of_ble_eq_true rfl⟩) hX (fun r_7 μ_5 H locs q_6 hX hz => ?_)
  obtain ⟨rfl, hMk⟩ := q_6
  refine W.eq (g2 := F0 m 8 ls [.int (nI (cHel σ (σ 4 0)))]) rfl ?_
  exact w_iret hx hb hr hlocks hX ⟨rfl, hMk⟩ ⟨Nat.le_of_ble_eq_true rfl, Nat.le_of_ble_eq_true rfl⟩ dX3_punished_8

set_option maxHeartbeats 4000000 in
set_option maxRecDepth 100000 in
/-- dust -/
theorem c_X3_dustIn (l : Launch) (g : wG) (μ : wMu) (zz : Nat) {Ω : Nat → Nat} {σ : sSt} {th : Nat} (hM : mD g Ω th σ μ) (hO : sOk σ) {x : Int32} : wMet l yX3_dustIn cX3_dustIn 2 (some .int) 2 0 0 43 g [.ref (Ω 0), .int x] μ zz (fun r μ' => ∃ v, r = some (.int v) ∧ mD g Ω (cd1 (isX x (σ 3 0))) (σ) μ' ∧ (cd1 (isX x (σ 3 0)) = 0 → v = nI (σ 7 (toN x)))) := by
  refine wMet.of (by decide) (Nat.le_of_ble_eq_true rfl) ?_
  intro p e s m below meth c ls hx hb hr hml hown hlocks hin hl hsz hX
  have hl : lv_has ls 2 [(0, .ref (Ω 0)), (1, .int x)] := hl
  obtain ⟨r0, r5, r6, r7, r8, r9, r10, r11, r12, r13, hD⟩ := id hM
  obtain ⟨o1, o2, o3, o4, o5, o6, o7⟩ := id hO
  refine lv_aload_n hx hb dX3_dustIn_0 rfl (lv_at hl 0 rfl) ?_
  refine lv_iconst (v := nI 0) hx hb dX3_dustIn_1 (by decide) ?_
  refine pX3_0 hx hb hX hown r0 kw629 dX3_dustIn_2 (fun H locs hX => ?_)
  obtain ⟨μ_1, e_2⟩ : ∃ z, z = va_up μ (Ω 0) (some (.inr (4, [.int (nI 0), .int (nI (σ 3 0)), .int (nI (σ 4 0)), .int (nI (σ 0 0)), .int (nI (σ 1 0)), .int (nI (σ 2 0)), .ref (Ω 5), .ref (Ω 6), .ref (Ω 7), .ref (Ω 8), .ref (Ω 9), .ref (Ω 10), .ref (Ω 11), .ref (Ω 12), .ref (Ω 13)]))) := ⟨_, rfl⟩
  rw [← e_2] at hX
  have k_3 : μ_1 (Ω 0) = some (.inr (4, [.int (nI 0), .int (nI (σ 3 0)), .int (nI (σ 4 0)), .int (nI (σ 0 0)), .int (nI (σ 1 0)), .int (nI (σ 2 0)), .ref (Ω 5), .ref (Ω 6), .ref (Ω 7), .ref (Ω 8), .ref (Ω 9), .ref (Ω 10), .ref (Ω 11), .ref (Ω 12), .ref (Ω 13)])) := by rw [e_2]; exact va_up_self _ _ _
  have k_4 := (congrFun e_2 (Ω 5)).trans ((va_up_ne _ _ (Ne.symm (kd_ne r0 r5 rfl))).trans r5)
  have k_5 := (congrFun e_2 (Ω 6)).trans ((va_up_ne _ _ (Ne.symm (kd_ne r0 r6 rfl))).trans r6)
  have k_6 := (congrFun e_2 (Ω 7)).trans ((va_up_ne _ _ (Ne.symm (kd_ne r0 r7 rfl))).trans r7)
  have k_7 := (congrFun e_2 (Ω 8)).trans ((va_up_ne _ _ (Ne.symm (kd_ne r0 r8 rfl))).trans r8)
  have k_8 := (congrFun e_2 (Ω 9)).trans ((va_up_ne _ _ (Ne.symm (kd_ne r0 r9 rfl))).trans r9)
  have k_9 := (congrFun e_2 (Ω 10)).trans ((va_up_ne _ _ (Ne.symm (kd_ne r0 r10 rfl))).trans r10)
  have k_10 := (congrFun e_2 (Ω 11)).trans ((va_up_ne _ _ (Ne.symm (kd_ne r0 r11 rfl))).trans r11)
  have k_11 := (congrFun e_2 (Ω 12)).trans ((va_up_ne _ _ (Ne.symm (kd_ne r0 r12 rfl))).trans r12)
  have k_12 := (congrFun e_2 (Ω 13)).trans ((va_up_ne _ _ (Ne.symm (kd_ne r0 r13 rfl))).trans r13)
  have hM0 : mD g Ω 0 σ μ_1 := ⟨k_3, k_4, k_5, k_6, k_7, k_8, k_9, k_10, k_11, k_12, hD⟩
  refine lv_aload_n hx hb dX3_dustIn_5 rfl (lv_at hl 0 rfl) ?_
  refine lv_iload_n hx hb dX3_dustIn_6 rfl (lv_at hl 1 rfl) ?_
  refine w_call (w_runV (n := 1) (As := [.int x]) (rest := []) hx hb hml hown hX (c_X3_isWand l g μ_1 H.size hM0 hO) kw698 kw7 kw695 kw697 kp27 wn_X3_isWand rfl k_3 rfl ⟨Nat.le_of_ble_eq_true rfl, Nat.le_of_ble_eq_true rfl⟩ hl.1 rfl (Nat.le_of_ble_eq_true rfl) dX3_dustIn_7 ⟨Nat.le_of_ble_eq_true rfl, Nat.le_of_ble_eq_true rfl⟩) hX (fun r_15 μ_13 H locs q_14 hX hz => ?_)
  obtain ⟨q_17, e_16⟩ := q_14
  rw [e_16] at hX
  obtain ⟨rfl, p_18⟩ | ⟨rfl, p_19⟩ := q_17
  · skip
    refine W.eq (g2 := F0 m 10 ls [.int (nI 1)]) rfl ?_
    have bx := (isX.nI p_18).2
    rw [(isX.nI p_18).1] at hl
    refine n_if_eq (tgt := 22) hx hb (by omega) dX3_dustIn_10 (by decide) (fun h => absurd h (by omega)) (fun _ => ?_)
    refine lv_aload_n hx hb dX3_dustIn_13 rfl (lv_at hl 0 rfl) ?_
    refine gX3_8 hx hb hX hown k_3 kw637 dX3_dustIn_14 ?_
    refine lv_iload_n hx hb dX3_dustIn_17 rfl (lv_at hl 1 rfl) ?_
    refine n_iald hx hb hX k_6 (by omega) (by omega) dX3_dustIn_18 ?_
    refine lv_goto (tgt := 27) hx hb dX3_dustIn_19 (by decide) ?_
    have hcd : cd1 (isX x (σ 3 0)) = 0 := cd1_0 p_18
    exact w_iret hx hb hr hlocks hX ⟨_, rfl, by rw [hcd]; exact hM0, fun _ => rfl⟩ ⟨Nat.le_of_ble_eq_true rfl, Nat.le_of_ble_eq_true rfl⟩ dX3_dustIn_27
  · skip
    refine W.eq (g2 := F0 m 10 ls [.int (nI 0)]) rfl ?_
    refine n_if_eq (tgt := 22) hx hb (by omega) dX3_dustIn_10 (by decide) (fun _ => ?_) (fun h => absurd h (by omega))
    refine lv_aload_n hx hb dX3_dustIn_22 rfl (lv_at hl 0 rfl) ?_
    refine lv_iconst (v := nI 1) hx hb dX3_dustIn_23 (by decide) ?_
    refine w_call (w_runV (n := 1) (As := [.int (nI 1)]) (rest := []) hx hb hml hown hX (c_X3_no l g μ_1 H.size hM0 hO) kw690 kw7 kw687 kw689 kp26 wn_X3_no rfl k_3 rfl ⟨Nat.le_of_ble_eq_true rfl, Nat.le_of_ble_eq_true rfl⟩ hl.1 rfl (Nat.le_of_ble_eq_true rfl) dX3_dustIn_24 ⟨Nat.le_of_ble_eq_true rfl, Nat.le_of_ble_eq_true rfl⟩) hX (fun r_22 μ_20 H locs q_21 hX hz => ?_)
    obtain ⟨rfl, hMk⟩ := q_21
    refine W.eq (g2 := F0 m 27 ls [.int (nI 0)]) rfl ?_
    have hcd : cd1 (isX x (σ 3 0)) = 1 := cd1_1 p_19
    exact w_iret hx hb hr hlocks hX ⟨_, rfl, by rw [hcd]; exact hMk, fun z => by rw [hcd] at z; cases z⟩ ⟨Nat.le_of_ble_eq_true rfl, Nat.le_of_ble_eq_true rfl⟩ dX3_dustIn_27

set_option maxHeartbeats 4000000 in
set_option maxRecDepth 100000 in
/-- users -/
theorem c_X3_users (l : Launch) (g : wG) (μ : wMu) (zz : Nat) {Ω : Nat → Nat} {σ : sSt} {th : Nat} (hM : mD g Ω th σ μ) (hO : sOk σ) {x : Int32} : wMet l yX3_users cX3_users 2 (some .int) 2 0 0 43 g [.ref (Ω 0), .int x] μ zz (fun r μ' => ∃ v, r = some (.int v) ∧ mD g Ω (cd1 (isX x (σ 3 0))) (σ) μ' ∧ (cd1 (isX x (σ 3 0)) = 0 → v = nI (cUsr σ (toN x) (σ 4 0)))) := by
  refine wMet.of (by decide) (Nat.le_of_ble_eq_true rfl) ?_
  intro p e s m below meth c ls hx hb hr hml hown hlocks hin hl hsz hX
  have hl : lv_has ls 2 [(0, .ref (Ω 0)), (1, .int x)] := hl
  obtain ⟨r0, r5, r6, r7, r8, r9, r10, r11, r12, r13, hD⟩ := id hM
  obtain ⟨o1, o2, o3, o4, o5, o6, o7⟩ := id hO
  refine lv_aload_n hx hb dX3_users_0 rfl (lv_at hl 0 rfl) ?_
  refine lv_iconst (v := nI 0) hx hb dX3_users_1 (by decide) ?_
  refine pX3_0 hx hb hX hown r0 kw629 dX3_users_2 (fun H locs hX => ?_)
  obtain ⟨μ_1, e_2⟩ : ∃ z, z = va_up μ (Ω 0) (some (.inr (4, [.int (nI 0), .int (nI (σ 3 0)), .int (nI (σ 4 0)), .int (nI (σ 0 0)), .int (nI (σ 1 0)), .int (nI (σ 2 0)), .ref (Ω 5), .ref (Ω 6), .ref (Ω 7), .ref (Ω 8), .ref (Ω 9), .ref (Ω 10), .ref (Ω 11), .ref (Ω 12), .ref (Ω 13)]))) := ⟨_, rfl⟩
  rw [← e_2] at hX
  have k_3 : μ_1 (Ω 0) = some (.inr (4, [.int (nI 0), .int (nI (σ 3 0)), .int (nI (σ 4 0)), .int (nI (σ 0 0)), .int (nI (σ 1 0)), .int (nI (σ 2 0)), .ref (Ω 5), .ref (Ω 6), .ref (Ω 7), .ref (Ω 8), .ref (Ω 9), .ref (Ω 10), .ref (Ω 11), .ref (Ω 12), .ref (Ω 13)])) := by rw [e_2]; exact va_up_self _ _ _
  have k_4 := (congrFun e_2 (Ω 5)).trans ((va_up_ne _ _ (Ne.symm (kd_ne r0 r5 rfl))).trans r5)
  have k_5 := (congrFun e_2 (Ω 6)).trans ((va_up_ne _ _ (Ne.symm (kd_ne r0 r6 rfl))).trans r6)
  have k_6 := (congrFun e_2 (Ω 7)).trans ((va_up_ne _ _ (Ne.symm (kd_ne r0 r7 rfl))).trans r7)
  have k_7 := (congrFun e_2 (Ω 8)).trans ((va_up_ne _ _ (Ne.symm (kd_ne r0 r8 rfl))).trans r8)
  have k_8 := (congrFun e_2 (Ω 9)).trans ((va_up_ne _ _ (Ne.symm (kd_ne r0 r9 rfl))).trans r9)
  have k_9 := (congrFun e_2 (Ω 10)).trans ((va_up_ne _ _ (Ne.symm (kd_ne r0 r10 rfl))).trans r10)
  have k_10 := (congrFun e_2 (Ω 11)).trans ((va_up_ne _ _ (Ne.symm (kd_ne r0 r11 rfl))).trans r11)
  have k_11 := (congrFun e_2 (Ω 12)).trans ((va_up_ne _ _ (Ne.symm (kd_ne r0 r12 rfl))).trans r12)
  have k_12 := (congrFun e_2 (Ω 13)).trans ((va_up_ne _ _ (Ne.symm (kd_ne r0 r13 rfl))).trans r13)
  have hM0 : mD g Ω 0 σ μ_1 := ⟨k_3, k_4, k_5, k_6, k_7, k_8, k_9, k_10, k_11, k_12, hD⟩
  refine lv_aload_n hx hb dX3_users_5 rfl (lv_at hl 0 rfl) ?_
  refine lv_iload_n hx hb dX3_users_6 rfl (lv_at hl 1 rfl) ?_
  refine w_call (w_runV (n := 1) (As := [.int x]) (rest := []) hx hb hml hown hX (c_X3_isWand l g μ_1 H.size hM0 hO) kw698 kw7 kw695 kw697 kp27 wn_X3_isWand rfl k_3 rfl ⟨Nat.le_of_ble_eq_true rfl, Nat.le_of_ble_eq_true rfl⟩ hl.1 rfl (Nat.le_of_ble_eq_true rfl) dX3_users_7 ⟨Nat.le_of_ble_eq_true rfl, Nat.le_of_ble_eq_true rfl⟩) hX (fun r_15 μ_13 H locs q_14 hX hz => ?_)
  obtain ⟨q_17, e_16⟩ := q_14
  rw [e_16] at hX
  obtain ⟨rfl, p_18⟩ | ⟨rfl, p_19⟩ := q_17
  · skip
    refine W.eq (g2 := F0 m 10 ls [.int (nI 1)]) rfl ?_
    have bx := (isX.nI p_18).2
    rw [(isX.nI p_18).1] at hl
    refine n_if_eq (tgt := 21) hx hb (by omega) dX3_users_10 (by decide) (fun h => absurd h (by omega)) (fun _ => ?_)
    refine lv_aload_n hx hb dX3_users_13 rfl (lv_at hl 0 rfl) ?_
    refine lv_iload_n hx hb dX3_users_14 rfl (lv_at hl 1 rfl) ?_
    refine w_call (w_runV (n := 1) (As := [.int (nI (toN x))]) (rest := []) hx hb hml hown hX (c_X3_using l g μ_1 H.size hM0 hO bx) kw798 kw7 kw795 kw797 kp36 wn_X3_using rfl k_3 rfl ⟨Nat.le_of_ble_eq_true rfl, Nat.le_of_ble_eq_true rfl⟩ hl.1 rfl (Nat.le_of_ble_eq_true rfl) dX3_users_15 ⟨Nat.le_of_ble_eq_true rfl, Nat.le_of_ble_eq_true rfl⟩) hX (fun r_22 μ_20 H locs q_21 hX hz => ?_)
    obtain ⟨rfl, e_23⟩ := q_21
    rw [e_23] at hX
    refine W.eq (g2 := F0 m 18 ls [.int (nI (cUsr σ (toN x) (σ 4 0)))]) rfl ?_
    refine lv_goto (tgt := 26) hx hb dX3_users_18 (by decide) ?_
    have hcd : cd1 (isX x (σ 3 0)) = 0 := cd1_0 p_18
    exact w_iret hx hb hr hlocks hX ⟨_, rfl, by rw [hcd]; exact hM0, fun _ => rfl⟩ ⟨Nat.le_of_ble_eq_true rfl, Nat.le_of_ble_eq_true rfl⟩ dX3_users_26
  · skip
    refine W.eq (g2 := F0 m 10 ls [.int (nI 0)]) rfl ?_
    refine n_if_eq (tgt := 21) hx hb (by omega) dX3_users_10 (by decide) (fun _ => ?_) (fun h => absurd h (by omega))
    refine lv_aload_n hx hb dX3_users_21 rfl (lv_at hl 0 rfl) ?_
    refine lv_iconst (v := nI 1) hx hb dX3_users_22 (by decide) ?_
    refine w_call (w_runV (n := 1) (As := [.int (nI 1)]) (rest := []) hx hb hml hown hX (c_X3_no l g μ_1 H.size hM0 hO) kw690 kw7 kw687 kw689 kp26 wn_X3_no rfl k_3 rfl ⟨Nat.le_of_ble_eq_true rfl, Nat.le_of_ble_eq_true rfl⟩ hl.1 rfl (Nat.le_of_ble_eq_true rfl) dX3_users_23 ⟨Nat.le_of_ble_eq_true rfl, Nat.le_of_ble_eq_true rfl⟩) hX (fun r_26 μ_24 H locs q_25 hX hz => ?_)
    obtain ⟨rfl, hMk⟩ := q_25
    refine W.eq (g2 := F0 m 26 ls [.int (nI 0)]) rfl ?_
    have hcd : cd1 (isX x (σ 3 0)) = 1 := cd1_1 p_19
    exact w_iret hx hb hr hlocks hX ⟨_, rfl, by rw [hcd]; exact hMk, fun z => by rw [hcd] at z; cases z⟩ ⟨Nat.le_of_ble_eq_true rfl, Nat.le_of_ble_eq_true rfl⟩ dX3_users_26

set_option maxHeartbeats 4000000 in
set_option maxRecDepth 100000 in
/-- until full -/
theorem c_X3_hoursUntilFull (l : Launch) (g : wG) (μ : wMu) (zz : Nat) {Ω : Nat → Nat} {σ : sSt} {th : Nat} (hM : mD g Ω th σ μ) (hO : sOk σ) {x : Int32} : wMet l yX3_hoursUntilFull cX3_hoursUntilFull 2 (some .int) 2 0 0 43 g [.ref (Ω 0), .int x] μ zz (fun r μ' => ∃ v, r = some (.int v) ∧ mD g Ω (cd1 (isX x (σ 3 0))) (σ) μ' ∧ (cd1 (isX x (σ 3 0)) = 0 → v = vFul σ (toN x))) := by
  refine wMet.of (by decide) (Nat.le_of_ble_eq_true rfl) ?_
  intro p e s m below meth c ls hx hb hr hml hown hlocks hin hl hsz hX
  have hl : lv_has ls 2 [(0, .ref (Ω 0)), (1, .int x)] := hl
  obtain ⟨r0, r5, r6, r7, r8, r9, r10, r11, r12, r13, hD⟩ := id hM
  obtain ⟨o1, o2, o3, o4, o5, o6, o7⟩ := id hO
  refine lv_aload_n hx hb dX3_hoursUntilFull_0 rfl (lv_at hl 0 rfl) ?_
  refine lv_iconst (v := nI 0) hx hb dX3_hoursUntilFull_1 (by decide) ?_
  refine pX3_0 hx hb hX hown r0 kw629 dX3_hoursUntilFull_2 (fun H locs hX => ?_)
  obtain ⟨μ_1, e_2⟩ : ∃ z, z = va_up μ (Ω 0) (some (.inr (4, [.int (nI 0), .int (nI (σ 3 0)), .int (nI (σ 4 0)), .int (nI (σ 0 0)), .int (nI (σ 1 0)), .int (nI (σ 2 0)), .ref (Ω 5), .ref (Ω 6), .ref (Ω 7), .ref (Ω 8), .ref (Ω 9), .ref (Ω 10), .ref (Ω 11), .ref (Ω 12), .ref (Ω 13)]))) := ⟨_, rfl⟩
  rw [← e_2] at hX
  have k_3 : μ_1 (Ω 0) = some (.inr (4, [.int (nI 0), .int (nI (σ 3 0)), .int (nI (σ 4 0)), .int (nI (σ 0 0)), .int (nI (σ 1 0)), .int (nI (σ 2 0)), .ref (Ω 5), .ref (Ω 6), .ref (Ω 7), .ref (Ω 8), .ref (Ω 9), .ref (Ω 10), .ref (Ω 11), .ref (Ω 12), .ref (Ω 13)])) := by rw [e_2]; exact va_up_self _ _ _
  have k_4 := (congrFun e_2 (Ω 5)).trans ((va_up_ne _ _ (Ne.symm (kd_ne r0 r5 rfl))).trans r5)
  have k_5 := (congrFun e_2 (Ω 6)).trans ((va_up_ne _ _ (Ne.symm (kd_ne r0 r6 rfl))).trans r6)
  have k_6 := (congrFun e_2 (Ω 7)).trans ((va_up_ne _ _ (Ne.symm (kd_ne r0 r7 rfl))).trans r7)
  have k_7 := (congrFun e_2 (Ω 8)).trans ((va_up_ne _ _ (Ne.symm (kd_ne r0 r8 rfl))).trans r8)
  have k_8 := (congrFun e_2 (Ω 9)).trans ((va_up_ne _ _ (Ne.symm (kd_ne r0 r9 rfl))).trans r9)
  have k_9 := (congrFun e_2 (Ω 10)).trans ((va_up_ne _ _ (Ne.symm (kd_ne r0 r10 rfl))).trans r10)
  have k_10 := (congrFun e_2 (Ω 11)).trans ((va_up_ne _ _ (Ne.symm (kd_ne r0 r11 rfl))).trans r11)
  have k_11 := (congrFun e_2 (Ω 12)).trans ((va_up_ne _ _ (Ne.symm (kd_ne r0 r12 rfl))).trans r12)
  have k_12 := (congrFun e_2 (Ω 13)).trans ((va_up_ne _ _ (Ne.symm (kd_ne r0 r13 rfl))).trans r13)
  have hM0 : mD g Ω 0 σ μ_1 := ⟨k_3, k_4, k_5, k_6, k_7, k_8, k_9, k_10, k_11, k_12, hD⟩
  refine lv_aload_n hx hb dX3_hoursUntilFull_5 rfl (lv_at hl 0 rfl) ?_
  refine lv_iload_n hx hb dX3_hoursUntilFull_6 rfl (lv_at hl 1 rfl) ?_
  refine w_call (w_runV (n := 1) (As := [.int x]) (rest := []) hx hb hml hown hX (c_X3_isWand l g μ_1 H.size hM0 hO) kw698 kw7 kw695 kw697 kp27 wn_X3_isWand rfl k_3 rfl ⟨Nat.le_of_ble_eq_true rfl, Nat.le_of_ble_eq_true rfl⟩ hl.1 rfl (Nat.le_of_ble_eq_true rfl) dX3_hoursUntilFull_7 ⟨Nat.le_of_ble_eq_true rfl, Nat.le_of_ble_eq_true rfl⟩) hX (fun r_15 μ_13 H locs q_14 hX hz => ?_)
  obtain ⟨q_17, e_16⟩ := q_14
  rw [e_16] at hX
  obtain ⟨rfl, p_18⟩ | ⟨rfl, p_19⟩ := q_17
  · skip
    refine W.eq (g2 := F0 m 10 ls [.int (nI 1)]) rfl ?_
    have bx := (isX.nI p_18).2
    rw [(isX.nI p_18).1] at hl
    refine n_if_eq (tgt := 21) hx hb (by omega) dX3_hoursUntilFull_10 (by decide) (fun h => absurd h (by omega)) (fun _ => ?_)
    refine lv_aload_n hx hb dX3_hoursUntilFull_13 rfl (lv_at hl 0 rfl) ?_
    refine lv_iload_n hx hb dX3_hoursUntilFull_14 rfl (lv_at hl 1 rfl) ?_
    refine w_call (w_runV (n := 1) (As := [.int (nI (toN x))]) (rest := []) hx hb hml hown hX (c_X3_untilFull l g μ_1 H.size hM0 hO bx) kw870 kw7 kw867 kw869 kp43 wn_X3_untilFull rfl k_3 rfl ⟨Nat.le_of_ble_eq_true rfl, Nat.le_of_ble_eq_true rfl⟩ hl.1 rfl (Nat.le_of_ble_eq_true rfl) dX3_hoursUntilFull_15 ⟨Nat.le_of_ble_eq_true rfl, Nat.le_of_ble_eq_true rfl⟩) hX (fun r_22 μ_20 H locs q_21 hX hz => ?_)
    obtain ⟨rfl, e_23⟩ := q_21
    rw [e_23] at hX
    refine W.eq (g2 := F0 m 18 ls [.int (vFul σ (toN x))]) rfl ?_
    refine lv_goto (tgt := 26) hx hb dX3_hoursUntilFull_18 (by decide) ?_
    have hcd : cd1 (isX x (σ 3 0)) = 0 := cd1_0 p_18
    exact w_iret hx hb hr hlocks hX ⟨_, rfl, by rw [hcd]; exact hM0, fun _ => rfl⟩ ⟨Nat.le_of_ble_eq_true rfl, Nat.le_of_ble_eq_true rfl⟩ dX3_hoursUntilFull_26
  · skip
    refine W.eq (g2 := F0 m 10 ls [.int (nI 0)]) rfl ?_
    refine n_if_eq (tgt := 21) hx hb (by omega) dX3_hoursUntilFull_10 (by decide) (fun _ => ?_) (fun h => absurd h (by omega))
    refine lv_aload_n hx hb dX3_hoursUntilFull_21 rfl (lv_at hl 0 rfl) ?_
    refine lv_iconst (v := nI 1) hx hb dX3_hoursUntilFull_22 (by decide) ?_
    refine w_call (w_runV (n := 1) (As := [.int (nI 1)]) (rest := []) hx hb hml hown hX (c_X3_no l g μ_1 H.size hM0 hO) kw690 kw7 kw687 kw689 kp26 wn_X3_no rfl k_3 rfl ⟨Nat.le_of_ble_eq_true rfl, Nat.le_of_ble_eq_true rfl⟩ hl.1 rfl (Nat.le_of_ble_eq_true rfl) dX3_hoursUntilFull_23 ⟨Nat.le_of_ble_eq_true rfl, Nat.le_of_ble_eq_true rfl⟩) hX (fun r_26 μ_24 H locs q_25 hX hz => ?_)
    obtain ⟨rfl, hMk⟩ := q_25
    refine W.eq (g2 := F0 m 26 ls [.int (nI 0)]) rfl ?_
    have hcd : cd1 (isX x (σ 3 0)) = 1 := cd1_1 p_19
    exact w_iret hx hb hr hlocks hX ⟨_, rfl, by rw [hcd]; exact hMk, fun z => by rw [hcd] at z; cases z⟩ ⟨Nat.le_of_ble_eq_true rfl, Nat.le_of_ble_eq_true rfl⟩ dX3_hoursUntilFull_26

set_option maxHeartbeats 4000000 in
set_option maxRecDepth 100000 in
/-- a row -/
theorem c_X3_of_8 (l : Launch) (g : wG) (μ : wMu) (zz : Nat) {Ω : Nat → Nat} {σ : sSt} {th : Nat} (hM : mD g Ω th σ μ) (hO : sOk σ) {x : Int32} : wMet l yX3_of cX3_of 3 (some .int) 2 0 0 43 g [.ref (Ω 0), .ref (Ω 8), .int x] μ zz (fun r μ' => ∃ v, r = some (.int v) ∧ mD g Ω (cd1 (isX x (σ 4 0))) (σ) μ' ∧ (cd1 (isX x (σ 4 0)) = 0 → v = nI (σ 8 (toN x)))) := by
  refine wMet.of (by decide) (Nat.le_of_ble_eq_true rfl) ?_
  intro p e s m below meth c ls hx hb hr hml hown hlocks hin hl hsz hX
  have hl : lv_has ls 3 [(0, .ref (Ω 0)), (1, .ref (Ω 8)), (2, .int x)] := hl
  obtain ⟨r0, r5, r6, r7, r8, r9, r10, r11, r12, r13, hD⟩ := id hM
  obtain ⟨o1, o2, o3, o4, o5, o6, o7⟩ := id hO
  refine lv_aload_n hx hb dX3_of_0 rfl (lv_at hl 0 rfl) ?_
  refine lv_iconst (v := nI 0) hx hb dX3_of_1 (by decide) ?_
  refine pX3_0 hx hb hX hown r0 kw629 dX3_of_2 (fun H locs hX => ?_)
  obtain ⟨μ_1, e_2⟩ : ∃ z, z = va_up μ (Ω 0) (some (.inr (4, [.int (nI 0), .int (nI (σ 3 0)), .int (nI (σ 4 0)), .int (nI (σ 0 0)), .int (nI (σ 1 0)), .int (nI (σ 2 0)), .ref (Ω 5), .ref (Ω 6), .ref (Ω 7), .ref (Ω 8), .ref (Ω 9), .ref (Ω 10), .ref (Ω 11), .ref (Ω 12), .ref (Ω 13)]))) := ⟨_, rfl⟩
  rw [← e_2] at hX
  have k_3 : μ_1 (Ω 0) = some (.inr (4, [.int (nI 0), .int (nI (σ 3 0)), .int (nI (σ 4 0)), .int (nI (σ 0 0)), .int (nI (σ 1 0)), .int (nI (σ 2 0)), .ref (Ω 5), .ref (Ω 6), .ref (Ω 7), .ref (Ω 8), .ref (Ω 9), .ref (Ω 10), .ref (Ω 11), .ref (Ω 12), .ref (Ω 13)])) := by rw [e_2]; exact va_up_self _ _ _
  have k_4 := (congrFun e_2 (Ω 5)).trans ((va_up_ne _ _ (Ne.symm (kd_ne r0 r5 rfl))).trans r5)
  have k_5 := (congrFun e_2 (Ω 6)).trans ((va_up_ne _ _ (Ne.symm (kd_ne r0 r6 rfl))).trans r6)
  have k_6 := (congrFun e_2 (Ω 7)).trans ((va_up_ne _ _ (Ne.symm (kd_ne r0 r7 rfl))).trans r7)
  have k_7 := (congrFun e_2 (Ω 8)).trans ((va_up_ne _ _ (Ne.symm (kd_ne r0 r8 rfl))).trans r8)
  have k_8 := (congrFun e_2 (Ω 9)).trans ((va_up_ne _ _ (Ne.symm (kd_ne r0 r9 rfl))).trans r9)
  have k_9 := (congrFun e_2 (Ω 10)).trans ((va_up_ne _ _ (Ne.symm (kd_ne r0 r10 rfl))).trans r10)
  have k_10 := (congrFun e_2 (Ω 11)).trans ((va_up_ne _ _ (Ne.symm (kd_ne r0 r11 rfl))).trans r11)
  have k_11 := (congrFun e_2 (Ω 12)).trans ((va_up_ne _ _ (Ne.symm (kd_ne r0 r12 rfl))).trans r12)
  have k_12 := (congrFun e_2 (Ω 13)).trans ((va_up_ne _ _ (Ne.symm (kd_ne r0 r13 rfl))).trans r13)
  have hM0 : mD g Ω 0 σ μ_1 := ⟨k_3, k_4, k_5, k_6, k_7, k_8, k_9, k_10, k_11, k_12, hD⟩
  refine lv_aload_n hx hb dX3_of_5 rfl (lv_at hl 0 rfl) ?_
  refine lv_iload_n hx hb dX3_of_6 rfl (lv_at hl 2 rfl) ?_
  refine w_call (w_runV (n := 1) (As := [.int x]) (rest := []) hx hb hml hown hX (c_X3_isChild l g μ_1 H.size hM0 hO) kw709 kw7 kw706 kw708 kp28 wn_X3_isChild rfl k_3 rfl ⟨Nat.le_of_ble_eq_true rfl, Nat.le_of_ble_eq_true rfl⟩ hl.1 rfl (Nat.le_of_ble_eq_true rfl) dX3_of_7 ⟨Nat.le_of_ble_eq_true rfl, Nat.le_of_ble_eq_true rfl⟩) hX (fun r_15 μ_13 H locs q_14 hX hz => ?_)
  obtain ⟨q_17, e_16⟩ := q_14
  rw [e_16] at hX
  obtain ⟨rfl, p_18⟩ | ⟨rfl, p_19⟩ := q_17
  · skip
    refine W.eq (g2 := F0 m 10 ls [.int (nI 1)]) rfl ?_
    have bx := (isX.nI p_18).2
    rw [(isX.nI p_18).1] at hl
    refine n_if_eq (tgt := 19) hx hb (by omega) dX3_of_10 (by decide) (fun h => absurd h (by omega)) (fun _ => ?_)
    refine lv_aload_n hx hb dX3_of_13 rfl (lv_at hl 1 rfl) ?_
    refine lv_iload_n hx hb dX3_of_14 rfl (lv_at hl 2 rfl) ?_
    refine n_iald hx hb hX k_7 (by omega) (by omega) dX3_of_15 ?_
    refine lv_goto (tgt := 24) hx hb dX3_of_16 (by decide) ?_
    have hcd : cd1 (isX x (σ 4 0)) = 0 := cd1_0 p_18
    exact w_iret hx hb hr hlocks hX ⟨_, rfl, by rw [hcd]; exact hM0, fun _ => rfl⟩ ⟨Nat.le_of_ble_eq_true rfl, Nat.le_of_ble_eq_true rfl⟩ dX3_of_24
  · skip
    refine W.eq (g2 := F0 m 10 ls [.int (nI 0)]) rfl ?_
    refine n_if_eq (tgt := 19) hx hb (by omega) dX3_of_10 (by decide) (fun _ => ?_) (fun h => absurd h (by omega))
    refine lv_aload_n hx hb dX3_of_19 rfl (lv_at hl 0 rfl) ?_
    refine lv_iconst (v := nI 1) hx hb dX3_of_20 (by decide) ?_
    refine w_call (w_runV (n := 1) (As := [.int (nI 1)]) (rest := []) hx hb hml hown hX (c_X3_no l g μ_1 H.size hM0 hO) kw690 kw7 kw687 kw689 kp26 wn_X3_no rfl k_3 rfl ⟨Nat.le_of_ble_eq_true rfl, Nat.le_of_ble_eq_true rfl⟩ hl.1 rfl (Nat.le_of_ble_eq_true rfl) dX3_of_21 ⟨Nat.le_of_ble_eq_true rfl, Nat.le_of_ble_eq_true rfl⟩) hX (fun r_22 μ_20 H locs q_21 hX hz => ?_)
    obtain ⟨rfl, hMk⟩ := q_21
    refine W.eq (g2 := F0 m 24 ls [.int (nI 0)]) rfl ?_
    have hcd : cd1 (isX x (σ 4 0)) = 1 := cd1_1 p_19
    exact w_iret hx hb hr hlocks hX ⟨_, rfl, by rw [hcd]; exact hMk, fun z => by rw [hcd] at z; cases z⟩ ⟨Nat.le_of_ble_eq_true rfl, Nat.le_of_ble_eq_true rfl⟩ dX3_of_24

set_option maxHeartbeats 4000000 in
set_option maxRecDepth 100000 in
/-- a row -/
theorem c_X3_wandOf (l : Launch) (g : wG) (μ : wMu) (zz : Nat) {Ω : Nat → Nat} {σ : sSt} {th : Nat} (hM : mD g Ω th σ μ) (hO : sOk σ) {x : Int32} : wMet l yX3_wandOf cX3_wandOf 2 (some .int) 3 0 0 65 g [.ref (Ω 0), .int x] μ zz (fun r μ' => ∃ v, r = some (.int v) ∧ mD g Ω (cd1 (isX x (σ 4 0))) σ μ' ∧ (cd1 (isX x (σ 4 0)) = 0 → v = nI (σ 8 (toN x)))) := by
  refine wMet.of (by decide) (Nat.le_of_ble_eq_true rfl) ?_
  intro p e s m below meth c ls hx hb hr hml hown hlocks hin hl hsz hX
  have hl : lv_has ls 2 [(0, .ref (Ω 0)), (1, .int x)] := hl
  obtain ⟨r0, r5, r6, r7, r8, r9, r10, r11, r12, r13, hD⟩ := id hM
  obtain ⟨o1, o2, o3, o4, o5, o6, o7⟩ := id hO
  refine lv_aload_n hx hb dX3_wandOf_0 rfl (lv_at hl 0 rfl) ?_
  refine lv_aload_n hx hb dX3_wandOf_1 rfl (lv_at hl 0 rfl) ?_
  refine gX3_9 hx hb hX hown r0 kw638 dX3_wandOf_2 ?_
  refine lv_iload_n hx hb dX3_wandOf_5 rfl (lv_at hl 1 rfl) ?_
  refine w_call (w_runV (n := 2) (As := [.ref (Ω 8), .int x]) (rest := []) hx hb hml hown hX (c_X3_of_8 l g μ s.heap.size hM hO) kw806 kw7 kw803 kw805 kp37 wn_X3_of rfl r0 rfl ⟨Nat.le_of_ble_eq_true rfl, Nat.le_of_ble_eq_true rfl⟩ hl.1 rfl (Nat.le_of_ble_eq_true rfl) dX3_wandOf_6 ⟨Nat.le_of_ble_eq_true rfl, Nat.le_of_ble_eq_true rfl⟩) hX (fun r_3 μ_1 H locs q_2 hX hz => ?_)
  obtain ⟨v, rfl, hMk, hv⟩ := q_2
  refine W.eq (g2 := F0 m 9 ls [.int v]) rfl ?_
  exact w_iret hx hb hr hlocks hX ⟨v, rfl, hMk, hv⟩ ⟨Nat.le_of_ble_eq_true rfl, Nat.le_of_ble_eq_true rfl⟩ dX3_wandOf_9

set_option maxHeartbeats 4000000 in
set_option maxRecDepth 100000 in
/-- a row -/
theorem c_X3_of_10 (l : Launch) (g : wG) (μ : wMu) (zz : Nat) {Ω : Nat → Nat} {σ : sSt} {th : Nat} (hM : mD g Ω th σ μ) (hO : sOk σ) {x : Int32} : wMet l yX3_of cX3_of 3 (some .int) 2 0 0 43 g [.ref (Ω 0), .ref (Ω 10), .int x] μ zz (fun r μ' => ∃ v, r = some (.int v) ∧ mD g Ω (cd1 (isX x (σ 4 0))) (σ) μ' ∧ (cd1 (isX x (σ 4 0)) = 0 → v = nI (σ 10 (toN x)))) := by
  refine wMet.of (by decide) (Nat.le_of_ble_eq_true rfl) ?_
  intro p e s m below meth c ls hx hb hr hml hown hlocks hin hl hsz hX
  have hl : lv_has ls 3 [(0, .ref (Ω 0)), (1, .ref (Ω 10)), (2, .int x)] := hl
  obtain ⟨r0, r5, r6, r7, r8, r9, r10, r11, r12, r13, hD⟩ := id hM
  obtain ⟨o1, o2, o3, o4, o5, o6, o7⟩ := id hO
  refine lv_aload_n hx hb dX3_of_0 rfl (lv_at hl 0 rfl) ?_
  refine lv_iconst (v := nI 0) hx hb dX3_of_1 (by decide) ?_
  refine pX3_0 hx hb hX hown r0 kw629 dX3_of_2 (fun H locs hX => ?_)
  obtain ⟨μ_1, e_2⟩ : ∃ z, z = va_up μ (Ω 0) (some (.inr (4, [.int (nI 0), .int (nI (σ 3 0)), .int (nI (σ 4 0)), .int (nI (σ 0 0)), .int (nI (σ 1 0)), .int (nI (σ 2 0)), .ref (Ω 5), .ref (Ω 6), .ref (Ω 7), .ref (Ω 8), .ref (Ω 9), .ref (Ω 10), .ref (Ω 11), .ref (Ω 12), .ref (Ω 13)]))) := ⟨_, rfl⟩
  rw [← e_2] at hX
  have k_3 : μ_1 (Ω 0) = some (.inr (4, [.int (nI 0), .int (nI (σ 3 0)), .int (nI (σ 4 0)), .int (nI (σ 0 0)), .int (nI (σ 1 0)), .int (nI (σ 2 0)), .ref (Ω 5), .ref (Ω 6), .ref (Ω 7), .ref (Ω 8), .ref (Ω 9), .ref (Ω 10), .ref (Ω 11), .ref (Ω 12), .ref (Ω 13)])) := by rw [e_2]; exact va_up_self _ _ _
  have k_4 := (congrFun e_2 (Ω 5)).trans ((va_up_ne _ _ (Ne.symm (kd_ne r0 r5 rfl))).trans r5)
  have k_5 := (congrFun e_2 (Ω 6)).trans ((va_up_ne _ _ (Ne.symm (kd_ne r0 r6 rfl))).trans r6)
  have k_6 := (congrFun e_2 (Ω 7)).trans ((va_up_ne _ _ (Ne.symm (kd_ne r0 r7 rfl))).trans r7)
  have k_7 := (congrFun e_2 (Ω 8)).trans ((va_up_ne _ _ (Ne.symm (kd_ne r0 r8 rfl))).trans r8)
  have k_8 := (congrFun e_2 (Ω 9)).trans ((va_up_ne _ _ (Ne.symm (kd_ne r0 r9 rfl))).trans r9)
  have k_9 := (congrFun e_2 (Ω 10)).trans ((va_up_ne _ _ (Ne.symm (kd_ne r0 r10 rfl))).trans r10)
  have k_10 := (congrFun e_2 (Ω 11)).trans ((va_up_ne _ _ (Ne.symm (kd_ne r0 r11 rfl))).trans r11)
  have k_11 := (congrFun e_2 (Ω 12)).trans ((va_up_ne _ _ (Ne.symm (kd_ne r0 r12 rfl))).trans r12)
  have k_12 := (congrFun e_2 (Ω 13)).trans ((va_up_ne _ _ (Ne.symm (kd_ne r0 r13 rfl))).trans r13)
  have hM0 : mD g Ω 0 σ μ_1 := ⟨k_3, k_4, k_5, k_6, k_7, k_8, k_9, k_10, k_11, k_12, hD⟩
  refine lv_aload_n hx hb dX3_of_5 rfl (lv_at hl 0 rfl) ?_
  refine lv_iload_n hx hb dX3_of_6 rfl (lv_at hl 2 rfl) ?_
  refine w_call (w_runV (n := 1) (As := [.int x]) (rest := []) hx hb hml hown hX (c_X3_isChild l g μ_1 H.size hM0 hO) kw709 kw7 kw706 kw708 kp28 wn_X3_isChild rfl k_3 rfl ⟨Nat.le_of_ble_eq_true rfl, Nat.le_of_ble_eq_true rfl⟩ hl.1 rfl (Nat.le_of_ble_eq_true rfl) dX3_of_7 ⟨Nat.le_of_ble_eq_true rfl, Nat.le_of_ble_eq_true rfl⟩) hX (fun r_15 μ_13 H locs q_14 hX hz => ?_)
  obtain ⟨q_17, e_16⟩ := q_14
  rw [e_16] at hX
  obtain ⟨rfl, p_18⟩ | ⟨rfl, p_19⟩ := q_17
  · skip
    refine W.eq (g2 := F0 m 10 ls [.int (nI 1)]) rfl ?_
    have bx := (isX.nI p_18).2
    rw [(isX.nI p_18).1] at hl
    refine n_if_eq (tgt := 19) hx hb (by omega) dX3_of_10 (by decide) (fun h => absurd h (by omega)) (fun _ => ?_)
    refine lv_aload_n hx hb dX3_of_13 rfl (lv_at hl 1 rfl) ?_
    refine lv_iload_n hx hb dX3_of_14 rfl (lv_at hl 2 rfl) ?_
    refine n_iald hx hb hX k_9 (by omega) (by omega) dX3_of_15 ?_
    refine lv_goto (tgt := 24) hx hb dX3_of_16 (by decide) ?_
    have hcd : cd1 (isX x (σ 4 0)) = 0 := cd1_0 p_18
    exact w_iret hx hb hr hlocks hX ⟨_, rfl, by rw [hcd]; exact hM0, fun _ => rfl⟩ ⟨Nat.le_of_ble_eq_true rfl, Nat.le_of_ble_eq_true rfl⟩ dX3_of_24
  · skip
    refine W.eq (g2 := F0 m 10 ls [.int (nI 0)]) rfl ?_
    refine n_if_eq (tgt := 19) hx hb (by omega) dX3_of_10 (by decide) (fun _ => ?_) (fun h => absurd h (by omega))
    refine lv_aload_n hx hb dX3_of_19 rfl (lv_at hl 0 rfl) ?_
    refine lv_iconst (v := nI 1) hx hb dX3_of_20 (by decide) ?_
    refine w_call (w_runV (n := 1) (As := [.int (nI 1)]) (rest := []) hx hb hml hown hX (c_X3_no l g μ_1 H.size hM0 hO) kw690 kw7 kw687 kw689 kp26 wn_X3_no rfl k_3 rfl ⟨Nat.le_of_ble_eq_true rfl, Nat.le_of_ble_eq_true rfl⟩ hl.1 rfl (Nat.le_of_ble_eq_true rfl) dX3_of_21 ⟨Nat.le_of_ble_eq_true rfl, Nat.le_of_ble_eq_true rfl⟩) hX (fun r_22 μ_20 H locs q_21 hX hz => ?_)
    obtain ⟨rfl, hMk⟩ := q_21
    refine W.eq (g2 := F0 m 24 ls [.int (nI 0)]) rfl ?_
    have hcd : cd1 (isX x (σ 4 0)) = 1 := cd1_1 p_19
    exact w_iret hx hb hr hlocks hX ⟨_, rfl, by rw [hcd]; exact hMk, fun z => by rw [hcd] at z; cases z⟩ ⟨Nat.le_of_ble_eq_true rfl, Nat.le_of_ble_eq_true rfl⟩ dX3_of_24

set_option maxHeartbeats 4000000 in
set_option maxRecDepth 100000 in
/-- a row -/
theorem c_X3_burstOf (l : Launch) (g : wG) (μ : wMu) (zz : Nat) {Ω : Nat → Nat} {σ : sSt} {th : Nat} (hM : mD g Ω th σ μ) (hO : sOk σ) {x : Int32} : wMet l yX3_burstOf cX3_burstOf 2 (some .int) 3 0 0 65 g [.ref (Ω 0), .int x] μ zz (fun r μ' => ∃ v, r = some (.int v) ∧ mD g Ω (cd1 (isX x (σ 4 0))) σ μ' ∧ (cd1 (isX x (σ 4 0)) = 0 → v = nI (σ 10 (toN x)))) := by
  refine wMet.of (by decide) (Nat.le_of_ble_eq_true rfl) ?_
  intro p e s m below meth c ls hx hb hr hml hown hlocks hin hl hsz hX
  have hl : lv_has ls 2 [(0, .ref (Ω 0)), (1, .int x)] := hl
  obtain ⟨r0, r5, r6, r7, r8, r9, r10, r11, r12, r13, hD⟩ := id hM
  obtain ⟨o1, o2, o3, o4, o5, o6, o7⟩ := id hO
  refine lv_aload_n hx hb dX3_burstOf_0 rfl (lv_at hl 0 rfl) ?_
  refine lv_aload_n hx hb dX3_burstOf_1 rfl (lv_at hl 0 rfl) ?_
  refine gX3_11 hx hb hX hown r0 kw640 dX3_burstOf_2 ?_
  refine lv_iload_n hx hb dX3_burstOf_5 rfl (lv_at hl 1 rfl) ?_
  refine w_call (w_runV (n := 2) (As := [.ref (Ω 10), .int x]) (rest := []) hx hb hml hown hX (c_X3_of_10 l g μ s.heap.size hM hO) kw806 kw7 kw803 kw805 kp37 wn_X3_of rfl r0 rfl ⟨Nat.le_of_ble_eq_true rfl, Nat.le_of_ble_eq_true rfl⟩ hl.1 rfl (Nat.le_of_ble_eq_true rfl) dX3_burstOf_6 ⟨Nat.le_of_ble_eq_true rfl, Nat.le_of_ble_eq_true rfl⟩) hX (fun r_3 μ_1 H locs q_2 hX hz => ?_)
  obtain ⟨v, rfl, hMk, hv⟩ := q_2
  refine W.eq (g2 := F0 m 9 ls [.int v]) rfl ?_
  exact w_iret hx hb hr hlocks hX ⟨v, rfl, hMk, hv⟩ ⟨Nat.le_of_ble_eq_true rfl, Nat.le_of_ble_eq_true rfl⟩ dX3_burstOf_9

set_option maxHeartbeats 4000000 in
set_option maxRecDepth 100000 in
/-- a row -/
theorem c_X3_of_11 (l : Launch) (g : wG) (μ : wMu) (zz : Nat) {Ω : Nat → Nat} {σ : sSt} {th : Nat} (hM : mD g Ω th σ μ) (hO : sOk σ) {x : Int32} : wMet l yX3_of cX3_of 3 (some .int) 2 0 0 43 g [.ref (Ω 0), .ref (Ω 11), .int x] μ zz (fun r μ' => ∃ v, r = some (.int v) ∧ mD g Ω (cd1 (isX x (σ 4 0))) (σ) μ' ∧ (cd1 (isX x (σ 4 0)) = 0 → v = nI (σ 11 (toN x)))) := by
  refine wMet.of (by decide) (Nat.le_of_ble_eq_true rfl) ?_
  intro p e s m below meth c ls hx hb hr hml hown hlocks hin hl hsz hX
  have hl : lv_has ls 3 [(0, .ref (Ω 0)), (1, .ref (Ω 11)), (2, .int x)] := hl
  obtain ⟨r0, r5, r6, r7, r8, r9, r10, r11, r12, r13, hD⟩ := id hM
  obtain ⟨o1, o2, o3, o4, o5, o6, o7⟩ := id hO
  refine lv_aload_n hx hb dX3_of_0 rfl (lv_at hl 0 rfl) ?_
  refine lv_iconst (v := nI 0) hx hb dX3_of_1 (by decide) ?_
  refine pX3_0 hx hb hX hown r0 kw629 dX3_of_2 (fun H locs hX => ?_)
  obtain ⟨μ_1, e_2⟩ : ∃ z, z = va_up μ (Ω 0) (some (.inr (4, [.int (nI 0), .int (nI (σ 3 0)), .int (nI (σ 4 0)), .int (nI (σ 0 0)), .int (nI (σ 1 0)), .int (nI (σ 2 0)), .ref (Ω 5), .ref (Ω 6), .ref (Ω 7), .ref (Ω 8), .ref (Ω 9), .ref (Ω 10), .ref (Ω 11), .ref (Ω 12), .ref (Ω 13)]))) := ⟨_, rfl⟩
  rw [← e_2] at hX
  have k_3 : μ_1 (Ω 0) = some (.inr (4, [.int (nI 0), .int (nI (σ 3 0)), .int (nI (σ 4 0)), .int (nI (σ 0 0)), .int (nI (σ 1 0)), .int (nI (σ 2 0)), .ref (Ω 5), .ref (Ω 6), .ref (Ω 7), .ref (Ω 8), .ref (Ω 9), .ref (Ω 10), .ref (Ω 11), .ref (Ω 12), .ref (Ω 13)])) := by rw [e_2]; exact va_up_self _ _ _
  have k_4 := (congrFun e_2 (Ω 5)).trans ((va_up_ne _ _ (Ne.symm (kd_ne r0 r5 rfl))).trans r5)
  have k_5 := (congrFun e_2 (Ω 6)).trans ((va_up_ne _ _ (Ne.symm (kd_ne r0 r6 rfl))).trans r6)
  have k_6 := (congrFun e_2 (Ω 7)).trans ((va_up_ne _ _ (Ne.symm (kd_ne r0 r7 rfl))).trans r7)
  have k_7 := (congrFun e_2 (Ω 8)).trans ((va_up_ne _ _ (Ne.symm (kd_ne r0 r8 rfl))).trans r8)
  have k_8 := (congrFun e_2 (Ω 9)).trans ((va_up_ne _ _ (Ne.symm (kd_ne r0 r9 rfl))).trans r9)
  have k_9 := (congrFun e_2 (Ω 10)).trans ((va_up_ne _ _ (Ne.symm (kd_ne r0 r10 rfl))).trans r10)
  have k_10 := (congrFun e_2 (Ω 11)).trans ((va_up_ne _ _ (Ne.symm (kd_ne r0 r11 rfl))).trans r11)
  have k_11 := (congrFun e_2 (Ω 12)).trans ((va_up_ne _ _ (Ne.symm (kd_ne r0 r12 rfl))).trans r12)
  have k_12 := (congrFun e_2 (Ω 13)).trans ((va_up_ne _ _ (Ne.symm (kd_ne r0 r13 rfl))).trans r13)
  have hM0 : mD g Ω 0 σ μ_1 := ⟨k_3, k_4, k_5, k_6, k_7, k_8, k_9, k_10, k_11, k_12, hD⟩
  refine lv_aload_n hx hb dX3_of_5 rfl (lv_at hl 0 rfl) ?_
  refine lv_iload_n hx hb dX3_of_6 rfl (lv_at hl 2 rfl) ?_
  refine w_call (w_runV (n := 1) (As := [.int x]) (rest := []) hx hb hml hown hX (c_X3_isChild l g μ_1 H.size hM0 hO) kw709 kw7 kw706 kw708 kp28 wn_X3_isChild rfl k_3 rfl ⟨Nat.le_of_ble_eq_true rfl, Nat.le_of_ble_eq_true rfl⟩ hl.1 rfl (Nat.le_of_ble_eq_true rfl) dX3_of_7 ⟨Nat.le_of_ble_eq_true rfl, Nat.le_of_ble_eq_true rfl⟩) hX (fun r_15 μ_13 H locs q_14 hX hz => ?_)
  obtain ⟨q_17, e_16⟩ := q_14
  rw [e_16] at hX
  obtain ⟨rfl, p_18⟩ | ⟨rfl, p_19⟩ := q_17
  · skip
    refine W.eq (g2 := F0 m 10 ls [.int (nI 1)]) rfl ?_
    have bx := (isX.nI p_18).2
    rw [(isX.nI p_18).1] at hl
    refine n_if_eq (tgt := 19) hx hb (by omega) dX3_of_10 (by decide) (fun h => absurd h (by omega)) (fun _ => ?_)
    refine lv_aload_n hx hb dX3_of_13 rfl (lv_at hl 1 rfl) ?_
    refine lv_iload_n hx hb dX3_of_14 rfl (lv_at hl 2 rfl) ?_
    refine n_iald hx hb hX k_10 (by omega) (by omega) dX3_of_15 ?_
    refine lv_goto (tgt := 24) hx hb dX3_of_16 (by decide) ?_
    have hcd : cd1 (isX x (σ 4 0)) = 0 := cd1_0 p_18
    exact w_iret hx hb hr hlocks hX ⟨_, rfl, by rw [hcd]; exact hM0, fun _ => rfl⟩ ⟨Nat.le_of_ble_eq_true rfl, Nat.le_of_ble_eq_true rfl⟩ dX3_of_24
  · skip
    refine W.eq (g2 := F0 m 10 ls [.int (nI 0)]) rfl ?_
    refine n_if_eq (tgt := 19) hx hb (by omega) dX3_of_10 (by decide) (fun _ => ?_) (fun h => absurd h (by omega))
    refine lv_aload_n hx hb dX3_of_19 rfl (lv_at hl 0 rfl) ?_
    refine lv_iconst (v := nI 1) hx hb dX3_of_20 (by decide) ?_
    refine w_call (w_runV (n := 1) (As := [.int (nI 1)]) (rest := []) hx hb hml hown hX (c_X3_no l g μ_1 H.size hM0 hO) kw690 kw7 kw687 kw689 kp26 wn_X3_no rfl k_3 rfl ⟨Nat.le_of_ble_eq_true rfl, Nat.le_of_ble_eq_true rfl⟩ hl.1 rfl (Nat.le_of_ble_eq_true rfl) dX3_of_21 ⟨Nat.le_of_ble_eq_true rfl, Nat.le_of_ble_eq_true rfl⟩) hX (fun r_22 μ_20 H locs q_21 hX hz => ?_)
    obtain ⟨rfl, hMk⟩ := q_21
    refine W.eq (g2 := F0 m 24 ls [.int (nI 0)]) rfl ?_
    have hcd : cd1 (isX x (σ 4 0)) = 1 := cd1_1 p_19
    exact w_iret hx hb hr hlocks hX ⟨_, rfl, by rw [hcd]; exact hMk, fun z => by rw [hcd] at z; cases z⟩ ⟨Nat.le_of_ble_eq_true rfl, Nat.le_of_ble_eq_true rfl⟩ dX3_of_24

set_option maxHeartbeats 4000000 in
set_option maxRecDepth 100000 in
/-- a row -/
theorem c_X3_punishedFor (l : Launch) (g : wG) (μ : wMu) (zz : Nat) {Ω : Nat → Nat} {σ : sSt} {th : Nat} (hM : mD g Ω th σ μ) (hO : sOk σ) {x : Int32} : wMet l yX3_punishedFor cX3_punishedFor 2 (some .int) 3 0 0 65 g [.ref (Ω 0), .int x] μ zz (fun r μ' => ∃ v, r = some (.int v) ∧ mD g Ω (cd1 (isX x (σ 4 0))) σ μ' ∧ (cd1 (isX x (σ 4 0)) = 0 → v = nI (σ 11 (toN x)))) := by
  refine wMet.of (by decide) (Nat.le_of_ble_eq_true rfl) ?_
  intro p e s m below meth c ls hx hb hr hml hown hlocks hin hl hsz hX
  have hl : lv_has ls 2 [(0, .ref (Ω 0)), (1, .int x)] := hl
  obtain ⟨r0, r5, r6, r7, r8, r9, r10, r11, r12, r13, hD⟩ := id hM
  obtain ⟨o1, o2, o3, o4, o5, o6, o7⟩ := id hO
  refine lv_aload_n hx hb dX3_punishedFor_0 rfl (lv_at hl 0 rfl) ?_
  refine lv_aload_n hx hb dX3_punishedFor_1 rfl (lv_at hl 0 rfl) ?_
  refine gX3_12 hx hb hX hown r0 kw641 dX3_punishedFor_2 ?_
  refine lv_iload_n hx hb dX3_punishedFor_5 rfl (lv_at hl 1 rfl) ?_
  refine w_call (w_runV (n := 2) (As := [.ref (Ω 11), .int x]) (rest := []) hx hb hml hown hX (c_X3_of_11 l g μ s.heap.size hM hO) kw806 kw7 kw803 kw805 kp37 wn_X3_of rfl r0 rfl ⟨Nat.le_of_ble_eq_true rfl, Nat.le_of_ble_eq_true rfl⟩ hl.1 rfl (Nat.le_of_ble_eq_true rfl) dX3_punishedFor_6 ⟨Nat.le_of_ble_eq_true rfl, Nat.le_of_ble_eq_true rfl⟩) hX (fun r_3 μ_1 H locs q_2 hX hz => ?_)
  obtain ⟨v, rfl, hMk, hv⟩ := q_2
  refine W.eq (g2 := F0 m 9 ls [.int v]) rfl ?_
  exact w_iret hx hb hr hlocks hX ⟨v, rfl, hMk, hv⟩ ⟨Nat.le_of_ble_eq_true rfl, Nat.le_of_ble_eq_true rfl⟩ dX3_punishedFor_9

set_option maxHeartbeats 4000000 in
set_option maxRecDepth 100000 in
/-- a row -/
theorem c_X3_of_12 (l : Launch) (g : wG) (μ : wMu) (zz : Nat) {Ω : Nat → Nat} {σ : sSt} {th : Nat} (hM : mD g Ω th σ μ) (hO : sOk σ) {x : Int32} : wMet l yX3_of cX3_of 3 (some .int) 2 0 0 43 g [.ref (Ω 0), .ref (Ω 12), .int x] μ zz (fun r μ' => ∃ v, r = some (.int v) ∧ mD g Ω (cd1 (isX x (σ 4 0))) (σ) μ' ∧ (cd1 (isX x (σ 4 0)) = 0 → v = nI (σ 12 (toN x)))) := by
  refine wMet.of (by decide) (Nat.le_of_ble_eq_true rfl) ?_
  intro p e s m below meth c ls hx hb hr hml hown hlocks hin hl hsz hX
  have hl : lv_has ls 3 [(0, .ref (Ω 0)), (1, .ref (Ω 12)), (2, .int x)] := hl
  obtain ⟨r0, r5, r6, r7, r8, r9, r10, r11, r12, r13, hD⟩ := id hM
  obtain ⟨o1, o2, o3, o4, o5, o6, o7⟩ := id hO
  refine lv_aload_n hx hb dX3_of_0 rfl (lv_at hl 0 rfl) ?_
  refine lv_iconst (v := nI 0) hx hb dX3_of_1 (by decide) ?_
  refine pX3_0 hx hb hX hown r0 kw629 dX3_of_2 (fun H locs hX => ?_)
  obtain ⟨μ_1, e_2⟩ : ∃ z, z = va_up μ (Ω 0) (some (.inr (4, [.int (nI 0), .int (nI (σ 3 0)), .int (nI (σ 4 0)), .int (nI (σ 0 0)), .int (nI (σ 1 0)), .int (nI (σ 2 0)), .ref (Ω 5), .ref (Ω 6), .ref (Ω 7), .ref (Ω 8), .ref (Ω 9), .ref (Ω 10), .ref (Ω 11), .ref (Ω 12), .ref (Ω 13)]))) := ⟨_, rfl⟩
  rw [← e_2] at hX
  have k_3 : μ_1 (Ω 0) = some (.inr (4, [.int (nI 0), .int (nI (σ 3 0)), .int (nI (σ 4 0)), .int (nI (σ 0 0)), .int (nI (σ 1 0)), .int (nI (σ 2 0)), .ref (Ω 5), .ref (Ω 6), .ref (Ω 7), .ref (Ω 8), .ref (Ω 9), .ref (Ω 10), .ref (Ω 11), .ref (Ω 12), .ref (Ω 13)])) := by rw [e_2]; exact va_up_self _ _ _
  have k_4 := (congrFun e_2 (Ω 5)).trans ((va_up_ne _ _ (Ne.symm (kd_ne r0 r5 rfl))).trans r5)
  have k_5 := (congrFun e_2 (Ω 6)).trans ((va_up_ne _ _ (Ne.symm (kd_ne r0 r6 rfl))).trans r6)
  have k_6 := (congrFun e_2 (Ω 7)).trans ((va_up_ne _ _ (Ne.symm (kd_ne r0 r7 rfl))).trans r7)
  have k_7 := (congrFun e_2 (Ω 8)).trans ((va_up_ne _ _ (Ne.symm (kd_ne r0 r8 rfl))).trans r8)
  have k_8 := (congrFun e_2 (Ω 9)).trans ((va_up_ne _ _ (Ne.symm (kd_ne r0 r9 rfl))).trans r9)
  have k_9 := (congrFun e_2 (Ω 10)).trans ((va_up_ne _ _ (Ne.symm (kd_ne r0 r10 rfl))).trans r10)
  have k_10 := (congrFun e_2 (Ω 11)).trans ((va_up_ne _ _ (Ne.symm (kd_ne r0 r11 rfl))).trans r11)
  have k_11 := (congrFun e_2 (Ω 12)).trans ((va_up_ne _ _ (Ne.symm (kd_ne r0 r12 rfl))).trans r12)
  have k_12 := (congrFun e_2 (Ω 13)).trans ((va_up_ne _ _ (Ne.symm (kd_ne r0 r13 rfl))).trans r13)
  have hM0 : mD g Ω 0 σ μ_1 := ⟨k_3, k_4, k_5, k_6, k_7, k_8, k_9, k_10, k_11, k_12, hD⟩
  refine lv_aload_n hx hb dX3_of_5 rfl (lv_at hl 0 rfl) ?_
  refine lv_iload_n hx hb dX3_of_6 rfl (lv_at hl 2 rfl) ?_
  refine w_call (w_runV (n := 1) (As := [.int x]) (rest := []) hx hb hml hown hX (c_X3_isChild l g μ_1 H.size hM0 hO) kw709 kw7 kw706 kw708 kp28 wn_X3_isChild rfl k_3 rfl ⟨Nat.le_of_ble_eq_true rfl, Nat.le_of_ble_eq_true rfl⟩ hl.1 rfl (Nat.le_of_ble_eq_true rfl) dX3_of_7 ⟨Nat.le_of_ble_eq_true rfl, Nat.le_of_ble_eq_true rfl⟩) hX (fun r_15 μ_13 H locs q_14 hX hz => ?_)
  obtain ⟨q_17, e_16⟩ := q_14
  rw [e_16] at hX
  obtain ⟨rfl, p_18⟩ | ⟨rfl, p_19⟩ := q_17
  · skip
    refine W.eq (g2 := F0 m 10 ls [.int (nI 1)]) rfl ?_
    have bx := (isX.nI p_18).2
    rw [(isX.nI p_18).1] at hl
    refine n_if_eq (tgt := 19) hx hb (by omega) dX3_of_10 (by decide) (fun h => absurd h (by omega)) (fun _ => ?_)
    refine lv_aload_n hx hb dX3_of_13 rfl (lv_at hl 1 rfl) ?_
    refine lv_iload_n hx hb dX3_of_14 rfl (lv_at hl 2 rfl) ?_
    refine n_iald hx hb hX k_11 (by omega) (by omega) dX3_of_15 ?_
    refine lv_goto (tgt := 24) hx hb dX3_of_16 (by decide) ?_
    have hcd : cd1 (isX x (σ 4 0)) = 0 := cd1_0 p_18
    exact w_iret hx hb hr hlocks hX ⟨_, rfl, by rw [hcd]; exact hM0, fun _ => rfl⟩ ⟨Nat.le_of_ble_eq_true rfl, Nat.le_of_ble_eq_true rfl⟩ dX3_of_24
  · skip
    refine W.eq (g2 := F0 m 10 ls [.int (nI 0)]) rfl ?_
    refine n_if_eq (tgt := 19) hx hb (by omega) dX3_of_10 (by decide) (fun _ => ?_) (fun h => absurd h (by omega))
    refine lv_aload_n hx hb dX3_of_19 rfl (lv_at hl 0 rfl) ?_
    refine lv_iconst (v := nI 1) hx hb dX3_of_20 (by decide) ?_
    refine w_call (w_runV (n := 1) (As := [.int (nI 1)]) (rest := []) hx hb hml hown hX (c_X3_no l g μ_1 H.size hM0 hO) kw690 kw7 kw687 kw689 kp26 wn_X3_no rfl k_3 rfl ⟨Nat.le_of_ble_eq_true rfl, Nat.le_of_ble_eq_true rfl⟩ hl.1 rfl (Nat.le_of_ble_eq_true rfl) dX3_of_21 ⟨Nat.le_of_ble_eq_true rfl, Nat.le_of_ble_eq_true rfl⟩) hX (fun r_22 μ_20 H locs q_21 hX hz => ?_)
    obtain ⟨rfl, hMk⟩ := q_21
    refine W.eq (g2 := F0 m 24 ls [.int (nI 0)]) rfl ?_
    have hcd : cd1 (isX x (σ 4 0)) = 1 := cd1_1 p_19
    exact w_iret hx hb hr hlocks hX ⟨_, rfl, by rw [hcd]; exact hMk, fun z => by rw [hcd] at z; cases z⟩ ⟨Nat.le_of_ble_eq_true rfl, Nat.le_of_ble_eq_true rfl⟩ dX3_of_24

set_option maxHeartbeats 4000000 in
set_option maxRecDepth 100000 in
/-- a row -/
theorem c_X3_marksOf (l : Launch) (g : wG) (μ : wMu) (zz : Nat) {Ω : Nat → Nat} {σ : sSt} {th : Nat} (hM : mD g Ω th σ μ) (hO : sOk σ) {x : Int32} : wMet l yX3_marksOf cX3_marksOf 2 (some .int) 3 0 0 65 g [.ref (Ω 0), .int x] μ zz (fun r μ' => ∃ v, r = some (.int v) ∧ mD g Ω (cd1 (isX x (σ 4 0))) σ μ' ∧ (cd1 (isX x (σ 4 0)) = 0 → v = nI (σ 12 (toN x)))) := by
  refine wMet.of (by decide) (Nat.le_of_ble_eq_true rfl) ?_
  intro p e s m below meth c ls hx hb hr hml hown hlocks hin hl hsz hX
  have hl : lv_has ls 2 [(0, .ref (Ω 0)), (1, .int x)] := hl
  obtain ⟨r0, r5, r6, r7, r8, r9, r10, r11, r12, r13, hD⟩ := id hM
  obtain ⟨o1, o2, o3, o4, o5, o6, o7⟩ := id hO
  refine lv_aload_n hx hb dX3_marksOf_0 rfl (lv_at hl 0 rfl) ?_
  refine lv_aload_n hx hb dX3_marksOf_1 rfl (lv_at hl 0 rfl) ?_
  refine gX3_13 hx hb hX hown r0 kw642 dX3_marksOf_2 ?_
  refine lv_iload_n hx hb dX3_marksOf_5 rfl (lv_at hl 1 rfl) ?_
  refine w_call (w_runV (n := 2) (As := [.ref (Ω 12), .int x]) (rest := []) hx hb hml hown hX (c_X3_of_12 l g μ s.heap.size hM hO) kw806 kw7 kw803 kw805 kp37 wn_X3_of rfl r0 rfl ⟨Nat.le_of_ble_eq_true rfl, Nat.le_of_ble_eq_true rfl⟩ hl.1 rfl (Nat.le_of_ble_eq_true rfl) dX3_marksOf_6 ⟨Nat.le_of_ble_eq_true rfl, Nat.le_of_ble_eq_true rfl⟩) hX (fun r_3 μ_1 H locs q_2 hX hz => ?_)
  obtain ⟨v, rfl, hMk, hv⟩ := q_2
  refine W.eq (g2 := F0 m 9 ls [.int v]) rfl ?_
  exact w_iret hx hb hr hlocks hX ⟨v, rfl, hMk, hv⟩ ⟨Nat.le_of_ble_eq_true rfl, Nat.le_of_ble_eq_true rfl⟩ dX3_marksOf_9

set_option maxHeartbeats 4000000 in
set_option maxRecDepth 100000 in
/-- a row -/
theorem c_X3_of_13 (l : Launch) (g : wG) (μ : wMu) (zz : Nat) {Ω : Nat → Nat} {σ : sSt} {th : Nat} (hM : mD g Ω th σ μ) (hO : sOk σ) {x : Int32} : wMet l yX3_of cX3_of 3 (some .int) 2 0 0 43 g [.ref (Ω 0), .ref (Ω 13), .int x] μ zz (fun r μ' => ∃ v, r = some (.int v) ∧ mD g Ω (cd1 (isX x (σ 4 0))) (σ) μ' ∧ (cd1 (isX x (σ 4 0)) = 0 → v = nI (σ 13 (toN x)))) := by
  refine wMet.of (by decide) (Nat.le_of_ble_eq_true rfl) ?_
  intro p e s m below meth c ls hx hb hr hml hown hlocks hin hl hsz hX
  have hl : lv_has ls 3 [(0, .ref (Ω 0)), (1, .ref (Ω 13)), (2, .int x)] := hl
  obtain ⟨r0, r5, r6, r7, r8, r9, r10, r11, r12, r13, hD⟩ := id hM
  obtain ⟨o1, o2, o3, o4, o5, o6, o7⟩ := id hO
  refine lv_aload_n hx hb dX3_of_0 rfl (lv_at hl 0 rfl) ?_
  refine lv_iconst (v := nI 0) hx hb dX3_of_1 (by decide) ?_
  refine pX3_0 hx hb hX hown r0 kw629 dX3_of_2 (fun H locs hX => ?_)
  obtain ⟨μ_1, e_2⟩ : ∃ z, z = va_up μ (Ω 0) (some (.inr (4, [.int (nI 0), .int (nI (σ 3 0)), .int (nI (σ 4 0)), .int (nI (σ 0 0)), .int (nI (σ 1 0)), .int (nI (σ 2 0)), .ref (Ω 5), .ref (Ω 6), .ref (Ω 7), .ref (Ω 8), .ref (Ω 9), .ref (Ω 10), .ref (Ω 11), .ref (Ω 12), .ref (Ω 13)]))) := ⟨_, rfl⟩
  rw [← e_2] at hX
  have k_3 : μ_1 (Ω 0) = some (.inr (4, [.int (nI 0), .int (nI (σ 3 0)), .int (nI (σ 4 0)), .int (nI (σ 0 0)), .int (nI (σ 1 0)), .int (nI (σ 2 0)), .ref (Ω 5), .ref (Ω 6), .ref (Ω 7), .ref (Ω 8), .ref (Ω 9), .ref (Ω 10), .ref (Ω 11), .ref (Ω 12), .ref (Ω 13)])) := by rw [e_2]; exact va_up_self _ _ _
  have k_4 := (congrFun e_2 (Ω 5)).trans ((va_up_ne _ _ (Ne.symm (kd_ne r0 r5 rfl))).trans r5)
  have k_5 := (congrFun e_2 (Ω 6)).trans ((va_up_ne _ _ (Ne.symm (kd_ne r0 r6 rfl))).trans r6)
  have k_6 := (congrFun e_2 (Ω 7)).trans ((va_up_ne _ _ (Ne.symm (kd_ne r0 r7 rfl))).trans r7)
  have k_7 := (congrFun e_2 (Ω 8)).trans ((va_up_ne _ _ (Ne.symm (kd_ne r0 r8 rfl))).trans r8)
  have k_8 := (congrFun e_2 (Ω 9)).trans ((va_up_ne _ _ (Ne.symm (kd_ne r0 r9 rfl))).trans r9)
  have k_9 := (congrFun e_2 (Ω 10)).trans ((va_up_ne _ _ (Ne.symm (kd_ne r0 r10 rfl))).trans r10)
  have k_10 := (congrFun e_2 (Ω 11)).trans ((va_up_ne _ _ (Ne.symm (kd_ne r0 r11 rfl))).trans r11)
  have k_11 := (congrFun e_2 (Ω 12)).trans ((va_up_ne _ _ (Ne.symm (kd_ne r0 r12 rfl))).trans r12)
  have k_12 := (congrFun e_2 (Ω 13)).trans ((va_up_ne _ _ (Ne.symm (kd_ne r0 r13 rfl))).trans r13)
  have hM0 : mD g Ω 0 σ μ_1 := ⟨k_3, k_4, k_5, k_6, k_7, k_8, k_9, k_10, k_11, k_12, hD⟩
  refine lv_aload_n hx hb dX3_of_5 rfl (lv_at hl 0 rfl) ?_
  refine lv_iload_n hx hb dX3_of_6 rfl (lv_at hl 2 rfl) ?_
  refine w_call (w_runV (n := 1) (As := [.int x]) (rest := []) hx hb hml hown hX (c_X3_isChild l g μ_1 H.size hM0 hO) kw709 kw7 kw706 kw708 kp28 wn_X3_isChild rfl k_3 rfl ⟨Nat.le_of_ble_eq_true rfl, Nat.le_of_ble_eq_true rfl⟩ hl.1 rfl (Nat.le_of_ble_eq_true rfl) dX3_of_7 ⟨Nat.le_of_ble_eq_true rfl, Nat.le_of_ble_eq_true rfl⟩) hX (fun r_15 μ_13 H locs q_14 hX hz => ?_)
  obtain ⟨q_17, e_16⟩ := q_14
  rw [e_16] at hX
  obtain ⟨rfl, p_18⟩ | ⟨rfl, p_19⟩ := q_17
  · skip
    refine W.eq (g2 := F0 m 10 ls [.int (nI 1)]) rfl ?_
    have bx := (isX.nI p_18).2
    rw [(isX.nI p_18).1] at hl
    refine n_if_eq (tgt := 19) hx hb (by omega) dX3_of_10 (by decide) (fun h => absurd h (by omega)) (fun _ => ?_)
    refine lv_aload_n hx hb dX3_of_13 rfl (lv_at hl 1 rfl) ?_
    refine lv_iload_n hx hb dX3_of_14 rfl (lv_at hl 2 rfl) ?_
    refine n_iald hx hb hX k_12 (by omega) (by omega) dX3_of_15 ?_
    refine lv_goto (tgt := 24) hx hb dX3_of_16 (by decide) ?_
    have hcd : cd1 (isX x (σ 4 0)) = 0 := cd1_0 p_18
    exact w_iret hx hb hr hlocks hX ⟨_, rfl, by rw [hcd]; exact hM0, fun _ => rfl⟩ ⟨Nat.le_of_ble_eq_true rfl, Nat.le_of_ble_eq_true rfl⟩ dX3_of_24
  · skip
    refine W.eq (g2 := F0 m 10 ls [.int (nI 0)]) rfl ?_
    refine n_if_eq (tgt := 19) hx hb (by omega) dX3_of_10 (by decide) (fun _ => ?_) (fun h => absurd h (by omega))
    refine lv_aload_n hx hb dX3_of_19 rfl (lv_at hl 0 rfl) ?_
    refine lv_iconst (v := nI 1) hx hb dX3_of_20 (by decide) ?_
    refine w_call (w_runV (n := 1) (As := [.int (nI 1)]) (rest := []) hx hb hml hown hX (c_X3_no l g μ_1 H.size hM0 hO) kw690 kw7 kw687 kw689 kp26 wn_X3_no rfl k_3 rfl ⟨Nat.le_of_ble_eq_true rfl, Nat.le_of_ble_eq_true rfl⟩ hl.1 rfl (Nat.le_of_ble_eq_true rfl) dX3_of_21 ⟨Nat.le_of_ble_eq_true rfl, Nat.le_of_ble_eq_true rfl⟩) hX (fun r_22 μ_20 H locs q_21 hX hz => ?_)
    obtain ⟨rfl, hMk⟩ := q_21
    refine W.eq (g2 := F0 m 24 ls [.int (nI 0)]) rfl ?_
    have hcd : cd1 (isX x (σ 4 0)) = 1 := cd1_1 p_19
    exact w_iret hx hb hr hlocks hX ⟨_, rfl, by rw [hcd]; exact hMk, fun z => by rw [hcd] at z; cases z⟩ ⟨Nat.le_of_ble_eq_true rfl, Nat.le_of_ble_eq_true rfl⟩ dX3_of_24

set_option maxHeartbeats 4000000 in
set_option maxRecDepth 100000 in
/-- a row -/
theorem c_X3_nextPunishment (l : Launch) (g : wG) (μ : wMu) (zz : Nat) {Ω : Nat → Nat} {σ : sSt} {th : Nat} (hM : mD g Ω th σ μ) (hO : sOk σ) {x : Int32} : wMet l yX3_nextPunishment cX3_nextPunishment 2 (some .int) 3 0 0 65 g [.ref (Ω 0), .int x] μ zz (fun r μ' => ∃ v, r = some (.int v) ∧ mD g Ω (cd1 (isX x (σ 4 0))) σ μ' ∧ (cd1 (isX x (σ 4 0)) = 0 → v = nI (σ 13 (toN x)))) := by
  refine wMet.of (by decide) (Nat.le_of_ble_eq_true rfl) ?_
  intro p e s m below meth c ls hx hb hr hml hown hlocks hin hl hsz hX
  have hl : lv_has ls 2 [(0, .ref (Ω 0)), (1, .int x)] := hl
  obtain ⟨r0, r5, r6, r7, r8, r9, r10, r11, r12, r13, hD⟩ := id hM
  obtain ⟨o1, o2, o3, o4, o5, o6, o7⟩ := id hO
  refine lv_aload_n hx hb dX3_nextPunishment_0 rfl (lv_at hl 0 rfl) ?_
  refine lv_aload_n hx hb dX3_nextPunishment_1 rfl (lv_at hl 0 rfl) ?_
  refine gX3_14 hx hb hX hown r0 kw643 dX3_nextPunishment_2 ?_
  refine lv_iload_n hx hb dX3_nextPunishment_5 rfl (lv_at hl 1 rfl) ?_
  refine w_call (w_runV (n := 2) (As := [.ref (Ω 13), .int x]) (rest := []) hx hb hml hown hX (c_X3_of_13 l g μ s.heap.size hM hO) kw806 kw7 kw803 kw805 kp37 wn_X3_of rfl r0 rfl ⟨Nat.le_of_ble_eq_true rfl, Nat.le_of_ble_eq_true rfl⟩ hl.1 rfl (Nat.le_of_ble_eq_true rfl) dX3_nextPunishment_6 ⟨Nat.le_of_ble_eq_true rfl, Nat.le_of_ble_eq_true rfl⟩) hX (fun r_3 μ_1 H locs q_2 hX hz => ?_)
  obtain ⟨v, rfl, hMk, hv⟩ := q_2
  refine W.eq (g2 := F0 m 9 ls [.int v]) rfl ?_
  exact w_iret hx hb hr hlocks hX ⟨v, rfl, hMk, hv⟩ ⟨Nat.le_of_ble_eq_true rfl, Nat.le_of_ble_eq_true rfl⟩ dX3_nextPunishment_9

set_option maxHeartbeats 4000000 in
set_option maxRecDepth 100000 in
/-- days -/
theorem c_X3_daysToBirthday (l : Launch) (g : wG) (μ : wMu) (zz : Nat) {Ω : Nat → Nat} {σ : sSt} {th : Nat} (hM : mD g Ω th σ μ) (hO : sOk σ) {x : Int32} : wMet l yX3_daysToBirthday cX3_daysToBirthday 2 (some .int) 2 0 0 43 g [.ref (Ω 0), .int x] μ zz (fun r μ' => ∃ v, r = some (.int v) ∧ mD g Ω (cd1 (isX x (σ 4 0))) (σ) μ' ∧ (cd1 (isX x (σ 4 0)) = 0 → v = nI (vDay σ (toN x)))) := by
  refine wMet.of (by decide) (Nat.le_of_ble_eq_true rfl) ?_
  intro p e s m below meth c ls hx hb hr hml hown hlocks hin hl hsz hX
  have hl : lv_has ls 2 [(0, .ref (Ω 0)), (1, .int x)] := hl
  obtain ⟨r0, r5, r6, r7, r8, r9, r10, r11, r12, r13, hD⟩ := id hM
  obtain ⟨o1, o2, o3, o4, o5, o6, o7⟩ := id hO
  refine lv_aload_n hx hb dX3_daysToBirthday_0 rfl (lv_at hl 0 rfl) ?_
  refine lv_iconst (v := nI 0) hx hb dX3_daysToBirthday_1 (by decide) ?_
  refine pX3_0 hx hb hX hown r0 kw629 dX3_daysToBirthday_2 (fun H locs hX => ?_)
  obtain ⟨μ_1, e_2⟩ : ∃ z, z = va_up μ (Ω 0) (some (.inr (4, [.int (nI 0), .int (nI (σ 3 0)), .int (nI (σ 4 0)), .int (nI (σ 0 0)), .int (nI (σ 1 0)), .int (nI (σ 2 0)), .ref (Ω 5), .ref (Ω 6), .ref (Ω 7), .ref (Ω 8), .ref (Ω 9), .ref (Ω 10), .ref (Ω 11), .ref (Ω 12), .ref (Ω 13)]))) := ⟨_, rfl⟩
  rw [← e_2] at hX
  have k_3 : μ_1 (Ω 0) = some (.inr (4, [.int (nI 0), .int (nI (σ 3 0)), .int (nI (σ 4 0)), .int (nI (σ 0 0)), .int (nI (σ 1 0)), .int (nI (σ 2 0)), .ref (Ω 5), .ref (Ω 6), .ref (Ω 7), .ref (Ω 8), .ref (Ω 9), .ref (Ω 10), .ref (Ω 11), .ref (Ω 12), .ref (Ω 13)])) := by rw [e_2]; exact va_up_self _ _ _
  have k_4 := (congrFun e_2 (Ω 5)).trans ((va_up_ne _ _ (Ne.symm (kd_ne r0 r5 rfl))).trans r5)
  have k_5 := (congrFun e_2 (Ω 6)).trans ((va_up_ne _ _ (Ne.symm (kd_ne r0 r6 rfl))).trans r6)
  have k_6 := (congrFun e_2 (Ω 7)).trans ((va_up_ne _ _ (Ne.symm (kd_ne r0 r7 rfl))).trans r7)
  have k_7 := (congrFun e_2 (Ω 8)).trans ((va_up_ne _ _ (Ne.symm (kd_ne r0 r8 rfl))).trans r8)
  have k_8 := (congrFun e_2 (Ω 9)).trans ((va_up_ne _ _ (Ne.symm (kd_ne r0 r9 rfl))).trans r9)
  have k_9 := (congrFun e_2 (Ω 10)).trans ((va_up_ne _ _ (Ne.symm (kd_ne r0 r10 rfl))).trans r10)
  have k_10 := (congrFun e_2 (Ω 11)).trans ((va_up_ne _ _ (Ne.symm (kd_ne r0 r11 rfl))).trans r11)
  have k_11 := (congrFun e_2 (Ω 12)).trans ((va_up_ne _ _ (Ne.symm (kd_ne r0 r12 rfl))).trans r12)
  have k_12 := (congrFun e_2 (Ω 13)).trans ((va_up_ne _ _ (Ne.symm (kd_ne r0 r13 rfl))).trans r13)
  have hM0 : mD g Ω 0 σ μ_1 := ⟨k_3, k_4, k_5, k_6, k_7, k_8, k_9, k_10, k_11, k_12, hD⟩
  refine lv_aload_n hx hb dX3_daysToBirthday_5 rfl (lv_at hl 0 rfl) ?_
  refine lv_iload_n hx hb dX3_daysToBirthday_6 rfl (lv_at hl 1 rfl) ?_
  refine w_call (w_runV (n := 1) (As := [.int x]) (rest := []) hx hb hml hown hX (c_X3_isChild l g μ_1 H.size hM0 hO) kw709 kw7 kw706 kw708 kp28 wn_X3_isChild rfl k_3 rfl ⟨Nat.le_of_ble_eq_true rfl, Nat.le_of_ble_eq_true rfl⟩ hl.1 rfl (Nat.le_of_ble_eq_true rfl) dX3_daysToBirthday_7 ⟨Nat.le_of_ble_eq_true rfl, Nat.le_of_ble_eq_true rfl⟩) hX (fun r_15 μ_13 H locs q_14 hX hz => ?_)
  obtain ⟨q_17, e_16⟩ := q_14
  rw [e_16] at hX
  obtain ⟨rfl, p_18⟩ | ⟨rfl, p_19⟩ := q_17
  · skip
    refine W.eq (g2 := F0 m 10 ls [.int (nI 1)]) rfl ?_
    have bx := (isX.nI p_18).2
    rw [(isX.nI p_18).1] at hl
    refine n_if_eq (tgt := 21) hx hb (by omega) dX3_daysToBirthday_10 (by decide) (fun h => absurd h (by omega)) (fun _ => ?_)
    refine lv_aload_n hx hb dX3_daysToBirthday_13 rfl (lv_at hl 0 rfl) ?_
    refine lv_iload_n hx hb dX3_daysToBirthday_14 rfl (lv_at hl 1 rfl) ?_
    refine w_call (w_runV (n := 1) (As := [.int (nI (toN x))]) (rest := []) hx hb hml hown hX (c_X3_daysTo l g μ_1 H.size hM0 hO bx) kw830 kw7 kw827 kw829 kp38 wn_X3_daysTo rfl k_3 rfl ⟨Nat.le_of_ble_eq_true rfl, Nat.le_of_ble_eq_true rfl⟩ hl.1 rfl (Nat.le_of_ble_eq_true rfl) dX3_daysToBirthday_15 ⟨Nat.le_of_ble_eq_true rfl, Nat.le_of_ble_eq_true rfl⟩) hX (fun r_22 μ_20 H locs q_21 hX hz => ?_)
    obtain ⟨rfl, e_23⟩ := q_21
    rw [e_23] at hX
    refine W.eq (g2 := F0 m 18 ls [.int (nI (vDay σ (toN x)))]) rfl ?_
    refine lv_goto (tgt := 26) hx hb dX3_daysToBirthday_18 (by decide) ?_
    have hcd : cd1 (isX x (σ 4 0)) = 0 := cd1_0 p_18
    exact w_iret hx hb hr hlocks hX ⟨_, rfl, by rw [hcd]; exact hM0, fun _ => rfl⟩ ⟨Nat.le_of_ble_eq_true rfl, Nat.le_of_ble_eq_true rfl⟩ dX3_daysToBirthday_26
  · skip
    refine W.eq (g2 := F0 m 10 ls [.int (nI 0)]) rfl ?_
    refine n_if_eq (tgt := 21) hx hb (by omega) dX3_daysToBirthday_10 (by decide) (fun _ => ?_) (fun h => absurd h (by omega))
    refine lv_aload_n hx hb dX3_daysToBirthday_21 rfl (lv_at hl 0 rfl) ?_
    refine lv_iconst (v := nI 1) hx hb dX3_daysToBirthday_22 (by decide) ?_
    refine w_call (w_runV (n := 1) (As := [.int (nI 1)]) (rest := []) hx hb hml hown hX (c_X3_no l g μ_1 H.size hM0 hO) kw690 kw7 kw687 kw689 kp26 wn_X3_no rfl k_3 rfl ⟨Nat.le_of_ble_eq_true rfl, Nat.le_of_ble_eq_true rfl⟩ hl.1 rfl (Nat.le_of_ble_eq_true rfl) dX3_daysToBirthday_23 ⟨Nat.le_of_ble_eq_true rfl, Nat.le_of_ble_eq_true rfl⟩) hX (fun r_26 μ_24 H locs q_25 hX hz => ?_)
    obtain ⟨rfl, hMk⟩ := q_25
    refine W.eq (g2 := F0 m 26 ls [.int (nI 0)]) rfl ?_
    have hcd : cd1 (isX x (σ 4 0)) = 1 := cd1_1 p_19
    exact w_iret hx hb hr hlocks hX ⟨_, rfl, by rw [hcd]; exact hMk, fun z => by rw [hcd] at z; cases z⟩ ⟨Nat.le_of_ble_eq_true rfl, Nat.le_of_ble_eq_true rfl⟩ dX3_daysToBirthday_26

set_option maxHeartbeats 4000000 in
set_option maxRecDepth 100000 in
/-- greatest -/
theorem c_X3_greatestWish (l : Launch) (g : wG) (μ : wMu) (zz : Nat) {Ω : Nat → Nat} {σ : sSt} {th : Nat} (hM : mD g Ω th σ μ) (hO : sOk σ) {x : Int32} : wMet l yX3_greatestWish cX3_greatestWish 2 (some .int) 2 0 0 43 g [.ref (Ω 0), .int x] μ zz (fun r μ' => ∃ v, r = some (.int v) ∧ mD g Ω (cd1 (isX x (σ 4 0))) (σ) μ' ∧ (cd1 (isX x (σ 4 0)) = 0 → v = nI (vGrt σ (toN x)))) := by
  refine wMet.of (by decide) (Nat.le_of_ble_eq_true rfl) ?_
  intro p e s m below meth c ls hx hb hr hml hown hlocks hin hl hsz hX
  have hl : lv_has ls 2 [(0, .ref (Ω 0)), (1, .int x)] := hl
  obtain ⟨r0, r5, r6, r7, r8, r9, r10, r11, r12, r13, hD⟩ := id hM
  obtain ⟨o1, o2, o3, o4, o5, o6, o7⟩ := id hO
  refine lv_aload_n hx hb dX3_greatestWish_0 rfl (lv_at hl 0 rfl) ?_
  refine lv_iconst (v := nI 0) hx hb dX3_greatestWish_1 (by decide) ?_
  refine pX3_0 hx hb hX hown r0 kw629 dX3_greatestWish_2 (fun H locs hX => ?_)
  obtain ⟨μ_1, e_2⟩ : ∃ z, z = va_up μ (Ω 0) (some (.inr (4, [.int (nI 0), .int (nI (σ 3 0)), .int (nI (σ 4 0)), .int (nI (σ 0 0)), .int (nI (σ 1 0)), .int (nI (σ 2 0)), .ref (Ω 5), .ref (Ω 6), .ref (Ω 7), .ref (Ω 8), .ref (Ω 9), .ref (Ω 10), .ref (Ω 11), .ref (Ω 12), .ref (Ω 13)]))) := ⟨_, rfl⟩
  rw [← e_2] at hX
  have k_3 : μ_1 (Ω 0) = some (.inr (4, [.int (nI 0), .int (nI (σ 3 0)), .int (nI (σ 4 0)), .int (nI (σ 0 0)), .int (nI (σ 1 0)), .int (nI (σ 2 0)), .ref (Ω 5), .ref (Ω 6), .ref (Ω 7), .ref (Ω 8), .ref (Ω 9), .ref (Ω 10), .ref (Ω 11), .ref (Ω 12), .ref (Ω 13)])) := by rw [e_2]; exact va_up_self _ _ _
  have k_4 := (congrFun e_2 (Ω 5)).trans ((va_up_ne _ _ (Ne.symm (kd_ne r0 r5 rfl))).trans r5)
  have k_5 := (congrFun e_2 (Ω 6)).trans ((va_up_ne _ _ (Ne.symm (kd_ne r0 r6 rfl))).trans r6)
  have k_6 := (congrFun e_2 (Ω 7)).trans ((va_up_ne _ _ (Ne.symm (kd_ne r0 r7 rfl))).trans r7)
  have k_7 := (congrFun e_2 (Ω 8)).trans ((va_up_ne _ _ (Ne.symm (kd_ne r0 r8 rfl))).trans r8)
  have k_8 := (congrFun e_2 (Ω 9)).trans ((va_up_ne _ _ (Ne.symm (kd_ne r0 r9 rfl))).trans r9)
  have k_9 := (congrFun e_2 (Ω 10)).trans ((va_up_ne _ _ (Ne.symm (kd_ne r0 r10 rfl))).trans r10)
  have k_10 := (congrFun e_2 (Ω 11)).trans ((va_up_ne _ _ (Ne.symm (kd_ne r0 r11 rfl))).trans r11)
  have k_11 := (congrFun e_2 (Ω 12)).trans ((va_up_ne _ _ (Ne.symm (kd_ne r0 r12 rfl))).trans r12)
  have k_12 := (congrFun e_2 (Ω 13)).trans ((va_up_ne _ _ (Ne.symm (kd_ne r0 r13 rfl))).trans r13)
  have hM0 : mD g Ω 0 σ μ_1 := ⟨k_3, k_4, k_5, k_6, k_7, k_8, k_9, k_10, k_11, k_12, hD⟩
  refine lv_aload_n hx hb dX3_greatestWish_5 rfl (lv_at hl 0 rfl) ?_
  refine lv_iload_n hx hb dX3_greatestWish_6 rfl (lv_at hl 1 rfl) ?_
  refine w_call (w_runV (n := 1) (As := [.int x]) (rest := []) hx hb hml hown hX (c_X3_isChild l g μ_1 H.size hM0 hO) kw709 kw7 kw706 kw708 kp28 wn_X3_isChild rfl k_3 rfl ⟨Nat.le_of_ble_eq_true rfl, Nat.le_of_ble_eq_true rfl⟩ hl.1 rfl (Nat.le_of_ble_eq_true rfl) dX3_greatestWish_7 ⟨Nat.le_of_ble_eq_true rfl, Nat.le_of_ble_eq_true rfl⟩) hX (fun r_15 μ_13 H locs q_14 hX hz => ?_)
  obtain ⟨q_17, e_16⟩ := q_14
  rw [e_16] at hX
  obtain ⟨rfl, p_18⟩ | ⟨rfl, p_19⟩ := q_17
  · skip
    refine W.eq (g2 := F0 m 10 ls [.int (nI 1)]) rfl ?_
    have bx := (isX.nI p_18).2
    rw [(isX.nI p_18).1] at hl
    refine n_if_eq (tgt := 21) hx hb (by omega) dX3_greatestWish_10 (by decide) (fun h => absurd h (by omega)) (fun _ => ?_)
    refine lv_aload_n hx hb dX3_greatestWish_13 rfl (lv_at hl 0 rfl) ?_
    refine lv_iload_n hx hb dX3_greatestWish_14 rfl (lv_at hl 1 rfl) ?_
    refine w_call (w_runV (n := 1) (As := [.int (nI (toN x))]) (rest := []) hx hb hml hown hX (c_X3_greatest l g μ_1 H.size hM0 hO bx) kw838 kw7 kw835 kw837 kp39 wn_X3_greatest rfl k_3 rfl ⟨Nat.le_of_ble_eq_true rfl, Nat.le_of_ble_eq_true rfl⟩ hl.1 rfl (Nat.le_of_ble_eq_true rfl) dX3_greatestWish_15 ⟨Nat.le_of_ble_eq_true rfl, Nat.le_of_ble_eq_true rfl⟩) hX (fun r_22 μ_20 H locs q_21 hX hz => ?_)
    obtain ⟨rfl, e_23⟩ := q_21
    rw [e_23] at hX
    refine W.eq (g2 := F0 m 18 ls [.int (nI (vGrt σ (toN x)))]) rfl ?_
    refine lv_goto (tgt := 26) hx hb dX3_greatestWish_18 (by decide) ?_
    have hcd : cd1 (isX x (σ 4 0)) = 0 := cd1_0 p_18
    exact w_iret hx hb hr hlocks hX ⟨_, rfl, by rw [hcd]; exact hM0, fun _ => rfl⟩ ⟨Nat.le_of_ble_eq_true rfl, Nat.le_of_ble_eq_true rfl⟩ dX3_greatestWish_26
  · skip
    refine W.eq (g2 := F0 m 10 ls [.int (nI 0)]) rfl ?_
    refine n_if_eq (tgt := 21) hx hb (by omega) dX3_greatestWish_10 (by decide) (fun _ => ?_) (fun h => absurd h (by omega))
    refine lv_aload_n hx hb dX3_greatestWish_21 rfl (lv_at hl 0 rfl) ?_
    refine lv_iconst (v := nI 1) hx hb dX3_greatestWish_22 (by decide) ?_
    refine w_call (w_runV (n := 1) (As := [.int (nI 1)]) (rest := []) hx hb hml hown hX (c_X3_no l g μ_1 H.size hM0 hO) kw690 kw7 kw687 kw689 kp26 wn_X3_no rfl k_3 rfl ⟨Nat.le_of_ble_eq_true rfl, Nat.le_of_ble_eq_true rfl⟩ hl.1 rfl (Nat.le_of_ble_eq_true rfl) dX3_greatestWish_23 ⟨Nat.le_of_ble_eq_true rfl, Nat.le_of_ble_eq_true rfl⟩) hX (fun r_26 μ_24 H locs q_25 hX hz => ?_)
    obtain ⟨rfl, hMk⟩ := q_25
    refine W.eq (g2 := F0 m 26 ls [.int (nI 0)]) rfl ?_
    have hcd : cd1 (isX x (σ 4 0)) = 1 := cd1_1 p_19
    exact w_iret hx hb hr hlocks hX ⟨_, rfl, by rw [hcd]; exact hMk, fun z => by rw [hcd] at z; cases z⟩ ⟨Nat.le_of_ble_eq_true rfl, Nat.le_of_ble_eq_true rfl⟩ dX3_greatestWish_26

set_option maxHeartbeats 4000000 in
set_option maxRecDepth 100000 in
/-- hours -/
theorem c_X3_hoursUntil (l : Launch) (g : wG) (μ : wMu) (zz : Nat) {Ω : Nat → Nat} {σ : sSt} {th : Nat} (hM : mD g Ω th σ μ) (hO : sOk σ) {x y : Int32} : wMet l yX3_hoursUntil cX3_hoursUntil 3 (some .int) 3 0 0 67 g [.ref (Ω 0), .int x, .int y] μ zz (fun r μ' => ∃ v, r = some (.int v) ∧ mD g Ω (cd2 (isX x (σ 4 0)) (isI y 1 20)) (σ) μ' ∧ (cd2 (isX x (σ 4 0)) (isI y 1 20) = 0 → v = utl σ (toN x) (toN y) 101 0)) := by
  refine wMet.of (by decide) (Nat.le_of_ble_eq_true rfl) ?_
  intro p e s m below meth c ls hx hb hr hml hown hlocks hin hl hsz hX
  have hl : lv_has ls 3 [(0, .ref (Ω 0)), (1, .int x), (2, .int y)] := hl
  obtain ⟨r0, r5, r6, r7, r8, r9, r10, r11, r12, r13, hD⟩ := id hM
  obtain ⟨o1, o2, o3, o4, o5, o6, o7⟩ := id hO
  refine lv_aload_n hx hb dX3_hoursUntil_0 rfl (lv_at hl 0 rfl) ?_
  refine lv_iconst (v := nI 0) hx hb dX3_hoursUntil_1 (by decide) ?_
  refine pX3_0 hx hb hX hown r0 kw629 dX3_hoursUntil_2 (fun H locs hX => ?_)
  obtain ⟨μ_1, e_2⟩ : ∃ z, z = va_up μ (Ω 0) (some (.inr (4, [.int (nI 0), .int (nI (σ 3 0)), .int (nI (σ 4 0)), .int (nI (σ 0 0)), .int (nI (σ 1 0)), .int (nI (σ 2 0)), .ref (Ω 5), .ref (Ω 6), .ref (Ω 7), .ref (Ω 8), .ref (Ω 9), .ref (Ω 10), .ref (Ω 11), .ref (Ω 12), .ref (Ω 13)]))) := ⟨_, rfl⟩
  rw [← e_2] at hX
  have k_3 : μ_1 (Ω 0) = some (.inr (4, [.int (nI 0), .int (nI (σ 3 0)), .int (nI (σ 4 0)), .int (nI (σ 0 0)), .int (nI (σ 1 0)), .int (nI (σ 2 0)), .ref (Ω 5), .ref (Ω 6), .ref (Ω 7), .ref (Ω 8), .ref (Ω 9), .ref (Ω 10), .ref (Ω 11), .ref (Ω 12), .ref (Ω 13)])) := by rw [e_2]; exact va_up_self _ _ _
  have k_4 := (congrFun e_2 (Ω 5)).trans ((va_up_ne _ _ (Ne.symm (kd_ne r0 r5 rfl))).trans r5)
  have k_5 := (congrFun e_2 (Ω 6)).trans ((va_up_ne _ _ (Ne.symm (kd_ne r0 r6 rfl))).trans r6)
  have k_6 := (congrFun e_2 (Ω 7)).trans ((va_up_ne _ _ (Ne.symm (kd_ne r0 r7 rfl))).trans r7)
  have k_7 := (congrFun e_2 (Ω 8)).trans ((va_up_ne _ _ (Ne.symm (kd_ne r0 r8 rfl))).trans r8)
  have k_8 := (congrFun e_2 (Ω 9)).trans ((va_up_ne _ _ (Ne.symm (kd_ne r0 r9 rfl))).trans r9)
  have k_9 := (congrFun e_2 (Ω 10)).trans ((va_up_ne _ _ (Ne.symm (kd_ne r0 r10 rfl))).trans r10)
  have k_10 := (congrFun e_2 (Ω 11)).trans ((va_up_ne _ _ (Ne.symm (kd_ne r0 r11 rfl))).trans r11)
  have k_11 := (congrFun e_2 (Ω 12)).trans ((va_up_ne _ _ (Ne.symm (kd_ne r0 r12 rfl))).trans r12)
  have k_12 := (congrFun e_2 (Ω 13)).trans ((va_up_ne _ _ (Ne.symm (kd_ne r0 r13 rfl))).trans r13)
  have hM0 : mD g Ω 0 σ μ_1 := ⟨k_3, k_4, k_5, k_6, k_7, k_8, k_9, k_10, k_11, k_12, hD⟩
  refine lv_aload_n hx hb dX3_hoursUntil_5 rfl (lv_at hl 0 rfl) ?_
  refine lv_iload_n hx hb dX3_hoursUntil_6 rfl (lv_at hl 1 rfl) ?_
  refine w_call (w_runV (n := 1) (As := [.int x]) (rest := []) hx hb hml hown hX (c_X3_isChild l g μ_1 H.size hM0 hO) kw709 kw7 kw706 kw708 kp28 wn_X3_isChild rfl k_3 rfl ⟨Nat.le_of_ble_eq_true rfl, Nat.le_of_ble_eq_true rfl⟩ hl.1 rfl (Nat.le_of_ble_eq_true rfl) dX3_hoursUntil_7 ⟨Nat.le_of_ble_eq_true rfl, Nat.le_of_ble_eq_true rfl⟩) hX (fun r_15 μ_13 H locs q_14 hX hz => ?_)
  obtain ⟨q_17, e_16⟩ := q_14
  rw [e_16] at hX
  obtain ⟨rfl, p_18⟩ | ⟨rfl, p_19⟩ := q_17
  · skip
    refine W.eq (g2 := F0 m 10 ls [.int (nI 1)]) rfl ?_
    have bx := (isX.nI p_18).2
    rw [(isX.nI p_18).1] at hl
    refine n_if_ne (tgt := 19) hx hb (by omega) dX3_hoursUntil_10 (by decide) (fun _ => ?_) (fun h => absurd h (by omega))
    refine lv_iload_n hx hb dX3_hoursUntil_19 rfl (lv_at hl 2 rfl) ?_
    refine w_call (w_runS (n := 1) (As := [.int y]) (rest := []) hx hb hml hown hX (c_X3_isSize l g μ_1 H.size) kw724 kw7 kw722 kw723 wn_X3_isSize rfl ⟨Nat.le_of_ble_eq_true rfl, Nat.le_of_ble_eq_true rfl⟩ hl.1 rfl (Nat.le_of_ble_eq_true rfl) dX3_hoursUntil_20 ⟨Nat.le_of_ble_eq_true rfl, Nat.le_of_ble_eq_true rfl⟩) hX (fun r_22 μ_20 H locs q_21 hX hz => ?_)
    obtain ⟨q_24, e_23⟩ := q_21
    rw [e_23] at hX
    obtain ⟨rfl, p_25⟩ | ⟨rfl, p_26⟩ := q_24
    · skip
      refine W.eq (g2 := F0 m 23 ls [.int (nI 1)]) rfl ?_
      have byy := (isI.nI (a := 1) (b := 20) p_25).2
      rw [(isI.nI (a := 1) (b := 20) p_25).1] at hl
      refine n_if_eq (tgt := 35) hx hb (by omega) dX3_hoursUntil_23 (by decide) (fun h => absurd h (by omega)) (fun _ => ?_)
      refine lv_aload_n hx hb dX3_hoursUntil_26 rfl (lv_at hl 0 rfl) ?_
      refine lv_iload_n hx hb dX3_hoursUntil_27 rfl (lv_at hl 1 rfl) ?_
      refine lv_iload_n hx hb dX3_hoursUntil_28 rfl (lv_at hl 2 rfl) ?_
      refine w_call (w_runV (n := 2) (As := [.int (nI (toN x)), .int (nI (toN y))]) (rest := []) hx hb hml hown hX (c_X3_until l g μ_1 H.size hM0 hO bx byy.1 byy.2) kw846 kw7 kw843 kw845 kp40 wn_X3_until rfl k_3 rfl ⟨Nat.le_of_ble_eq_true rfl, Nat.le_of_ble_eq_true rfl⟩ hl.1 rfl (Nat.le_of_ble_eq_true rfl) dX3_hoursUntil_29 ⟨Nat.le_of_ble_eq_true rfl, Nat.le_of_ble_eq_true rfl⟩) hX (fun r_29 μ_27 H locs q_28 hX hz => ?_)
      obtain ⟨rfl, e_30⟩ := q_28
      rw [e_30] at hX
      refine W.eq (g2 := F0 m 32 ls [.int (utl σ (toN x) (toN y) 101 0)]) rfl ?_
      refine lv_goto (tgt := 40) hx hb dX3_hoursUntil_32 (by decide) ?_
      have hcd : cd2 (isX x (σ 4 0)) (isI y 1 20) = 0 := cd2_0 p_18 p_25
      exact w_iret hx hb hr hlocks hX ⟨_, rfl, by rw [hcd]; exact hM0, fun _ => rfl⟩ ⟨Nat.le_of_ble_eq_true rfl, Nat.le_of_ble_eq_true rfl⟩ dX3_hoursUntil_40
    · skip
      refine W.eq (g2 := F0 m 23 ls [.int (nI 0)]) rfl ?_
      refine n_if_eq (tgt := 35) hx hb (by omega) dX3_hoursUntil_23 (by decide) (fun _ => ?_) (fun h => absurd h (by omega))
      refine lv_aload_n hx hb dX3_hoursUntil_35 rfl (lv_at hl 0 rfl) ?_
      refine lv_iconst (v := nI 2) hx hb dX3_hoursUntil_36 (by decide) ?_
      refine w_call (w_runV (n := 1) (As := [.int (nI 2)]) (rest := []) hx hb hml hown hX (c_X3_no l g μ_1 H.size hM0 hO) kw690 kw7 kw687 kw689 kp26 wn_X3_no rfl k_3 rfl ⟨Nat.le_of_ble_eq_true rfl, Nat.le_of_ble_eq_true rfl⟩ hl.1 rfl (Nat.le_of_ble_eq_true rfl) dX3_hoursUntil_37 ⟨Nat.le_of_ble_eq_true rfl, Nat.le_of_ble_eq_true rfl⟩) hX (fun r_33 μ_31 H locs q_32 hX hz => ?_)
      obtain ⟨rfl, hMk⟩ := q_32
      refine W.eq (g2 := F0 m 40 ls [.int (nI 0)]) rfl ?_
      have hcd : cd2 (isX x (σ 4 0)) (isI y 1 20) = 2 := cd2_2 p_18 p_26
      exact w_iret hx hb hr hlocks hX ⟨_, rfl, by rw [hcd]; exact hMk, fun z => by rw [hcd] at z; cases z⟩ ⟨Nat.le_of_ble_eq_true rfl, Nat.le_of_ble_eq_true rfl⟩ dX3_hoursUntil_40
  · skip
    refine W.eq (g2 := F0 m 10 ls [.int (nI 0)]) rfl ?_
    refine n_if_ne (tgt := 19) hx hb (by omega) dX3_hoursUntil_10 (by decide) (fun h => absurd h (by omega)) (fun _ => ?_)
    refine lv_aload_n hx hb dX3_hoursUntil_13 rfl (lv_at hl 0 rfl) ?_
    refine lv_iconst (v := nI 1) hx hb dX3_hoursUntil_14 (by decide) ?_
    refine w_call (w_runV (n := 1) (As := [.int (nI 1)]) (rest := []) hx hb hml hown hX (c_X3_no l g μ_1 H.size hM0 hO) kw690 kw7 kw687 kw689 kp26 wn_X3_no rfl k_3 rfl ⟨Nat.le_of_ble_eq_true rfl, Nat.le_of_ble_eq_true rfl⟩ hl.1 rfl (Nat.le_of_ble_eq_true rfl) dX3_hoursUntil_15 ⟨Nat.le_of_ble_eq_true rfl, Nat.le_of_ble_eq_true rfl⟩) hX (fun r_36 μ_34 H locs q_35 hX hz => ?_)
    obtain ⟨rfl, hMk⟩ := q_35
    refine W.eq (g2 := F0 m 18 ls [.int (nI 0)]) rfl ?_
    have hcd : cd2 (isX x (σ 4 0)) (isI y 1 20) = 1 := cd2_1 p_19
    exact w_iret hx hb hr hlocks hX ⟨_, rfl, by rw [hcd]; exact hMk, fun z => by rw [hcd] at z; cases z⟩ ⟨Nat.le_of_ble_eq_true rfl, Nat.le_of_ble_eq_true rfl⟩ dX3_hoursUntil_18

set_option maxHeartbeats 4000000 in
set_option maxRecDepth 100000 in
/-- fall -/
theorem c_X3_fallWanted (l : Launch) (g : wG) (μ : wMu) (zz : Nat) {Ω : Nat → Nat} {σ : sSt} {th : Nat} (hM : mD g Ω th σ μ) (hO : sOk σ) {x y : Int32} : wMet l yX3_fallWanted cX3_fallWanted 3 (some .int) 4 0 0 98 g [.ref (Ω 0), .int x, .int y] μ zz (fun r μ' => ∃ v, r = some (.int v) ∧ mD g Ω (cd2 (isX x (σ 4 0)) (isI y 1 20)) (σ) μ' ∧ (cd2 (isX x (σ 4 0)) (isI y 1 20) = 0 → v = wtd σ (toN x) (toN y) 21 0)) := by
  refine wMet.of (by decide) (Nat.le_of_ble_eq_true rfl) ?_
  intro p e s m below meth c ls hx hb hr hml hown hlocks hin hl hsz hX
  have hl : lv_has ls 3 [(0, .ref (Ω 0)), (1, .int x), (2, .int y)] := hl
  obtain ⟨r0, r5, r6, r7, r8, r9, r10, r11, r12, r13, hD⟩ := id hM
  obtain ⟨o1, o2, o3, o4, o5, o6, o7⟩ := id hO
  refine lv_aload_n hx hb dX3_fallWanted_0 rfl (lv_at hl 0 rfl) ?_
  refine lv_iconst (v := nI 0) hx hb dX3_fallWanted_1 (by decide) ?_
  refine pX3_0 hx hb hX hown r0 kw629 dX3_fallWanted_2 (fun H locs hX => ?_)
  obtain ⟨μ_1, e_2⟩ : ∃ z, z = va_up μ (Ω 0) (some (.inr (4, [.int (nI 0), .int (nI (σ 3 0)), .int (nI (σ 4 0)), .int (nI (σ 0 0)), .int (nI (σ 1 0)), .int (nI (σ 2 0)), .ref (Ω 5), .ref (Ω 6), .ref (Ω 7), .ref (Ω 8), .ref (Ω 9), .ref (Ω 10), .ref (Ω 11), .ref (Ω 12), .ref (Ω 13)]))) := ⟨_, rfl⟩
  rw [← e_2] at hX
  have k_3 : μ_1 (Ω 0) = some (.inr (4, [.int (nI 0), .int (nI (σ 3 0)), .int (nI (σ 4 0)), .int (nI (σ 0 0)), .int (nI (σ 1 0)), .int (nI (σ 2 0)), .ref (Ω 5), .ref (Ω 6), .ref (Ω 7), .ref (Ω 8), .ref (Ω 9), .ref (Ω 10), .ref (Ω 11), .ref (Ω 12), .ref (Ω 13)])) := by rw [e_2]; exact va_up_self _ _ _
  have k_4 := (congrFun e_2 (Ω 5)).trans ((va_up_ne _ _ (Ne.symm (kd_ne r0 r5 rfl))).trans r5)
  have k_5 := (congrFun e_2 (Ω 6)).trans ((va_up_ne _ _ (Ne.symm (kd_ne r0 r6 rfl))).trans r6)
  have k_6 := (congrFun e_2 (Ω 7)).trans ((va_up_ne _ _ (Ne.symm (kd_ne r0 r7 rfl))).trans r7)
  have k_7 := (congrFun e_2 (Ω 8)).trans ((va_up_ne _ _ (Ne.symm (kd_ne r0 r8 rfl))).trans r8)
  have k_8 := (congrFun e_2 (Ω 9)).trans ((va_up_ne _ _ (Ne.symm (kd_ne r0 r9 rfl))).trans r9)
  have k_9 := (congrFun e_2 (Ω 10)).trans ((va_up_ne _ _ (Ne.symm (kd_ne r0 r10 rfl))).trans r10)
  have k_10 := (congrFun e_2 (Ω 11)).trans ((va_up_ne _ _ (Ne.symm (kd_ne r0 r11 rfl))).trans r11)
  have k_11 := (congrFun e_2 (Ω 12)).trans ((va_up_ne _ _ (Ne.symm (kd_ne r0 r12 rfl))).trans r12)
  have k_12 := (congrFun e_2 (Ω 13)).trans ((va_up_ne _ _ (Ne.symm (kd_ne r0 r13 rfl))).trans r13)
  have hM0 : mD g Ω 0 σ μ_1 := ⟨k_3, k_4, k_5, k_6, k_7, k_8, k_9, k_10, k_11, k_12, hD⟩
  refine lv_aload_n hx hb dX3_fallWanted_5 rfl (lv_at hl 0 rfl) ?_
  refine lv_iload_n hx hb dX3_fallWanted_6 rfl (lv_at hl 1 rfl) ?_
  refine w_call (w_runV (n := 1) (As := [.int x]) (rest := []) hx hb hml hown hX (c_X3_isChild l g μ_1 H.size hM0 hO) kw709 kw7 kw706 kw708 kp28 wn_X3_isChild rfl k_3 rfl ⟨Nat.le_of_ble_eq_true rfl, Nat.le_of_ble_eq_true rfl⟩ hl.1 rfl (Nat.le_of_ble_eq_true rfl) dX3_fallWanted_7 ⟨Nat.le_of_ble_eq_true rfl, Nat.le_of_ble_eq_true rfl⟩) hX (fun r_15 μ_13 H locs q_14 hX hz => ?_)
  obtain ⟨q_17, e_16⟩ := q_14
  rw [e_16] at hX
  obtain ⟨rfl, p_18⟩ | ⟨rfl, p_19⟩ := q_17
  · skip
    refine W.eq (g2 := F0 m 10 ls [.int (nI 1)]) rfl ?_
    have bx := (isX.nI p_18).2
    rw [(isX.nI p_18).1] at hl
    refine n_if_ne (tgt := 19) hx hb (by omega) dX3_fallWanted_10 (by decide) (fun _ => ?_) (fun h => absurd h (by omega))
    refine lv_iload_n hx hb dX3_fallWanted_19 rfl (lv_at hl 2 rfl) ?_
    refine w_call (w_runS (n := 1) (As := [.int y]) (rest := []) hx hb hml hown hX (c_X3_isSize l g μ_1 H.size) kw724 kw7 kw722 kw723 wn_X3_isSize rfl ⟨Nat.le_of_ble_eq_true rfl, Nat.le_of_ble_eq_true rfl⟩ hl.1 rfl (Nat.le_of_ble_eq_true rfl) dX3_fallWanted_20 ⟨Nat.le_of_ble_eq_true rfl, Nat.le_of_ble_eq_true rfl⟩) hX (fun r_22 μ_20 H locs q_21 hX hz => ?_)
    obtain ⟨q_24, e_23⟩ := q_21
    rw [e_23] at hX
    obtain ⟨rfl, p_25⟩ | ⟨rfl, p_26⟩ := q_24
    · skip
      refine W.eq (g2 := F0 m 23 ls [.int (nI 1)]) rfl ?_
      have byy := (isI.nI (a := 1) (b := 20) p_25).2
      rw [(isI.nI (a := 1) (b := 20) p_25).1] at hl
      refine n_if_eq (tgt := 35) hx hb (by omega) dX3_fallWanted_23 (by decide) (fun h => absurd h (by omega)) (fun _ => ?_)
      refine lv_aload_n hx hb dX3_fallWanted_26 rfl (lv_at hl 0 rfl) ?_
      refine lv_iload_n hx hb dX3_fallWanted_27 rfl (lv_at hl 1 rfl) ?_
      refine lv_iload_n hx hb dX3_fallWanted_28 rfl (lv_at hl 2 rfl) ?_
      refine w_call (w_runV (n := 2) (As := [.int (nI (toN x)), .int (nI (toN y))]) (rest := []) hx hb hml hown hX (c_X3_wanted l g μ_1 H.size hM0 hO bx byy.1 byy.2) kw862 kw7 kw859 kw861 kp42 wn_X3_wanted rfl k_3 rfl ⟨Nat.le_of_ble_eq_true rfl, Nat.le_of_ble_eq_true rfl⟩ hl.1 rfl (Nat.le_of_ble_eq_true rfl) dX3_fallWanted_29 ⟨Nat.le_of_ble_eq_true rfl, Nat.le_of_ble_eq_true rfl⟩) hX (fun r_29 μ_27 H locs q_28 hX hz => ?_)
      obtain ⟨rfl, e_30⟩ := q_28
      rw [e_30] at hX
      refine W.eq (g2 := F0 m 32 ls [.int (wtd σ (toN x) (toN y) 21 0)]) rfl ?_
      refine lv_goto (tgt := 40) hx hb dX3_fallWanted_32 (by decide) ?_
      have hcd : cd2 (isX x (σ 4 0)) (isI y 1 20) = 0 := cd2_0 p_18 p_25
      exact w_iret hx hb hr hlocks hX ⟨_, rfl, by rw [hcd]; exact hM0, fun _ => rfl⟩ ⟨Nat.le_of_ble_eq_true rfl, Nat.le_of_ble_eq_true rfl⟩ dX3_fallWanted_40
    · skip
      refine W.eq (g2 := F0 m 23 ls [.int (nI 0)]) rfl ?_
      refine n_if_eq (tgt := 35) hx hb (by omega) dX3_fallWanted_23 (by decide) (fun _ => ?_) (fun h => absurd h (by omega))
      refine lv_aload_n hx hb dX3_fallWanted_35 rfl (lv_at hl 0 rfl) ?_
      refine lv_iconst (v := nI 2) hx hb dX3_fallWanted_36 (by decide) ?_
      refine w_call (w_runV (n := 1) (As := [.int (nI 2)]) (rest := []) hx hb hml hown hX (c_X3_no l g μ_1 H.size hM0 hO) kw690 kw7 kw687 kw689 kp26 wn_X3_no rfl k_3 rfl ⟨Nat.le_of_ble_eq_true rfl, Nat.le_of_ble_eq_true rfl⟩ hl.1 rfl (Nat.le_of_ble_eq_true rfl) dX3_fallWanted_37 ⟨Nat.le_of_ble_eq_true rfl, Nat.le_of_ble_eq_true rfl⟩) hX (fun r_33 μ_31 H locs q_32 hX hz => ?_)
      obtain ⟨rfl, hMk⟩ := q_32
      refine W.eq (g2 := F0 m 40 ls [.int (nI 0)]) rfl ?_
      have hcd : cd2 (isX x (σ 4 0)) (isI y 1 20) = 2 := cd2_2 p_18 p_26
      exact w_iret hx hb hr hlocks hX ⟨_, rfl, by rw [hcd]; exact hMk, fun z => by rw [hcd] at z; cases z⟩ ⟨Nat.le_of_ble_eq_true rfl, Nat.le_of_ble_eq_true rfl⟩ dX3_fallWanted_40
  · skip
    refine W.eq (g2 := F0 m 10 ls [.int (nI 0)]) rfl ?_
    refine n_if_ne (tgt := 19) hx hb (by omega) dX3_fallWanted_10 (by decide) (fun h => absurd h (by omega)) (fun _ => ?_)
    refine lv_aload_n hx hb dX3_fallWanted_13 rfl (lv_at hl 0 rfl) ?_
    refine lv_iconst (v := nI 1) hx hb dX3_fallWanted_14 (by decide) ?_
    refine w_call (w_runV (n := 1) (As := [.int (nI 1)]) (rest := []) hx hb hml hown hX (c_X3_no l g μ_1 H.size hM0 hO) kw690 kw7 kw687 kw689 kp26 wn_X3_no rfl k_3 rfl ⟨Nat.le_of_ble_eq_true rfl, Nat.le_of_ble_eq_true rfl⟩ hl.1 rfl (Nat.le_of_ble_eq_true rfl) dX3_fallWanted_15 ⟨Nat.le_of_ble_eq_true rfl, Nat.le_of_ble_eq_true rfl⟩) hX (fun r_36 μ_34 H locs q_35 hX hz => ?_)
    obtain ⟨rfl, hMk⟩ := q_35
    refine W.eq (g2 := F0 m 18 ls [.int (nI 0)]) rfl ?_
    have hcd : cd2 (isX x (σ 4 0)) (isI y 1 20) = 1 := cd2_1 p_19
    exact w_iret hx hb hr hlocks hX ⟨_, rfl, by rw [hcd]; exact hMk, fun z => by rw [hcd] at z; cases z⟩ ⟨Nat.le_of_ble_eq_true rfl, Nat.le_of_ble_eq_true rfl⟩ dX3_fallWanted_18

set_option maxHeartbeats 4000000 in
set_option maxRecDepth 100000 in
/-- granted in -/
theorem c_X3_grantedIn (l : Launch) (g : wG) (μ : wMu) (zz : Nat) {Ω : Nat → Nat} {σ : sSt} {th : Nat} (hM : mD g Ω th σ μ) (hO : sOk σ) {x y z : Int32} : wMet l yX3_grantedIn cX3_grantedIn 4 (some .int) 3 0 0 75 g [.ref (Ω 0), .int x, .int y, .int z] μ zz (fun r μ' => ∃ v, r = some (.int v) ∧ mD g Ω (cd2 (isX x (σ 4 0)) (isI y 1 20 ∧ isI z 1 60)) (σ) μ' ∧ (cd2 (isX x (σ 4 0)) (isI y 1 20 ∧ isI z 1 60) = 0 → v = nI (tws σ (toN x) (toN y) (toN z) (σ 6 (σ 8 (toN x)))))) := by
  refine wMet.of (by decide) (Nat.le_of_ble_eq_true rfl) ?_
  intro p e s m below meth c ls hx hb hr hml hown hlocks hin hl hsz hX
  have hl : lv_has ls 4 [(0, .ref (Ω 0)), (1, .int x), (2, .int y), (3, .int z)] := hl
  obtain ⟨r0, r5, r6, r7, r8, r9, r10, r11, r12, r13, hD⟩ := id hM
  obtain ⟨o1, o2, o3, o4, o5, o6, o7⟩ := id hO
  refine lv_aload_n hx hb dX3_grantedIn_0 rfl (lv_at hl 0 rfl) ?_
  refine lv_iconst (v := nI 0) hx hb dX3_grantedIn_1 (by decide) ?_
  refine pX3_0 hx hb hX hown r0 kw629 dX3_grantedIn_2 (fun H locs hX => ?_)
  obtain ⟨μ_1, e_2⟩ : ∃ z, z = va_up μ (Ω 0) (some (.inr (4, [.int (nI 0), .int (nI (σ 3 0)), .int (nI (σ 4 0)), .int (nI (σ 0 0)), .int (nI (σ 1 0)), .int (nI (σ 2 0)), .ref (Ω 5), .ref (Ω 6), .ref (Ω 7), .ref (Ω 8), .ref (Ω 9), .ref (Ω 10), .ref (Ω 11), .ref (Ω 12), .ref (Ω 13)]))) := ⟨_, rfl⟩
  rw [← e_2] at hX
  have k_3 : μ_1 (Ω 0) = some (.inr (4, [.int (nI 0), .int (nI (σ 3 0)), .int (nI (σ 4 0)), .int (nI (σ 0 0)), .int (nI (σ 1 0)), .int (nI (σ 2 0)), .ref (Ω 5), .ref (Ω 6), .ref (Ω 7), .ref (Ω 8), .ref (Ω 9), .ref (Ω 10), .ref (Ω 11), .ref (Ω 12), .ref (Ω 13)])) := by rw [e_2]; exact va_up_self _ _ _
  have k_4 := (congrFun e_2 (Ω 5)).trans ((va_up_ne _ _ (Ne.symm (kd_ne r0 r5 rfl))).trans r5)
  have k_5 := (congrFun e_2 (Ω 6)).trans ((va_up_ne _ _ (Ne.symm (kd_ne r0 r6 rfl))).trans r6)
  have k_6 := (congrFun e_2 (Ω 7)).trans ((va_up_ne _ _ (Ne.symm (kd_ne r0 r7 rfl))).trans r7)
  have k_7 := (congrFun e_2 (Ω 8)).trans ((va_up_ne _ _ (Ne.symm (kd_ne r0 r8 rfl))).trans r8)
  have k_8 := (congrFun e_2 (Ω 9)).trans ((va_up_ne _ _ (Ne.symm (kd_ne r0 r9 rfl))).trans r9)
  have k_9 := (congrFun e_2 (Ω 10)).trans ((va_up_ne _ _ (Ne.symm (kd_ne r0 r10 rfl))).trans r10)
  have k_10 := (congrFun e_2 (Ω 11)).trans ((va_up_ne _ _ (Ne.symm (kd_ne r0 r11 rfl))).trans r11)
  have k_11 := (congrFun e_2 (Ω 12)).trans ((va_up_ne _ _ (Ne.symm (kd_ne r0 r12 rfl))).trans r12)
  have k_12 := (congrFun e_2 (Ω 13)).trans ((va_up_ne _ _ (Ne.symm (kd_ne r0 r13 rfl))).trans r13)
  have hM0 : mD g Ω 0 σ μ_1 := ⟨k_3, k_4, k_5, k_6, k_7, k_8, k_9, k_10, k_11, k_12, hD⟩
  refine lv_aload_n hx hb dX3_grantedIn_5 rfl (lv_at hl 0 rfl) ?_
  refine lv_iload_n hx hb dX3_grantedIn_6 rfl (lv_at hl 1 rfl) ?_
  refine w_call (w_runV (n := 1) (As := [.int x]) (rest := []) hx hb hml hown hX (c_X3_isChild l g μ_1 H.size hM0 hO) kw709 kw7 kw706 kw708 kp28 wn_X3_isChild rfl k_3 rfl ⟨Nat.le_of_ble_eq_true rfl, Nat.le_of_ble_eq_true rfl⟩ hl.1 rfl (Nat.le_of_ble_eq_true rfl) dX3_grantedIn_7 ⟨Nat.le_of_ble_eq_true rfl, Nat.le_of_ble_eq_true rfl⟩) hX (fun r_15 μ_13 H locs q_14 hX hz => ?_)
  obtain ⟨q_17, e_16⟩ := q_14
  rw [e_16] at hX
  obtain ⟨rfl, p_18⟩ | ⟨rfl, p_19⟩ := q_17
  · skip
    refine W.eq (g2 := F0 m 10 ls [.int (nI 1)]) rfl ?_
    have bx := (isX.nI p_18).2
    rw [(isX.nI p_18).1] at hl
    refine n_if_ne (tgt := 19) hx hb (by omega) dX3_grantedIn_10 (by decide) (fun _ => ?_) (fun h => absurd h (by omega))
    refine lv_iload_n hx hb dX3_grantedIn_19 rfl (lv_at hl 2 rfl) ?_
    refine w_call (w_runS (n := 1) (As := [.int y]) (rest := []) hx hb hml hown hX (c_X3_isSize l g μ_1 H.size) kw724 kw7 kw722 kw723 wn_X3_isSize rfl ⟨Nat.le_of_ble_eq_true rfl, Nat.le_of_ble_eq_true rfl⟩ hl.1 rfl (Nat.le_of_ble_eq_true rfl) dX3_grantedIn_20 ⟨Nat.le_of_ble_eq_true rfl, Nat.le_of_ble_eq_true rfl⟩) hX (fun r_22 μ_20 H locs q_21 hX hz => ?_)
    obtain ⟨q_24, e_23⟩ := q_21
    rw [e_23] at hX
    obtain ⟨rfl, p_25⟩ | ⟨rfl, p_26⟩ := q_24
    · skip
      refine W.eq (g2 := F0 m 23 ls [.int (nI 1)]) rfl ?_
      have byy := (isI.nI (a := 1) (b := 20) p_25).2
      rw [(isI.nI (a := 1) (b := 20) p_25).1] at hl
      refine n_if_eq (tgt := 57) hx hb (by omega) dX3_grantedIn_23 (by decide) (fun h => absurd h (by omega)) (fun _ => ?_)
      refine lv_iload_n hx hb dX3_grantedIn_26 rfl (lv_at hl 3 rfl) ?_
      refine lv_iconst (v := nI 1) hx hb dX3_grantedIn_27 (by decide) ?_
      refine lv_bipush (v := nI 60) hx hb dX3_grantedIn_28 (by decide) ?_
      refine w_call (w_runS (n := 3) (As := [.int z, .int (nI 1), .int (nI 60)]) (rest := []) hx hb hml hown hX (c_X3_isIn l g μ_1 H.size (by decide)) kw686 kw7 kw684 kw685 wn_X3_isIn rfl ⟨Nat.le_of_ble_eq_true rfl, Nat.le_of_ble_eq_true rfl⟩ hl.1 rfl (Nat.le_of_ble_eq_true rfl) dX3_grantedIn_30 ⟨Nat.le_of_ble_eq_true rfl, Nat.le_of_ble_eq_true rfl⟩) hX (fun r_29 μ_27 H locs q_28 hX hz => ?_)
      obtain ⟨q_31, e_30⟩ := q_28
      rw [e_30] at hX
      obtain ⟨rfl, p_32⟩ | ⟨rfl, p_33⟩ := q_31
      · skip
        refine W.eq (g2 := F0 m 33 ls [.int (nI 1)]) rfl ?_
        rw [nI_toInt (by decide)] at p_32
        have bzz := (isI.nI (a := 1) (b := 60) p_32).2
        rw [(isI.nI (a := 1) (b := 60) p_32).1] at hl
        refine n_if_eq (tgt := 57) hx hb (by omega) dX3_grantedIn_33 (by decide) (fun h => absurd h (by omega)) (fun _ => ?_)
        have ocb := o4 _ bx
        refine lv_aload_n hx hb dX3_grantedIn_36 rfl (lv_at hl 0 rfl) ?_
        refine lv_iload_n hx hb dX3_grantedIn_37 rfl (lv_at hl 1 rfl) ?_
        refine lv_iload_n hx hb dX3_grantedIn_38 rfl (lv_at hl 2 rfl) ?_
        refine lv_iload_n hx hb dX3_grantedIn_39 rfl (lv_at hl 3 rfl) ?_
        refine lv_aload_n hx hb dX3_grantedIn_40 rfl (lv_at hl 0 rfl) ?_
        refine gX3_7 hx hb hX hown k_3 kw636 dX3_grantedIn_41 ?_
        refine lv_aload_n hx hb dX3_grantedIn_44 rfl (lv_at hl 0 rfl) ?_
        refine gX3_9 hx hb hX hown k_3 kw638 dX3_grantedIn_45 ?_
        refine lv_iload_n hx hb dX3_grantedIn_48 rfl (lv_at hl 1 rfl) ?_
        refine n_iald hx hb hX k_7 (by omega) (by omega) dX3_grantedIn_49 ?_
        refine n_iald hx hb hX k_5 (by omega) (by omega) dX3_grantedIn_50 ?_
        refine w_call (w_runV (n := 4) (As := [.int (nI (toN x)), .int (nI (toN y)), .int (nI (toN z)), .int (nI (σ 6 (σ 8 (toN x))))]) (rest := []) hx hb hml hown hX (c_X3_grants l g μ_1 H.size hM0 hO bx byy.1 byy.2 (by omega) (by have z1 := o3 _ ocb.1; omega)) kw854 kw7 kw851 kw853 kp41 wn_X3_grants rfl k_3 rfl ⟨Nat.le_of_ble_eq_true rfl, Nat.le_of_ble_eq_true rfl⟩ hl.1 rfl (Nat.le_of_ble_eq_true rfl) dX3_grantedIn_51 ⟨Nat.le_of_ble_eq_true rfl, Nat.le_of_ble_eq_true rfl⟩) hX (fun r_36 μ_34 H locs q_35 hX hz => ?_)
        obtain ⟨rfl, e_37⟩ := q_35
        rw [e_37] at hX
        refine W.eq (g2 := F0 m 54 ls [.int (nI (tws σ (toN x) (toN y) (toN z) (σ 6 (σ 8 (toN x)))))]) rfl ?_
        refine lv_goto (tgt := 62) hx hb dX3_grantedIn_54 (by decide) ?_
        have hcd : cd2 (isX x (σ 4 0)) (isI y 1 20 ∧ isI z 1 60) = 0 := cd2_0 p_18 ⟨p_25, p_32⟩
        exact w_iret hx hb hr hlocks hX ⟨_, rfl, by rw [hcd]; exact hM0, fun _ => rfl⟩ ⟨Nat.le_of_ble_eq_true rfl, Nat.le_of_ble_eq_true rfl⟩ dX3_grantedIn_62
      · skip
        refine W.eq (g2 := F0 m 33 ls [.int (nI 0)]) rfl ?_
        rw [nI_toInt (by decide)] at p_33
        refine n_if_eq (tgt := 57) hx hb (by omega) dX3_grantedIn_33 (by decide) (fun _ => ?_) (fun h => absurd h (by omega))
        refine lv_aload_n hx hb dX3_grantedIn_57 rfl (lv_at hl 0 rfl) ?_
        refine lv_iconst (v := nI 2) hx hb dX3_grantedIn_58 (by decide) ?_
        refine w_call (w_runV (n := 1) (As := [.int (nI 2)]) (rest := []) hx hb hml hown hX (c_X3_no l g μ_1 H.size hM0 hO) kw690 kw7 kw687 kw689 kp26 wn_X3_no rfl k_3 rfl ⟨Nat.le_of_ble_eq_true rfl, Nat.le_of_ble_eq_true rfl⟩ hl.1 rfl (Nat.le_of_ble_eq_true rfl) dX3_grantedIn_59 ⟨Nat.le_of_ble_eq_true rfl, Nat.le_of_ble_eq_true rfl⟩) hX (fun r_40 μ_38 H locs q_39 hX hz => ?_)
        obtain ⟨rfl, hMk⟩ := q_39
        refine W.eq (g2 := F0 m 62 ls [.int (nI 0)]) rfl ?_
        have hcd : cd2 (isX x (σ 4 0)) (isI y 1 20 ∧ isI z 1 60) = 2 := cd2_2 p_18 (fun z => p_33 z.2)
        exact w_iret hx hb hr hlocks hX ⟨_, rfl, by rw [hcd]; exact hMk, fun z => by rw [hcd] at z; cases z⟩ ⟨Nat.le_of_ble_eq_true rfl, Nat.le_of_ble_eq_true rfl⟩ dX3_grantedIn_62
    · skip
      refine W.eq (g2 := F0 m 23 ls [.int (nI 0)]) rfl ?_
      refine n_if_eq (tgt := 57) hx hb (by omega) dX3_grantedIn_23 (by decide) (fun _ => ?_) (fun h => absurd h (by omega))
      refine lv_aload_n hx hb dX3_grantedIn_57 rfl (lv_at hl 0 rfl) ?_
      refine lv_iconst (v := nI 2) hx hb dX3_grantedIn_58 (by decide) ?_
      refine w_call (w_runV (n := 1) (As := [.int (nI 2)]) (rest := []) hx hb hml hown hX (c_X3_no l g μ_1 H.size hM0 hO) kw690 kw7 kw687 kw689 kp26 wn_X3_no rfl k_3 rfl ⟨Nat.le_of_ble_eq_true rfl, Nat.le_of_ble_eq_true rfl⟩ hl.1 rfl (Nat.le_of_ble_eq_true rfl) dX3_grantedIn_59 ⟨Nat.le_of_ble_eq_true rfl, Nat.le_of_ble_eq_true rfl⟩) hX (fun r_43 μ_41 H locs q_42 hX hz => ?_)
      obtain ⟨rfl, hMk⟩ := q_42
      refine W.eq (g2 := F0 m 62 ls [.int (nI 0)]) rfl ?_
      have hcd : cd2 (isX x (σ 4 0)) (isI y 1 20 ∧ isI z 1 60) = 2 := cd2_2 p_18 (fun z => p_26 z.1)
      exact w_iret hx hb hr hlocks hX ⟨_, rfl, by rw [hcd]; exact hMk, fun z => by rw [hcd] at z; cases z⟩ ⟨Nat.le_of_ble_eq_true rfl, Nat.le_of_ble_eq_true rfl⟩ dX3_grantedIn_62
  · skip
    refine W.eq (g2 := F0 m 10 ls [.int (nI 0)]) rfl ?_
    refine n_if_ne (tgt := 19) hx hb (by omega) dX3_grantedIn_10 (by decide) (fun h => absurd h (by omega)) (fun _ => ?_)
    refine lv_aload_n hx hb dX3_grantedIn_13 rfl (lv_at hl 0 rfl) ?_
    refine lv_iconst (v := nI 1) hx hb dX3_grantedIn_14 (by decide) ?_
    refine w_call (w_runV (n := 1) (As := [.int (nI 1)]) (rest := []) hx hb hml hown hX (c_X3_no l g μ_1 H.size hM0 hO) kw690 kw7 kw687 kw689 kp26 wn_X3_no rfl k_3 rfl ⟨Nat.le_of_ble_eq_true rfl, Nat.le_of_ble_eq_true rfl⟩ hl.1 rfl (Nat.le_of_ble_eq_true rfl) dX3_grantedIn_15 ⟨Nat.le_of_ble_eq_true rfl, Nat.le_of_ble_eq_true rfl⟩) hX (fun r_46 μ_44 H locs q_45 hX hz => ?_)
    obtain ⟨rfl, hMk⟩ := q_45
    refine W.eq (g2 := F0 m 18 ls [.int (nI 0)]) rfl ?_
    have hcd : cd2 (isX x (σ 4 0)) (isI y 1 20 ∧ isI z 1 60) = 1 := cd2_1 p_19
    exact w_iret hx hb hr hlocks hX ⟨_, rfl, by rw [hcd]; exact hMk, fun z => by rw [hcd] at z; cases z⟩ ⟨Nat.le_of_ble_eq_true rfl, Nat.le_of_ble_eq_true rfl⟩ dX3_grantedIn_18

set_option maxHeartbeats 4000000 in
set_option maxRecDepth 100000 in
/-- best -/
theorem c_X3_bestChild (l : Launch) (g : wG) (μ : wMu) (zz : Nat) {Ω : Nat → Nat} {σ : sSt} {th : Nat} (hM : mD g Ω th σ μ) (hO : sOk σ) {x : Int32} : wMet l yX3_bestChild cX3_bestChild 2 (some .int) 3 0 0 66 g [.ref (Ω 0), .int x] μ zz (fun r μ' => ∃ v, r = some (.int v) ∧ mD g Ω (cd1 (isI x 1 20)) (σ) μ' ∧ (cd1 (isI x 1 20) = 0 → v = vBst σ (toN x))) := by
  refine wMet.of (by decide) (Nat.le_of_ble_eq_true rfl) ?_
  intro p e s m below meth c ls hx hb hr hml hown hlocks hin hl hsz hX
  have hl : lv_has ls 2 [(0, .ref (Ω 0)), (1, .int x)] := hl
  obtain ⟨r0, r5, r6, r7, r8, r9, r10, r11, r12, r13, hD⟩ := id hM
  obtain ⟨o1, o2, o3, o4, o5, o6, o7⟩ := id hO
  refine lv_aload_n hx hb dX3_bestChild_0 rfl (lv_at hl 0 rfl) ?_
  refine lv_iconst (v := nI 0) hx hb dX3_bestChild_1 (by decide) ?_
  refine pX3_0 hx hb hX hown r0 kw629 dX3_bestChild_2 (fun H locs hX => ?_)
  obtain ⟨μ_1, e_2⟩ : ∃ z, z = va_up μ (Ω 0) (some (.inr (4, [.int (nI 0), .int (nI (σ 3 0)), .int (nI (σ 4 0)), .int (nI (σ 0 0)), .int (nI (σ 1 0)), .int (nI (σ 2 0)), .ref (Ω 5), .ref (Ω 6), .ref (Ω 7), .ref (Ω 8), .ref (Ω 9), .ref (Ω 10), .ref (Ω 11), .ref (Ω 12), .ref (Ω 13)]))) := ⟨_, rfl⟩
  rw [← e_2] at hX
  have k_3 : μ_1 (Ω 0) = some (.inr (4, [.int (nI 0), .int (nI (σ 3 0)), .int (nI (σ 4 0)), .int (nI (σ 0 0)), .int (nI (σ 1 0)), .int (nI (σ 2 0)), .ref (Ω 5), .ref (Ω 6), .ref (Ω 7), .ref (Ω 8), .ref (Ω 9), .ref (Ω 10), .ref (Ω 11), .ref (Ω 12), .ref (Ω 13)])) := by rw [e_2]; exact va_up_self _ _ _
  have k_4 := (congrFun e_2 (Ω 5)).trans ((va_up_ne _ _ (Ne.symm (kd_ne r0 r5 rfl))).trans r5)
  have k_5 := (congrFun e_2 (Ω 6)).trans ((va_up_ne _ _ (Ne.symm (kd_ne r0 r6 rfl))).trans r6)
  have k_6 := (congrFun e_2 (Ω 7)).trans ((va_up_ne _ _ (Ne.symm (kd_ne r0 r7 rfl))).trans r7)
  have k_7 := (congrFun e_2 (Ω 8)).trans ((va_up_ne _ _ (Ne.symm (kd_ne r0 r8 rfl))).trans r8)
  have k_8 := (congrFun e_2 (Ω 9)).trans ((va_up_ne _ _ (Ne.symm (kd_ne r0 r9 rfl))).trans r9)
  have k_9 := (congrFun e_2 (Ω 10)).trans ((va_up_ne _ _ (Ne.symm (kd_ne r0 r10 rfl))).trans r10)
  have k_10 := (congrFun e_2 (Ω 11)).trans ((va_up_ne _ _ (Ne.symm (kd_ne r0 r11 rfl))).trans r11)
  have k_11 := (congrFun e_2 (Ω 12)).trans ((va_up_ne _ _ (Ne.symm (kd_ne r0 r12 rfl))).trans r12)
  have k_12 := (congrFun e_2 (Ω 13)).trans ((va_up_ne _ _ (Ne.symm (kd_ne r0 r13 rfl))).trans r13)
  have hM0 : mD g Ω 0 σ μ_1 := ⟨k_3, k_4, k_5, k_6, k_7, k_8, k_9, k_10, k_11, k_12, hD⟩
  refine lv_iload_n hx hb dX3_bestChild_5 rfl (lv_at hl 1 rfl) ?_
  refine w_call (w_runS (n := 1) (As := [.int x]) (rest := []) hx hb hml hown hX (c_X3_isSize l g μ_1 H.size) kw724 kw7 kw722 kw723 wn_X3_isSize rfl ⟨Nat.le_of_ble_eq_true rfl, Nat.le_of_ble_eq_true rfl⟩ hl.1 rfl (Nat.le_of_ble_eq_true rfl) dX3_bestChild_6 ⟨Nat.le_of_ble_eq_true rfl, Nat.le_of_ble_eq_true rfl⟩) hX (fun r_15 μ_13 H locs q_14 hX hz => ?_)
  obtain ⟨q_17, e_16⟩ := q_14
  rw [e_16] at hX
  obtain ⟨rfl, p_18⟩ | ⟨rfl, p_19⟩ := q_17
  · skip
    refine W.eq (g2 := F0 m 9 ls [.int (nI 1)]) rfl ?_
    have bx := (isI.nI (a := 1) (b := 20) p_18).2
    rw [(isI.nI (a := 1) (b := 20) p_18).1] at hl
    refine n_if_eq (tgt := 20) hx hb (by omega) dX3_bestChild_9 (by decide) (fun h => absurd h (by omega)) (fun _ => ?_)
    refine lv_aload_n hx hb dX3_bestChild_12 rfl (lv_at hl 0 rfl) ?_
    refine lv_iload_n hx hb dX3_bestChild_13 rfl (lv_at hl 1 rfl) ?_
    refine w_call (w_runV (n := 1) (As := [.int (nI (toN x))]) (rest := []) hx hb hml hown hX (c_X3_best l g μ_1 H.size hM0 hO bx.1 bx.2) kw878 kw7 kw875 kw877 kp44 wn_X3_best rfl k_3 rfl ⟨Nat.le_of_ble_eq_true rfl, Nat.le_of_ble_eq_true rfl⟩ hl.1 rfl (Nat.le_of_ble_eq_true rfl) dX3_bestChild_14 ⟨Nat.le_of_ble_eq_true rfl, Nat.le_of_ble_eq_true rfl⟩) hX (fun r_22 μ_20 H locs q_21 hX hz => ?_)
    obtain ⟨rfl, e_23⟩ := q_21
    rw [e_23] at hX
    refine W.eq (g2 := F0 m 17 ls [.int (vBst σ (toN x))]) rfl ?_
    refine lv_goto (tgt := 25) hx hb dX3_bestChild_17 (by decide) ?_
    have hcd : cd1 (isI x 1 20) = 0 := cd1_0 p_18
    exact w_iret hx hb hr hlocks hX ⟨_, rfl, by rw [hcd]; exact hM0, fun _ => rfl⟩ ⟨Nat.le_of_ble_eq_true rfl, Nat.le_of_ble_eq_true rfl⟩ dX3_bestChild_25
  · skip
    refine W.eq (g2 := F0 m 9 ls [.int (nI 0)]) rfl ?_
    refine n_if_eq (tgt := 20) hx hb (by omega) dX3_bestChild_9 (by decide) (fun _ => ?_) (fun h => absurd h (by omega))
    refine lv_aload_n hx hb dX3_bestChild_20 rfl (lv_at hl 0 rfl) ?_
    refine lv_iconst (v := nI 1) hx hb dX3_bestChild_21 (by decide) ?_
    refine w_call (w_runV (n := 1) (As := [.int (nI 1)]) (rest := []) hx hb hml hown hX (c_X3_no l g μ_1 H.size hM0 hO) kw690 kw7 kw687 kw689 kp26 wn_X3_no rfl k_3 rfl ⟨Nat.le_of_ble_eq_true rfl, Nat.le_of_ble_eq_true rfl⟩ hl.1 rfl (Nat.le_of_ble_eq_true rfl) dX3_bestChild_22 ⟨Nat.le_of_ble_eq_true rfl, Nat.le_of_ble_eq_true rfl⟩) hX (fun r_26 μ_24 H locs q_25 hX hz => ?_)
    obtain ⟨rfl, hMk⟩ := q_25
    refine W.eq (g2 := F0 m 25 ls [.int (nI 0)]) rfl ?_
    have hcd : cd1 (isI x 1 20) = 1 := cd1_1 p_19
    exact w_iret hx hb hr hlocks hX ⟨_, rfl, by rw [hcd]; exact hMk, fun z => by rw [hcd] at z; cases z⟩ ⟨Nat.le_of_ble_eq_true rfl, Nat.le_of_ble_eq_true rfl⟩ dX3_bestChild_25

set_option maxHeartbeats 4000000 in
set_option maxRecDepth 100000 in
/-- another wand -/
theorem c_X3_give (l : Launch) (g : wG) (μ : wMu) (zz : Nat) {Ω : Nat → Nat} {σ : sSt} {th : Nat} (hM : mD g Ω th σ μ) (hO : sOk σ) {x y : Int32} : wMet l yX3_give cX3_give 4 (some .int) 2 0 0 43 g [.ref (Ω 0), .int x, .int y] μ zz (fun r μ' => ∃ v, r = some (.int v) ∧ mD g Ω (cd1 (isX x (σ 4 0) ∧ isX y (σ 3 0))) (nx (cd1 (isX x (σ 4 0) ∧ isX y (σ 3 0))) (up2 σ 8 (toN x) (toN y)) σ) μ' ∧ (cd1 (isX x (σ 4 0) ∧ isX y (σ 3 0)) = 0 → v = nI (σ 8 (toN x)))) := by
  refine wMet.of (by decide) (Nat.le_of_ble_eq_true rfl) ?_
  intro p e s m below meth c ls hx hb hr hml hown hlocks hin hl hsz hX
  have hl : lv_has ls 4 [(0, .ref (Ω 0)), (1, .int x), (2, .int y)] := hl
  obtain ⟨r0, r5, r6, r7, r8, r9, r10, r11, r12, r13, hD⟩ := id hM
  obtain ⟨o1, o2, o3, o4, o5, o6, o7⟩ := id hO
  refine lv_aload_n hx hb dX3_give_0 rfl (lv_at hl 0 rfl) ?_
  refine lv_iconst (v := nI 0) hx hb dX3_give_1 (by decide) ?_
  refine pX3_0 hx hb hX hown r0 kw629 dX3_give_2 (fun H locs hX => ?_)
  obtain ⟨μ_1, e_2⟩ : ∃ z, z = va_up μ (Ω 0) (some (.inr (4, [.int (nI 0), .int (nI (σ 3 0)), .int (nI (σ 4 0)), .int (nI (σ 0 0)), .int (nI (σ 1 0)), .int (nI (σ 2 0)), .ref (Ω 5), .ref (Ω 6), .ref (Ω 7), .ref (Ω 8), .ref (Ω 9), .ref (Ω 10), .ref (Ω 11), .ref (Ω 12), .ref (Ω 13)]))) := ⟨_, rfl⟩
  rw [← e_2] at hX
  have k_3 : μ_1 (Ω 0) = some (.inr (4, [.int (nI 0), .int (nI (σ 3 0)), .int (nI (σ 4 0)), .int (nI (σ 0 0)), .int (nI (σ 1 0)), .int (nI (σ 2 0)), .ref (Ω 5), .ref (Ω 6), .ref (Ω 7), .ref (Ω 8), .ref (Ω 9), .ref (Ω 10), .ref (Ω 11), .ref (Ω 12), .ref (Ω 13)])) := by rw [e_2]; exact va_up_self _ _ _
  have k_4 := (congrFun e_2 (Ω 5)).trans ((va_up_ne _ _ (Ne.symm (kd_ne r0 r5 rfl))).trans r5)
  have k_5 := (congrFun e_2 (Ω 6)).trans ((va_up_ne _ _ (Ne.symm (kd_ne r0 r6 rfl))).trans r6)
  have k_6 := (congrFun e_2 (Ω 7)).trans ((va_up_ne _ _ (Ne.symm (kd_ne r0 r7 rfl))).trans r7)
  have k_7 := (congrFun e_2 (Ω 8)).trans ((va_up_ne _ _ (Ne.symm (kd_ne r0 r8 rfl))).trans r8)
  have k_8 := (congrFun e_2 (Ω 9)).trans ((va_up_ne _ _ (Ne.symm (kd_ne r0 r9 rfl))).trans r9)
  have k_9 := (congrFun e_2 (Ω 10)).trans ((va_up_ne _ _ (Ne.symm (kd_ne r0 r10 rfl))).trans r10)
  have k_10 := (congrFun e_2 (Ω 11)).trans ((va_up_ne _ _ (Ne.symm (kd_ne r0 r11 rfl))).trans r11)
  have k_11 := (congrFun e_2 (Ω 12)).trans ((va_up_ne _ _ (Ne.symm (kd_ne r0 r12 rfl))).trans r12)
  have k_12 := (congrFun e_2 (Ω 13)).trans ((va_up_ne _ _ (Ne.symm (kd_ne r0 r13 rfl))).trans r13)
  have hM0 : mD g Ω 0 σ μ_1 := ⟨k_3, k_4, k_5, k_6, k_7, k_8, k_9, k_10, k_11, k_12, hD⟩
  refine lv_aload_n hx hb dX3_give_5 rfl (lv_at hl 0 rfl) ?_
  refine lv_iload_n hx hb dX3_give_6 rfl (lv_at hl 1 rfl) ?_
  refine w_call (w_runV (n := 1) (As := [.int x]) (rest := []) hx hb hml hown hX (c_X3_isChild l g μ_1 H.size hM0 hO) kw709 kw7 kw706 kw708 kp28 wn_X3_isChild rfl k_3 rfl ⟨Nat.le_of_ble_eq_true rfl, Nat.le_of_ble_eq_true rfl⟩ hl.1 rfl (Nat.le_of_ble_eq_true rfl) dX3_give_7 ⟨Nat.le_of_ble_eq_true rfl, Nat.le_of_ble_eq_true rfl⟩) hX (fun r_15 μ_13 H locs q_14 hX hz => ?_)
  obtain ⟨q_17, e_16⟩ := q_14
  rw [e_16] at hX
  obtain ⟨rfl, p_18⟩ | ⟨rfl, p_19⟩ := q_17
  · skip
    refine W.eq (g2 := F0 m 10 ls [.int (nI 1)]) rfl ?_
    have bx := (isX.nI p_18).2
    rw [(isX.nI p_18).1] at hl
    refine n_if_eq (tgt := 21) hx hb (by omega) dX3_give_10 (by decide) (fun h => absurd h (by omega)) (fun _ => ?_)
    refine lv_aload_n hx hb dX3_give_13 rfl (lv_at hl 0 rfl) ?_
    refine lv_iload_n hx hb dX3_give_14 rfl (lv_at hl 2 rfl) ?_
    refine w_call (w_runV (n := 1) (As := [.int y]) (rest := []) hx hb hml hown hX (c_X3_isWand l g μ_1 H.size hM0 hO) kw698 kw7 kw695 kw697 kp27 wn_X3_isWand rfl k_3 rfl ⟨Nat.le_of_ble_eq_true rfl, Nat.le_of_ble_eq_true rfl⟩ hl.1 rfl (Nat.le_of_ble_eq_true rfl) dX3_give_15 ⟨Nat.le_of_ble_eq_true rfl, Nat.le_of_ble_eq_true rfl⟩) hX (fun r_22 μ_20 H locs q_21 hX hz => ?_)
    obtain ⟨q_24, e_23⟩ := q_21
    rw [e_23] at hX
    obtain ⟨rfl, p_25⟩ | ⟨rfl, p_26⟩ := q_24
    · skip
      refine W.eq (g2 := F0 m 18 ls [.int (nI 1)]) rfl ?_
      have byy := (isX.nI p_25).2
      rw [(isX.nI p_25).1] at hl
      refine n_if_ne (tgt := 27) hx hb (by omega) dX3_give_18 (by decide) (fun _ => ?_) (fun h => absurd h (by omega))
      refine lv_aload_n hx hb dX3_give_27 rfl (lv_at hl 0 rfl) ?_
      refine gX3_9 hx hb hX hown k_3 kw638 dX3_give_28 ?_
      refine lv_iload_n hx hb dX3_give_31 rfl (lv_at hl 1 rfl) ?_
      refine n_iald hx hb hX k_7 (by omega) (by omega) dX3_give_32 ?_
      refine lv_istore_n (lv' := [(3, .int (nI (σ 8 (toN x)))), (0, .ref (Ω 0)), (1, .int (nI (toN x))), (2, .int (nI (toN y)))]) hx hb dX3_give_33 rfl hl (by decide) rfl (fun ls hl => ?_)
      refine lv_aload_n hx hb dX3_give_34 rfl (lv_at hl 1 rfl) ?_
      refine gX3_9 hx hb hX hown k_3 kw638 dX3_give_35 ?_
      refine lv_iload_n hx hb dX3_give_38 rfl (lv_at hl 2 rfl) ?_
      refine lv_iload_n hx hb dX3_give_39 rfl (lv_at hl 3 rfl) ?_
      refine n_iastR (τ := σ) (k := 8) (v := toN y) hx hb hX k_7 (by omega) (by omega) dX3_give_40 (fun H locs hX => ?_)
      obtain ⟨μ_27, e_28⟩ : ∃ z, z = va_up μ_1 (Ω 8) (some (.inl (gI g, 10, .inl (fun ii => nI ((up2 σ 8 (toN x) (toN y)) 8 ii))))) := ⟨_, rfl⟩
      rw [← e_28] at hX
      have k_29 : μ_27 (Ω 8) = some (.inl (gI g, 10, .inl (fun ii => nI ((up2 σ 8 (toN x) (toN y)) 8 ii)))) := by rw [e_28]; exact va_up_self _ _ _
      have k_30 := (congrFun e_28 (Ω 0)).trans ((va_up_ne _ _ (kd_ne r0 r8 rfl)).trans k_3)
      have k_31 := (congrFun e_28 (Ω 5)).trans ((va_up_ne _ _ (hD 5 8 (by decide) (by decide) (by decide))).trans k_4)
      have k_32 := (congrFun e_28 (Ω 6)).trans ((va_up_ne _ _ (hD 6 8 (by decide) (by decide) (by decide))).trans k_5)
      have k_33 := (congrFun e_28 (Ω 7)).trans ((va_up_ne _ _ (hD 7 8 (by decide) (by decide) (by decide))).trans k_6)
      have k_34 := (congrFun e_28 (Ω 9)).trans ((va_up_ne _ _ (Ne.symm (hD 8 9 (by decide) (by decide) (by decide)))).trans k_8)
      have k_35 := (congrFun e_28 (Ω 10)).trans ((va_up_ne _ _ (Ne.symm (hD 8 10 (by decide) (by decide) (by decide)))).trans k_9)
      have k_36 := (congrFun e_28 (Ω 11)).trans ((va_up_ne _ _ (Ne.symm (hD 8 11 (by decide) (by decide) (by decide)))).trans k_10)
      have k_37 := (congrFun e_28 (Ω 12)).trans ((va_up_ne _ _ (Ne.symm (hD 8 12 (by decide) (by decide) (by decide)))).trans k_11)
      have k_38 := (congrFun e_28 (Ω 13)).trans ((va_up_ne _ _ (Ne.symm (hD 8 13 (by decide) (by decide) (by decide)))).trans k_12)
      refine lv_iload_n hx hb dX3_give_41 rfl (lv_at hl 0 rfl) ?_
      have hcd : cd1 (isX x (σ 4 0) ∧ isX y (σ 3 0)) = 0 := cd1_0 ⟨p_18, p_25⟩
      exact w_iret hx hb hr hlocks hX ⟨_, rfl, by rw [hcd]; exact ⟨k_30, k_31, k_32, k_33, k_29, k_34, k_35, k_36, k_37, k_38, hD⟩, fun _ => rfl⟩ ⟨Nat.le_of_ble_eq_true rfl, Nat.le_of_ble_eq_true rfl⟩ dX3_give_42
    · skip
      refine W.eq (g2 := F0 m 18 ls [.int (nI 0)]) rfl ?_
      refine n_if_ne (tgt := 27) hx hb (by omega) dX3_give_18 (by decide) (fun h => absurd h (by omega)) (fun _ => ?_)
      refine lv_aload_n hx hb dX3_give_21 rfl (lv_at hl 0 rfl) ?_
      refine lv_iconst (v := nI 1) hx hb dX3_give_22 (by decide) ?_
      refine w_call (w_runV (n := 1) (As := [.int (nI 1)]) (rest := []) hx hb hml hown hX (c_X3_no l g μ_1 H.size hM0 hO) kw690 kw7 kw687 kw689 kp26 wn_X3_no rfl k_3 rfl ⟨Nat.le_of_ble_eq_true rfl, Nat.le_of_ble_eq_true rfl⟩ hl.1 rfl (Nat.le_of_ble_eq_true rfl) dX3_give_23 ⟨Nat.le_of_ble_eq_true rfl, Nat.le_of_ble_eq_true rfl⟩) hX (fun r_41 μ_39 H locs q_40 hX hz => ?_)
      obtain ⟨rfl, hMk⟩ := q_40
      refine W.eq (g2 := F0 m 26 ls [.int (nI 0)]) rfl ?_
      have hcd : cd1 (isX x (σ 4 0) ∧ isX y (σ 3 0)) = 1 := cd1_1 (fun z => p_26 z.2)
      exact w_iret hx hb hr hlocks hX ⟨_, rfl, by rw [hcd]; exact hMk, fun z => by rw [hcd] at z; cases z⟩ ⟨Nat.le_of_ble_eq_true rfl, Nat.le_of_ble_eq_true rfl⟩ dX3_give_26
  · skip
    refine W.eq (g2 := F0 m 10 ls [.int (nI 0)]) rfl ?_
    refine n_if_eq (tgt := 21) hx hb (by omega) dX3_give_10 (by decide) (fun _ => ?_) (fun h => absurd h (by omega))
    refine lv_aload_n hx hb dX3_give_21 rfl (lv_at hl 0 rfl) ?_
    refine lv_iconst (v := nI 1) hx hb dX3_give_22 (by decide) ?_
    refine w_call (w_runV (n := 1) (As := [.int (nI 1)]) (rest := []) hx hb hml hown hX (c_X3_no l g μ_1 H.size hM0 hO) kw690 kw7 kw687 kw689 kp26 wn_X3_no rfl k_3 rfl ⟨Nat.le_of_ble_eq_true rfl, Nat.le_of_ble_eq_true rfl⟩ hl.1 rfl (Nat.le_of_ble_eq_true rfl) dX3_give_23 ⟨Nat.le_of_ble_eq_true rfl, Nat.le_of_ble_eq_true rfl⟩) hX (fun r_44 μ_42 H locs q_43 hX hz => ?_)
    obtain ⟨rfl, hMk⟩ := q_43
    refine W.eq (g2 := F0 m 26 ls [.int (nI 0)]) rfl ?_
    have hcd : cd1 (isX x (σ 4 0) ∧ isX y (σ 3 0)) = 1 := cd1_1 (fun z => p_19 z.1)
    exact w_iret hx hb hr hlocks hX ⟨_, rfl, by rw [hcd]; exact hMk, fun z => by rw [hcd] at z; cases z⟩ ⟨Nat.le_of_ble_eq_true rfl, Nat.le_of_ble_eq_true rfl⟩ dX3_give_26

set_option maxHeartbeats 4000000 in
set_option maxRecDepth 100000 in
/-- another fall -/
theorem c_X3_setFall (l : Launch) (g : wG) (μ : wMu) (zz : Nat) {Ω : Nat → Nat} {σ : sSt} {th : Nat} (hM : mD g Ω th σ μ) (hO : sOk σ) {x y : Int32} : wMet l yX3_setFall cX3_setFall 4 (some .int) 2 0 0 43 g [.ref (Ω 0), .int x, .int y] μ zz (fun r μ' => ∃ v, r = some (.int v) ∧ mD g Ω (cd2 (isX x (σ 3 0)) (isI y 0 9)) (nx (cd2 (isX x (σ 3 0)) (isI y 0 9)) (up2 σ 6 (toN x) (toN y)) σ) μ' ∧ (cd2 (isX x (σ 3 0)) (isI y 0 9) = 0 → v = nI (σ 6 (toN x)))) := by
  refine wMet.of (by decide) (Nat.le_of_ble_eq_true rfl) ?_
  intro p e s m below meth c ls hx hb hr hml hown hlocks hin hl hsz hX
  have hl : lv_has ls 4 [(0, .ref (Ω 0)), (1, .int x), (2, .int y)] := hl
  obtain ⟨r0, r5, r6, r7, r8, r9, r10, r11, r12, r13, hD⟩ := id hM
  obtain ⟨o1, o2, o3, o4, o5, o6, o7⟩ := id hO
  refine lv_aload_n hx hb dX3_setFall_0 rfl (lv_at hl 0 rfl) ?_
  refine lv_iconst (v := nI 0) hx hb dX3_setFall_1 (by decide) ?_
  refine pX3_0 hx hb hX hown r0 kw629 dX3_setFall_2 (fun H locs hX => ?_)
  obtain ⟨μ_1, e_2⟩ : ∃ z, z = va_up μ (Ω 0) (some (.inr (4, [.int (nI 0), .int (nI (σ 3 0)), .int (nI (σ 4 0)), .int (nI (σ 0 0)), .int (nI (σ 1 0)), .int (nI (σ 2 0)), .ref (Ω 5), .ref (Ω 6), .ref (Ω 7), .ref (Ω 8), .ref (Ω 9), .ref (Ω 10), .ref (Ω 11), .ref (Ω 12), .ref (Ω 13)]))) := ⟨_, rfl⟩
  rw [← e_2] at hX
  have k_3 : μ_1 (Ω 0) = some (.inr (4, [.int (nI 0), .int (nI (σ 3 0)), .int (nI (σ 4 0)), .int (nI (σ 0 0)), .int (nI (σ 1 0)), .int (nI (σ 2 0)), .ref (Ω 5), .ref (Ω 6), .ref (Ω 7), .ref (Ω 8), .ref (Ω 9), .ref (Ω 10), .ref (Ω 11), .ref (Ω 12), .ref (Ω 13)])) := by rw [e_2]; exact va_up_self _ _ _
  have k_4 := (congrFun e_2 (Ω 5)).trans ((va_up_ne _ _ (Ne.symm (kd_ne r0 r5 rfl))).trans r5)
  have k_5 := (congrFun e_2 (Ω 6)).trans ((va_up_ne _ _ (Ne.symm (kd_ne r0 r6 rfl))).trans r6)
  have k_6 := (congrFun e_2 (Ω 7)).trans ((va_up_ne _ _ (Ne.symm (kd_ne r0 r7 rfl))).trans r7)
  have k_7 := (congrFun e_2 (Ω 8)).trans ((va_up_ne _ _ (Ne.symm (kd_ne r0 r8 rfl))).trans r8)
  have k_8 := (congrFun e_2 (Ω 9)).trans ((va_up_ne _ _ (Ne.symm (kd_ne r0 r9 rfl))).trans r9)
  have k_9 := (congrFun e_2 (Ω 10)).trans ((va_up_ne _ _ (Ne.symm (kd_ne r0 r10 rfl))).trans r10)
  have k_10 := (congrFun e_2 (Ω 11)).trans ((va_up_ne _ _ (Ne.symm (kd_ne r0 r11 rfl))).trans r11)
  have k_11 := (congrFun e_2 (Ω 12)).trans ((va_up_ne _ _ (Ne.symm (kd_ne r0 r12 rfl))).trans r12)
  have k_12 := (congrFun e_2 (Ω 13)).trans ((va_up_ne _ _ (Ne.symm (kd_ne r0 r13 rfl))).trans r13)
  have hM0 : mD g Ω 0 σ μ_1 := ⟨k_3, k_4, k_5, k_6, k_7, k_8, k_9, k_10, k_11, k_12, hD⟩
  refine lv_aload_n hx hb dX3_setFall_5 rfl (lv_at hl 0 rfl) ?_
  refine lv_iload_n hx hb dX3_setFall_6 rfl (lv_at hl 1 rfl) ?_
  refine w_call (w_runV (n := 1) (As := [.int x]) (rest := []) hx hb hml hown hX (c_X3_isWand l g μ_1 H.size hM0 hO) kw698 kw7 kw695 kw697 kp27 wn_X3_isWand rfl k_3 rfl ⟨Nat.le_of_ble_eq_true rfl, Nat.le_of_ble_eq_true rfl⟩ hl.1 rfl (Nat.le_of_ble_eq_true rfl) dX3_setFall_7 ⟨Nat.le_of_ble_eq_true rfl, Nat.le_of_ble_eq_true rfl⟩) hX (fun r_15 μ_13 H locs q_14 hX hz => ?_)
  obtain ⟨q_17, e_16⟩ := q_14
  rw [e_16] at hX
  obtain ⟨rfl, p_18⟩ | ⟨rfl, p_19⟩ := q_17
  · skip
    refine W.eq (g2 := F0 m 10 ls [.int (nI 1)]) rfl ?_
    have bx := (isX.nI p_18).2
    rw [(isX.nI p_18).1] at hl
    refine n_if_ne (tgt := 19) hx hb (by omega) dX3_setFall_10 (by decide) (fun _ => ?_) (fun h => absurd h (by omega))
    refine lv_iload_n hx hb dX3_setFall_19 rfl (lv_at hl 2 rfl) ?_
    refine lv_iconst (v := nI 0) hx hb dX3_setFall_20 (by decide) ?_
    refine lv_bipush (v := nI 9) hx hb dX3_setFall_21 (by decide) ?_
    refine w_call (w_runS (n := 3) (As := [.int y, .int (nI 0), .int (nI 9)]) (rest := []) hx hb hml hown hX (c_X3_isIn l g μ_1 H.size (by decide)) kw686 kw7 kw684 kw685 wn_X3_isIn rfl ⟨Nat.le_of_ble_eq_true rfl, Nat.le_of_ble_eq_true rfl⟩ hl.1 rfl (Nat.le_of_ble_eq_true rfl) dX3_setFall_23 ⟨Nat.le_of_ble_eq_true rfl, Nat.le_of_ble_eq_true rfl⟩) hX (fun r_22 μ_20 H locs q_21 hX hz => ?_)
    obtain ⟨q_24, e_23⟩ := q_21
    rw [e_23] at hX
    obtain ⟨rfl, p_25⟩ | ⟨rfl, p_26⟩ := q_24
    · skip
      refine W.eq (g2 := F0 m 26 ls [.int (nI 1)]) rfl ?_
      rw [nI_toInt (by decide)] at p_25
      have byy := (isI.nI (a := 0) (b := 9) p_25).2
      rw [(isI.nI (a := 0) (b := 9) p_25).1] at hl
      refine n_if_ne (tgt := 35) hx hb (by omega) dX3_setFall_26 (by decide) (fun _ => ?_) (fun h => absurd h (by omega))
      refine lv_aload_n hx hb dX3_setFall_35 rfl (lv_at hl 0 rfl) ?_
      refine gX3_7 hx hb hX hown k_3 kw636 dX3_setFall_36 ?_
      refine lv_iload_n hx hb dX3_setFall_39 rfl (lv_at hl 1 rfl) ?_
      refine n_iald hx hb hX k_5 (by omega) (by omega) dX3_setFall_40 ?_
      refine lv_istore_n (lv' := [(3, .int (nI (σ 6 (toN x)))), (0, .ref (Ω 0)), (1, .int (nI (toN x))), (2, .int (nI (toN y)))]) hx hb dX3_setFall_41 rfl hl (by decide) rfl (fun ls hl => ?_)
      refine lv_aload_n hx hb dX3_setFall_42 rfl (lv_at hl 1 rfl) ?_
      refine gX3_7 hx hb hX hown k_3 kw636 dX3_setFall_43 ?_
      refine lv_iload_n hx hb dX3_setFall_46 rfl (lv_at hl 2 rfl) ?_
      refine lv_iload_n hx hb dX3_setFall_47 rfl (lv_at hl 3 rfl) ?_
      refine n_iastR (τ := σ) (k := 6) (v := toN y) hx hb hX k_5 (by omega) (by omega) dX3_setFall_48 (fun H locs hX => ?_)
      obtain ⟨μ_27, e_28⟩ : ∃ z, z = va_up μ_1 (Ω 6) (some (.inl (gI g, 4, .inl (fun ii => nI ((up2 σ 6 (toN x) (toN y)) 6 ii))))) := ⟨_, rfl⟩
      rw [← e_28] at hX
      have k_29 : μ_27 (Ω 6) = some (.inl (gI g, 4, .inl (fun ii => nI ((up2 σ 6 (toN x) (toN y)) 6 ii)))) := by rw [e_28]; exact va_up_self _ _ _
      have k_30 := (congrFun e_28 (Ω 0)).trans ((va_up_ne _ _ (kd_ne r0 r6 rfl)).trans k_3)
      have k_31 := (congrFun e_28 (Ω 5)).trans ((va_up_ne _ _ (hD 5 6 (by decide) (by decide) (by decide))).trans k_4)
      have k_32 := (congrFun e_28 (Ω 7)).trans ((va_up_ne _ _ (Ne.symm (hD 6 7 (by decide) (by decide) (by decide)))).trans k_6)
      have k_33 := (congrFun e_28 (Ω 8)).trans ((va_up_ne _ _ (Ne.symm (hD 6 8 (by decide) (by decide) (by decide)))).trans k_7)
      have k_34 := (congrFun e_28 (Ω 9)).trans ((va_up_ne _ _ (Ne.symm (hD 6 9 (by decide) (by decide) (by decide)))).trans k_8)
      have k_35 := (congrFun e_28 (Ω 10)).trans ((va_up_ne _ _ (Ne.symm (hD 6 10 (by decide) (by decide) (by decide)))).trans k_9)
      have k_36 := (congrFun e_28 (Ω 11)).trans ((va_up_ne _ _ (Ne.symm (hD 6 11 (by decide) (by decide) (by decide)))).trans k_10)
      have k_37 := (congrFun e_28 (Ω 12)).trans ((va_up_ne _ _ (Ne.symm (hD 6 12 (by decide) (by decide) (by decide)))).trans k_11)
      have k_38 := (congrFun e_28 (Ω 13)).trans ((va_up_ne _ _ (Ne.symm (hD 6 13 (by decide) (by decide) (by decide)))).trans k_12)
      refine lv_iload_n hx hb dX3_setFall_49 rfl (lv_at hl 0 rfl) ?_
      have hcd : cd2 (isX x (σ 3 0)) (isI y 0 9) = 0 := cd2_0 p_18 p_25
      exact w_iret hx hb hr hlocks hX ⟨_, rfl, by rw [hcd]; exact ⟨k_30, k_31, k_29, k_32, k_33, k_34, k_35, k_36, k_37, k_38, hD⟩, fun _ => rfl⟩ ⟨Nat.le_of_ble_eq_true rfl, Nat.le_of_ble_eq_true rfl⟩ dX3_setFall_50
    · skip
      refine W.eq (g2 := F0 m 26 ls [.int (nI 0)]) rfl ?_
      rw [nI_toInt (by decide)] at p_26
      refine n_if_ne (tgt := 35) hx hb (by omega) dX3_setFall_26 (by decide) (fun h => absurd h (by omega)) (fun _ => ?_)
      refine lv_aload_n hx hb dX3_setFall_29 rfl (lv_at hl 0 rfl) ?_
      refine lv_iconst (v := nI 2) hx hb dX3_setFall_30 (by decide) ?_
      refine w_call (w_runV (n := 1) (As := [.int (nI 2)]) (rest := []) hx hb hml hown hX (c_X3_no l g μ_1 H.size hM0 hO) kw690 kw7 kw687 kw689 kp26 wn_X3_no rfl k_3 rfl ⟨Nat.le_of_ble_eq_true rfl, Nat.le_of_ble_eq_true rfl⟩ hl.1 rfl (Nat.le_of_ble_eq_true rfl) dX3_setFall_31 ⟨Nat.le_of_ble_eq_true rfl, Nat.le_of_ble_eq_true rfl⟩) hX (fun r_41 μ_39 H locs q_40 hX hz => ?_)
      obtain ⟨rfl, hMk⟩ := q_40
      refine W.eq (g2 := F0 m 34 ls [.int (nI 0)]) rfl ?_
      have hcd : cd2 (isX x (σ 3 0)) (isI y 0 9) = 2 := cd2_2 p_18 p_26
      exact w_iret hx hb hr hlocks hX ⟨_, rfl, by rw [hcd]; exact hMk, fun z => by rw [hcd] at z; cases z⟩ ⟨Nat.le_of_ble_eq_true rfl, Nat.le_of_ble_eq_true rfl⟩ dX3_setFall_34
  · skip
    refine W.eq (g2 := F0 m 10 ls [.int (nI 0)]) rfl ?_
    refine n_if_ne (tgt := 19) hx hb (by omega) dX3_setFall_10 (by decide) (fun h => absurd h (by omega)) (fun _ => ?_)
    refine lv_aload_n hx hb dX3_setFall_13 rfl (lv_at hl 0 rfl) ?_
    refine lv_iconst (v := nI 1) hx hb dX3_setFall_14 (by decide) ?_
    refine w_call (w_runV (n := 1) (As := [.int (nI 1)]) (rest := []) hx hb hml hown hX (c_X3_no l g μ_1 H.size hM0 hO) kw690 kw7 kw687 kw689 kp26 wn_X3_no rfl k_3 rfl ⟨Nat.le_of_ble_eq_true rfl, Nat.le_of_ble_eq_true rfl⟩ hl.1 rfl (Nat.le_of_ble_eq_true rfl) dX3_setFall_15 ⟨Nat.le_of_ble_eq_true rfl, Nat.le_of_ble_eq_true rfl⟩) hX (fun r_44 μ_42 H locs q_43 hX hz => ?_)
    obtain ⟨rfl, hMk⟩ := q_43
    refine W.eq (g2 := F0 m 18 ls [.int (nI 0)]) rfl ?_
    have hcd : cd2 (isX x (σ 3 0)) (isI y 0 9) = 1 := cd2_1 p_19
    exact w_iret hx hb hr hlocks hX ⟨_, rfl, by rw [hcd]; exact hMk, fun z => by rw [hcd] at z; cases z⟩ ⟨Nat.le_of_ble_eq_true rfl, Nat.le_of_ble_eq_true rfl⟩ dX3_setFall_18

set_option maxHeartbeats 4000000 in
set_option maxRecDepth 100000 in
/-- forgiven -/
theorem c_X3_forgive (l : Launch) (g : wG) (μ : wMu) (zz : Nat) {Ω : Nat → Nat} {σ : sSt} {th : Nat} (hM : mD g Ω th σ μ) (hO : sOk σ) {x : Int32} : wMet l yX3_forgive cX3_forgive 3 (some .int) 2 0 0 43 g [.ref (Ω 0), .int x] μ zz (fun r μ' => ∃ v, r = some (.int v) ∧ mD g Ω (cd1 (isX x (σ 4 0))) (nx (cd1 (isX x (σ 4 0))) (nFor σ (toN x)) σ) μ' ∧ (cd1 (isX x (σ 4 0)) = 0 → v = nI (σ 11 (toN x)))) := by
  refine wMet.of (by decide) (Nat.le_of_ble_eq_true rfl) ?_
  intro p e s m below meth c ls hx hb hr hml hown hlocks hin hl hsz hX
  have hl : lv_has ls 3 [(0, .ref (Ω 0)), (1, .int x)] := hl
  obtain ⟨r0, r5, r6, r7, r8, r9, r10, r11, r12, r13, hD⟩ := id hM
  obtain ⟨o1, o2, o3, o4, o5, o6, o7⟩ := id hO
  refine lv_aload_n hx hb dX3_forgive_0 rfl (lv_at hl 0 rfl) ?_
  refine lv_iconst (v := nI 0) hx hb dX3_forgive_1 (by decide) ?_
  refine pX3_0 hx hb hX hown r0 kw629 dX3_forgive_2 (fun H locs hX => ?_)
  obtain ⟨μ_1, e_2⟩ : ∃ z, z = va_up μ (Ω 0) (some (.inr (4, [.int (nI 0), .int (nI (σ 3 0)), .int (nI (σ 4 0)), .int (nI (σ 0 0)), .int (nI (σ 1 0)), .int (nI (σ 2 0)), .ref (Ω 5), .ref (Ω 6), .ref (Ω 7), .ref (Ω 8), .ref (Ω 9), .ref (Ω 10), .ref (Ω 11), .ref (Ω 12), .ref (Ω 13)]))) := ⟨_, rfl⟩
  rw [← e_2] at hX
  have k_3 : μ_1 (Ω 0) = some (.inr (4, [.int (nI 0), .int (nI (σ 3 0)), .int (nI (σ 4 0)), .int (nI (σ 0 0)), .int (nI (σ 1 0)), .int (nI (σ 2 0)), .ref (Ω 5), .ref (Ω 6), .ref (Ω 7), .ref (Ω 8), .ref (Ω 9), .ref (Ω 10), .ref (Ω 11), .ref (Ω 12), .ref (Ω 13)])) := by rw [e_2]; exact va_up_self _ _ _
  have k_4 := (congrFun e_2 (Ω 5)).trans ((va_up_ne _ _ (Ne.symm (kd_ne r0 r5 rfl))).trans r5)
  have k_5 := (congrFun e_2 (Ω 6)).trans ((va_up_ne _ _ (Ne.symm (kd_ne r0 r6 rfl))).trans r6)
  have k_6 := (congrFun e_2 (Ω 7)).trans ((va_up_ne _ _ (Ne.symm (kd_ne r0 r7 rfl))).trans r7)
  have k_7 := (congrFun e_2 (Ω 8)).trans ((va_up_ne _ _ (Ne.symm (kd_ne r0 r8 rfl))).trans r8)
  have k_8 := (congrFun e_2 (Ω 9)).trans ((va_up_ne _ _ (Ne.symm (kd_ne r0 r9 rfl))).trans r9)
  have k_9 := (congrFun e_2 (Ω 10)).trans ((va_up_ne _ _ (Ne.symm (kd_ne r0 r10 rfl))).trans r10)
  have k_10 := (congrFun e_2 (Ω 11)).trans ((va_up_ne _ _ (Ne.symm (kd_ne r0 r11 rfl))).trans r11)
  have k_11 := (congrFun e_2 (Ω 12)).trans ((va_up_ne _ _ (Ne.symm (kd_ne r0 r12 rfl))).trans r12)
  have k_12 := (congrFun e_2 (Ω 13)).trans ((va_up_ne _ _ (Ne.symm (kd_ne r0 r13 rfl))).trans r13)
  have hM0 : mD g Ω 0 σ μ_1 := ⟨k_3, k_4, k_5, k_6, k_7, k_8, k_9, k_10, k_11, k_12, hD⟩
  refine lv_aload_n hx hb dX3_forgive_5 rfl (lv_at hl 0 rfl) ?_
  refine lv_iload_n hx hb dX3_forgive_6 rfl (lv_at hl 1 rfl) ?_
  refine w_call (w_runV (n := 1) (As := [.int x]) (rest := []) hx hb hml hown hX (c_X3_isChild l g μ_1 H.size hM0 hO) kw709 kw7 kw706 kw708 kp28 wn_X3_isChild rfl k_3 rfl ⟨Nat.le_of_ble_eq_true rfl, Nat.le_of_ble_eq_true rfl⟩ hl.1 rfl (Nat.le_of_ble_eq_true rfl) dX3_forgive_7 ⟨Nat.le_of_ble_eq_true rfl, Nat.le_of_ble_eq_true rfl⟩) hX (fun r_15 μ_13 H locs q_14 hX hz => ?_)
  obtain ⟨q_17, e_16⟩ := q_14
  rw [e_16] at hX
  obtain ⟨rfl, p_18⟩ | ⟨rfl, p_19⟩ := q_17
  · skip
    refine W.eq (g2 := F0 m 10 ls [.int (nI 1)]) rfl ?_
    have bx := (isX.nI p_18).2
    rw [(isX.nI p_18).1] at hl
    refine n_if_ne (tgt := 19) hx hb (by omega) dX3_forgive_10 (by decide) (fun _ => ?_) (fun h => absurd h (by omega))
    refine lv_aload_n hx hb dX3_forgive_19 rfl (lv_at hl 0 rfl) ?_
    refine gX3_12 hx hb hX hown k_3 kw641 dX3_forgive_20 ?_
    refine lv_iload_n hx hb dX3_forgive_23 rfl (lv_at hl 1 rfl) ?_
    refine n_iald hx hb hX k_10 (by omega) (by omega) dX3_forgive_24 ?_
    refine lv_istore_n (lv' := [(2, .int (nI (σ 11 (toN x)))), (0, .ref (Ω 0)), (1, .int (nI (toN x)))]) hx hb dX3_forgive_25 rfl hl (by decide) rfl (fun ls hl => ?_)
    refine lv_aload_n hx hb dX3_forgive_26 rfl (lv_at hl 1 rfl) ?_
    refine gX3_12 hx hb hX hown k_3 kw641 dX3_forgive_27 ?_
    refine lv_iload_n hx hb dX3_forgive_30 rfl (lv_at hl 2 rfl) ?_
    refine lv_iconst (v := nI 0) hx hb dX3_forgive_31 (by decide) ?_
    refine n_iastR (τ := σ) (k := 11) (v := 0) hx hb hX k_10 (by omega) (by omega) dX3_forgive_32 (fun H locs hX => ?_)
    obtain ⟨μ_20, e_21⟩ : ∃ z, z = va_up μ_1 (Ω 11) (some (.inl (gI g, 10, .inl (fun ii => nI ((up2 σ 11 (toN x) 0) 11 ii))))) := ⟨_, rfl⟩
    rw [← e_21] at hX
    have k_22 : μ_20 (Ω 11) = some (.inl (gI g, 10, .inl (fun ii => nI ((up2 σ 11 (toN x) 0) 11 ii)))) := by rw [e_21]; exact va_up_self _ _ _
    have k_23 := (congrFun e_21 (Ω 0)).trans ((va_up_ne _ _ (kd_ne r0 r11 rfl)).trans k_3)
    have k_24 := (congrFun e_21 (Ω 5)).trans ((va_up_ne _ _ (hD 5 11 (by decide) (by decide) (by decide))).trans k_4)
    have k_25 := (congrFun e_21 (Ω 6)).trans ((va_up_ne _ _ (hD 6 11 (by decide) (by decide) (by decide))).trans k_5)
    have k_26 := (congrFun e_21 (Ω 7)).trans ((va_up_ne _ _ (hD 7 11 (by decide) (by decide) (by decide))).trans k_6)
    have k_27 := (congrFun e_21 (Ω 8)).trans ((va_up_ne _ _ (hD 8 11 (by decide) (by decide) (by decide))).trans k_7)
    have k_28 := (congrFun e_21 (Ω 9)).trans ((va_up_ne _ _ (hD 9 11 (by decide) (by decide) (by decide))).trans k_8)
    have k_29 := (congrFun e_21 (Ω 10)).trans ((va_up_ne _ _ (hD 10 11 (by decide) (by decide) (by decide))).trans k_9)
    have k_30 := (congrFun e_21 (Ω 12)).trans ((va_up_ne _ _ (Ne.symm (hD 11 12 (by decide) (by decide) (by decide)))).trans k_11)
    have k_31 := (congrFun e_21 (Ω 13)).trans ((va_up_ne _ _ (Ne.symm (hD 11 13 (by decide) (by decide) (by decide)))).trans k_12)
    refine lv_aload_n hx hb dX3_forgive_33 rfl (lv_at hl 1 rfl) ?_
    refine gX3_13 hx hb hX hown k_23 kw642 dX3_forgive_34 ?_
    refine lv_iload_n hx hb dX3_forgive_37 rfl (lv_at hl 2 rfl) ?_
    refine lv_iconst (v := nI 0) hx hb dX3_forgive_38 (by decide) ?_
    refine n_iastR (τ := σ) (k := 12) (v := 0) hx hb hX k_30 (by omega) (by omega) dX3_forgive_39 (fun H locs hX => ?_)
    obtain ⟨μ_32, e_33⟩ : ∃ z, z = va_up μ_20 (Ω 12) (some (.inl (gI g, 10, .inl (fun ii => nI ((up2 σ 12 (toN x) 0) 12 ii))))) := ⟨_, rfl⟩
    rw [← e_33] at hX
    have k_34 : μ_32 (Ω 12) = some (.inl (gI g, 10, .inl (fun ii => nI ((up2 σ 12 (toN x) 0) 12 ii)))) := by rw [e_33]; exact va_up_self _ _ _
    have k_35 := (congrFun e_33 (Ω 0)).trans ((va_up_ne _ _ (kd_ne r0 r12 rfl)).trans k_23)
    have k_36 := (congrFun e_33 (Ω 5)).trans ((va_up_ne _ _ (hD 5 12 (by decide) (by decide) (by decide))).trans k_24)
    have k_37 := (congrFun e_33 (Ω 6)).trans ((va_up_ne _ _ (hD 6 12 (by decide) (by decide) (by decide))).trans k_25)
    have k_38 := (congrFun e_33 (Ω 7)).trans ((va_up_ne _ _ (hD 7 12 (by decide) (by decide) (by decide))).trans k_26)
    have k_39 := (congrFun e_33 (Ω 8)).trans ((va_up_ne _ _ (hD 8 12 (by decide) (by decide) (by decide))).trans k_27)
    have k_40 := (congrFun e_33 (Ω 9)).trans ((va_up_ne _ _ (hD 9 12 (by decide) (by decide) (by decide))).trans k_28)
    have k_41 := (congrFun e_33 (Ω 10)).trans ((va_up_ne _ _ (hD 10 12 (by decide) (by decide) (by decide))).trans k_29)
    have k_42 := (congrFun e_33 (Ω 11)).trans ((va_up_ne _ _ (hD 11 12 (by decide) (by decide) (by decide))).trans k_22)
    have k_43 := (congrFun e_33 (Ω 13)).trans ((va_up_ne _ _ (Ne.symm (hD 12 13 (by decide) (by decide) (by decide)))).trans k_31)
    refine lv_iload_n hx hb dX3_forgive_40 rfl (lv_at hl 0 rfl) ?_
    have hcd : cd1 (isX x (σ 4 0)) = 0 := cd1_0 p_18
    exact w_iret hx hb hr hlocks hX ⟨_, rfl, by rw [hcd]; exact ⟨k_35, k_36, k_37, k_38, k_39, k_40, k_41, k_42, k_34, k_43, hD⟩, fun _ => rfl⟩ ⟨Nat.le_of_ble_eq_true rfl, Nat.le_of_ble_eq_true rfl⟩ dX3_forgive_41
  · skip
    refine W.eq (g2 := F0 m 10 ls [.int (nI 0)]) rfl ?_
    refine n_if_ne (tgt := 19) hx hb (by omega) dX3_forgive_10 (by decide) (fun h => absurd h (by omega)) (fun _ => ?_)
    refine lv_aload_n hx hb dX3_forgive_13 rfl (lv_at hl 0 rfl) ?_
    refine lv_iconst (v := nI 1) hx hb dX3_forgive_14 (by decide) ?_
    refine w_call (w_runV (n := 1) (As := [.int (nI 1)]) (rest := []) hx hb hml hown hX (c_X3_no l g μ_1 H.size hM0 hO) kw690 kw7 kw687 kw689 kp26 wn_X3_no rfl k_3 rfl ⟨Nat.le_of_ble_eq_true rfl, Nat.le_of_ble_eq_true rfl⟩ hl.1 rfl (Nat.le_of_ble_eq_true rfl) dX3_forgive_15 ⟨Nat.le_of_ble_eq_true rfl, Nat.le_of_ble_eq_true rfl⟩) hX (fun r_46 μ_44 H locs q_45 hX hz => ?_)
    obtain ⟨rfl, hMk⟩ := q_45
    refine W.eq (g2 := F0 m 18 ls [.int (nI 0)]) rfl ?_
    have hcd : cd1 (isX x (σ 4 0)) = 1 := cd1_1 p_19
    exact w_iret hx hb hr hlocks hX ⟨_, rfl, by rw [hcd]; exact hMk, fun z => by rw [hcd] at z; cases z⟩ ⟨Nat.le_of_ble_eq_true rfl, Nat.le_of_ble_eq_true rfl⟩ dX3_forgive_18

set_option maxHeartbeats 4000000 in
set_option maxRecDepth 100000 in
/-- a wand more -/
theorem c_X3_addWand (l : Launch) (g : wG) (μ : wMu) (zz : Nat) {Ω : Nat → Nat} {σ : sSt} {th : Nat} (hM : mD g Ω th σ μ) (hO : sOk σ) {x y : Int32} : wMet l yX3_addWand cX3_addWand 3 (some .int) 1 0 0 22 g [.ref (Ω 0), .int x, .int y] μ zz (fun r μ' => ∃ v, r = some (.int v) ∧ mD g Ω (cd2 (isI x 1 60 ∧ isI y 0 9) (σ 3 0 < 4)) (nx (cd2 (isI x 1 60 ∧ isI y 0 9) (σ 3 0 < 4)) (nAddW σ (toN x) (toN y)) σ) μ' ∧ (cd2 (isI x 1 60 ∧ isI y 0 9) (σ 3 0 < 4) = 0 → v = nI (σ 3 0))) := by
  refine wMet.of (by decide) (Nat.le_of_ble_eq_true rfl) ?_
  intro p e s m below meth c ls hx hb hr hml hown hlocks hin hl hsz hX
  have hl : lv_has ls 3 [(0, .ref (Ω 0)), (1, .int x), (2, .int y)] := hl
  obtain ⟨r0, r5, r6, r7, r8, r9, r10, r11, r12, r13, hD⟩ := id hM
  obtain ⟨o1, o2, o3, o4, o5, o6, o7⟩ := id hO
  refine lv_aload_n hx hb dX3_addWand_0 rfl (lv_at hl 0 rfl) ?_
  refine lv_iconst (v := nI 0) hx hb dX3_addWand_1 (by decide) ?_
  refine pX3_0 hx hb hX hown r0 kw629 dX3_addWand_2 (fun H locs hX => ?_)
  obtain ⟨μ_1, e_2⟩ : ∃ z, z = va_up μ (Ω 0) (some (.inr (4, [.int (nI 0), .int (nI (σ 3 0)), .int (nI (σ 4 0)), .int (nI (σ 0 0)), .int (nI (σ 1 0)), .int (nI (σ 2 0)), .ref (Ω 5), .ref (Ω 6), .ref (Ω 7), .ref (Ω 8), .ref (Ω 9), .ref (Ω 10), .ref (Ω 11), .ref (Ω 12), .ref (Ω 13)]))) := ⟨_, rfl⟩
  rw [← e_2] at hX
  have k_3 : μ_1 (Ω 0) = some (.inr (4, [.int (nI 0), .int (nI (σ 3 0)), .int (nI (σ 4 0)), .int (nI (σ 0 0)), .int (nI (σ 1 0)), .int (nI (σ 2 0)), .ref (Ω 5), .ref (Ω 6), .ref (Ω 7), .ref (Ω 8), .ref (Ω 9), .ref (Ω 10), .ref (Ω 11), .ref (Ω 12), .ref (Ω 13)])) := by rw [e_2]; exact va_up_self _ _ _
  have k_4 := (congrFun e_2 (Ω 5)).trans ((va_up_ne _ _ (Ne.symm (kd_ne r0 r5 rfl))).trans r5)
  have k_5 := (congrFun e_2 (Ω 6)).trans ((va_up_ne _ _ (Ne.symm (kd_ne r0 r6 rfl))).trans r6)
  have k_6 := (congrFun e_2 (Ω 7)).trans ((va_up_ne _ _ (Ne.symm (kd_ne r0 r7 rfl))).trans r7)
  have k_7 := (congrFun e_2 (Ω 8)).trans ((va_up_ne _ _ (Ne.symm (kd_ne r0 r8 rfl))).trans r8)
  have k_8 := (congrFun e_2 (Ω 9)).trans ((va_up_ne _ _ (Ne.symm (kd_ne r0 r9 rfl))).trans r9)
  have k_9 := (congrFun e_2 (Ω 10)).trans ((va_up_ne _ _ (Ne.symm (kd_ne r0 r10 rfl))).trans r10)
  have k_10 := (congrFun e_2 (Ω 11)).trans ((va_up_ne _ _ (Ne.symm (kd_ne r0 r11 rfl))).trans r11)
  have k_11 := (congrFun e_2 (Ω 12)).trans ((va_up_ne _ _ (Ne.symm (kd_ne r0 r12 rfl))).trans r12)
  have k_12 := (congrFun e_2 (Ω 13)).trans ((va_up_ne _ _ (Ne.symm (kd_ne r0 r13 rfl))).trans r13)
  have hM0 : mD g Ω 0 σ μ_1 := ⟨k_3, k_4, k_5, k_6, k_7, k_8, k_9, k_10, k_11, k_12, hD⟩
  refine lv_iload_n hx hb dX3_addWand_5 rfl (lv_at hl 1 rfl) ?_
  refine lv_iconst (v := nI 1) hx hb dX3_addWand_6 (by decide) ?_
  refine lv_bipush (v := nI 60) hx hb dX3_addWand_7 (by decide) ?_
  refine w_call (w_runS (n := 3) (As := [.int x, .int (nI 1), .int (nI 60)]) (rest := []) hx hb hml hown hX (c_X3_isIn l g μ_1 H.size (by decide)) kw686 kw7 kw684 kw685 wn_X3_isIn rfl ⟨Nat.le_of_ble_eq_true rfl, Nat.le_of_ble_eq_true rfl⟩ hl.1 rfl (Nat.le_of_ble_eq_true rfl) dX3_addWand_9 ⟨Nat.le_of_ble_eq_true rfl, Nat.le_of_ble_eq_true rfl⟩) hX (fun r_15 μ_13 H locs q_14 hX hz => ?_)
  obtain ⟨q_17, e_16⟩ := q_14
  rw [e_16] at hX
  obtain ⟨rfl, p_18⟩ | ⟨rfl, p_19⟩ := q_17
  · skip
    refine W.eq (g2 := F0 m 12 ls [.int (nI 1)]) rfl ?_
    rw [nI_toInt (by decide)] at p_18
    have bx := (isI.nI (a := 1) (b := 60) p_18).2
    rw [(isI.nI (a := 1) (b := 60) p_18).1] at hl
    refine n_if_eq (tgt := 25) hx hb (by omega) dX3_addWand_12 (by decide) (fun h => absurd h (by omega)) (fun _ => ?_)
    refine lv_iload_n hx hb dX3_addWand_15 rfl (lv_at hl 2 rfl) ?_
    refine lv_iconst (v := nI 0) hx hb dX3_addWand_16 (by decide) ?_
    refine lv_bipush (v := nI 9) hx hb dX3_addWand_17 (by decide) ?_
    refine w_call (w_runS (n := 3) (As := [.int y, .int (nI 0), .int (nI 9)]) (rest := []) hx hb hml hown hX (c_X3_isIn l g μ_1 H.size (by decide)) kw686 kw7 kw684 kw685 wn_X3_isIn rfl ⟨Nat.le_of_ble_eq_true rfl, Nat.le_of_ble_eq_true rfl⟩ hl.1 rfl (Nat.le_of_ble_eq_true rfl) dX3_addWand_19 ⟨Nat.le_of_ble_eq_true rfl, Nat.le_of_ble_eq_true rfl⟩) hX (fun r_22 μ_20 H locs q_21 hX hz => ?_)
    obtain ⟨q_24, e_23⟩ := q_21
    rw [e_23] at hX
    obtain ⟨rfl, p_25⟩ | ⟨rfl, p_26⟩ := q_24
    · skip
      refine W.eq (g2 := F0 m 22 ls [.int (nI 1)]) rfl ?_
      rw [nI_toInt (by decide)] at p_25
      have byy := (isI.nI (a := 0) (b := 9) p_25).2
      rw [(isI.nI (a := 0) (b := 9) p_25).1] at hl
      refine n_if_ne (tgt := 31) hx hb (by omega) dX3_addWand_22 (by decide) (fun _ => ?_) (fun h => absurd h (by omega))
      refine lv_aload_n hx hb dX3_addWand_31 rfl (lv_at hl 0 rfl) ?_
      refine gX3_1 hx hb hX hown k_3 kw630 dX3_addWand_32 ?_
      refine lv_iconst (v := nI 4) hx hb dX3_addWand_35 (by decide) ?_
      refine n_ne (tgt := 45) hx hb (by omega) (by omega) dX3_addWand_36 (by decide) (fun c_27 => ?_) (fun c_27 => ?_)
      · skip
        refine lv_aload_n hx hb dX3_addWand_45 rfl (lv_at hl 0 rfl) ?_
        refine gX3_6 hx hb hX hown k_3 kw635 dX3_addWand_46 ?_
        refine lv_aload_n hx hb dX3_addWand_49 rfl (lv_at hl 0 rfl) ?_
        refine gX3_1 hx hb hX hown k_3 kw630 dX3_addWand_50 ?_
        refine lv_iload_n hx hb dX3_addWand_53 rfl (lv_at hl 1 rfl) ?_
        refine n_iastR (τ := σ) (k := 5) (v := toN x) hx hb hX k_4 (by omega) (by omega) dX3_addWand_54 (fun H locs hX => ?_)
        obtain ⟨μ_28, e_29⟩ : ∃ z, z = va_up μ_1 (Ω 5) (some (.inl (gI g, 4, .inl (fun ii => nI ((up2 σ 5 (σ 3 0) (toN x)) 5 ii))))) := ⟨_, rfl⟩
        rw [← e_29] at hX
        have k_30 : μ_28 (Ω 5) = some (.inl (gI g, 4, .inl (fun ii => nI ((up2 σ 5 (σ 3 0) (toN x)) 5 ii)))) := by rw [e_29]; exact va_up_self _ _ _
        have k_31 := (congrFun e_29 (Ω 0)).trans ((va_up_ne _ _ (kd_ne r0 r5 rfl)).trans k_3)
        have k_32 := (congrFun e_29 (Ω 6)).trans ((va_up_ne _ _ (Ne.symm (hD 5 6 (by decide) (by decide) (by decide)))).trans k_5)
        have k_33 := (congrFun e_29 (Ω 7)).trans ((va_up_ne _ _ (Ne.symm (hD 5 7 (by decide) (by decide) (by decide)))).trans k_6)
        have k_34 := (congrFun e_29 (Ω 8)).trans ((va_up_ne _ _ (Ne.symm (hD 5 8 (by decide) (by decide) (by decide)))).trans k_7)
        have k_35 := (congrFun e_29 (Ω 9)).trans ((va_up_ne _ _ (Ne.symm (hD 5 9 (by decide) (by decide) (by decide)))).trans k_8)
        have k_36 := (congrFun e_29 (Ω 10)).trans ((va_up_ne _ _ (Ne.symm (hD 5 10 (by decide) (by decide) (by decide)))).trans k_9)
        have k_37 := (congrFun e_29 (Ω 11)).trans ((va_up_ne _ _ (Ne.symm (hD 5 11 (by decide) (by decide) (by decide)))).trans k_10)
        have k_38 := (congrFun e_29 (Ω 12)).trans ((va_up_ne _ _ (Ne.symm (hD 5 12 (by decide) (by decide) (by decide)))).trans k_11)
        have k_39 := (congrFun e_29 (Ω 13)).trans ((va_up_ne _ _ (Ne.symm (hD 5 13 (by decide) (by decide) (by decide)))).trans k_12)
        refine lv_aload_n hx hb dX3_addWand_55 rfl (lv_at hl 0 rfl) ?_
        refine gX3_8 hx hb hX hown k_31 kw637 dX3_addWand_56 ?_
        refine lv_aload_n hx hb dX3_addWand_59 rfl (lv_at hl 0 rfl) ?_
        refine gX3_1 hx hb hX hown k_31 kw630 dX3_addWand_60 ?_
        refine lv_iload_n hx hb dX3_addWand_63 rfl (lv_at hl 1 rfl) ?_
        refine n_iastR (τ := σ) (k := 7) (v := toN x) hx hb hX k_33 (by omega) (by omega) dX3_addWand_64 (fun H locs hX => ?_)
        obtain ⟨μ_40, e_41⟩ : ∃ z, z = va_up μ_28 (Ω 7) (some (.inl (gI g, 4, .inl (fun ii => nI ((up2 σ 7 (σ 3 0) (toN x)) 7 ii))))) := ⟨_, rfl⟩
        rw [← e_41] at hX
        have k_42 : μ_40 (Ω 7) = some (.inl (gI g, 4, .inl (fun ii => nI ((up2 σ 7 (σ 3 0) (toN x)) 7 ii)))) := by rw [e_41]; exact va_up_self _ _ _
        have k_43 := (congrFun e_41 (Ω 0)).trans ((va_up_ne _ _ (kd_ne r0 r7 rfl)).trans k_31)
        have k_44 := (congrFun e_41 (Ω 5)).trans ((va_up_ne _ _ (hD 5 7 (by decide) (by decide) (by decide))).trans k_30)
        have k_45 := (congrFun e_41 (Ω 6)).trans ((va_up_ne _ _ (hD 6 7 (by decide) (by decide) (by decide))).trans k_32)
        have k_46 := (congrFun e_41 (Ω 8)).trans ((va_up_ne _ _ (Ne.symm (hD 7 8 (by decide) (by decide) (by decide)))).trans k_34)
        have k_47 := (congrFun e_41 (Ω 9)).trans ((va_up_ne _ _ (Ne.symm (hD 7 9 (by decide) (by decide) (by decide)))).trans k_35)
        have k_48 := (congrFun e_41 (Ω 10)).trans ((va_up_ne _ _ (Ne.symm (hD 7 10 (by decide) (by decide) (by decide)))).trans k_36)
        have k_49 := (congrFun e_41 (Ω 11)).trans ((va_up_ne _ _ (Ne.symm (hD 7 11 (by decide) (by decide) (by decide)))).trans k_37)
        have k_50 := (congrFun e_41 (Ω 12)).trans ((va_up_ne _ _ (Ne.symm (hD 7 12 (by decide) (by decide) (by decide)))).trans k_38)
        have k_51 := (congrFun e_41 (Ω 13)).trans ((va_up_ne _ _ (Ne.symm (hD 7 13 (by decide) (by decide) (by decide)))).trans k_39)
        refine lv_aload_n hx hb dX3_addWand_65 rfl (lv_at hl 0 rfl) ?_
        refine gX3_7 hx hb hX hown k_43 kw636 dX3_addWand_66 ?_
        refine lv_aload_n hx hb dX3_addWand_69 rfl (lv_at hl 0 rfl) ?_
        refine gX3_1 hx hb hX hown k_43 kw630 dX3_addWand_70 ?_
        refine lv_iload_n hx hb dX3_addWand_73 rfl (lv_at hl 2 rfl) ?_
        refine n_iastR (τ := σ) (k := 6) (v := toN y) hx hb hX k_45 (by omega) (by omega) dX3_addWand_74 (fun H locs hX => ?_)
        obtain ⟨μ_52, e_53⟩ : ∃ z, z = va_up μ_40 (Ω 6) (some (.inl (gI g, 4, .inl (fun ii => nI ((up2 σ 6 (σ 3 0) (toN y)) 6 ii))))) := ⟨_, rfl⟩
        rw [← e_53] at hX
        have k_54 : μ_52 (Ω 6) = some (.inl (gI g, 4, .inl (fun ii => nI ((up2 σ 6 (σ 3 0) (toN y)) 6 ii)))) := by rw [e_53]; exact va_up_self _ _ _
        have k_55 := (congrFun e_53 (Ω 0)).trans ((va_up_ne _ _ (kd_ne r0 r6 rfl)).trans k_43)
        have k_56 := (congrFun e_53 (Ω 5)).trans ((va_up_ne _ _ (hD 5 6 (by decide) (by decide) (by decide))).trans k_44)
        have k_57 := (congrFun e_53 (Ω 7)).trans ((va_up_ne _ _ (Ne.symm (hD 6 7 (by decide) (by decide) (by decide)))).trans k_42)
        have k_58 := (congrFun e_53 (Ω 8)).trans ((va_up_ne _ _ (Ne.symm (hD 6 8 (by decide) (by decide) (by decide)))).trans k_46)
        have k_59 := (congrFun e_53 (Ω 9)).trans ((va_up_ne _ _ (Ne.symm (hD 6 9 (by decide) (by decide) (by decide)))).trans k_47)
        have k_60 := (congrFun e_53 (Ω 10)).trans ((va_up_ne _ _ (Ne.symm (hD 6 10 (by decide) (by decide) (by decide)))).trans k_48)
        have k_61 := (congrFun e_53 (Ω 11)).trans ((va_up_ne _ _ (Ne.symm (hD 6 11 (by decide) (by decide) (by decide)))).trans k_49)
        have k_62 := (congrFun e_53 (Ω 12)).trans ((va_up_ne _ _ (Ne.symm (hD 6 12 (by decide) (by decide) (by decide)))).trans k_50)
        have k_63 := (congrFun e_53 (Ω 13)).trans ((va_up_ne _ _ (Ne.symm (hD 6 13 (by decide) (by decide) (by decide)))).trans k_51)
        refine lv_aload_n hx hb dX3_addWand_75 rfl (lv_at hl 0 rfl) ?_
        refine lv_dup hx hb dX3_addWand_76 rfl ?_
        refine gX3_1 hx hb hX hown k_55 kw630 dX3_addWand_77 ?_
        refine lv_iconst (v := nI 1) hx hb dX3_addWand_80 (by decide) ?_
        refine n_iadd hx hb dX3_addWand_81 (nI_add _ _) ?_
        refine pX3_1 hx hb hX hown k_55 kw630 dX3_addWand_82 (fun H locs hX => ?_)
        obtain ⟨μ_64, e_65⟩ : ∃ z, z = va_up μ_52 (Ω 0) (some (.inr (4, [.int (nI 0), .int (nI ((σ 3 0) + 1)), .int (nI (σ 4 0)), .int (nI (σ 0 0)), .int (nI (σ 1 0)), .int (nI (σ 2 0)), .ref (Ω 5), .ref (Ω 6), .ref (Ω 7), .ref (Ω 8), .ref (Ω 9), .ref (Ω 10), .ref (Ω 11), .ref (Ω 12), .ref (Ω 13)]))) := ⟨_, rfl⟩
        rw [← e_65] at hX
        have k_66 : μ_64 (Ω 0) = some (.inr (4, [.int (nI 0), .int (nI ((σ 3 0) + 1)), .int (nI (σ 4 0)), .int (nI (σ 0 0)), .int (nI (σ 1 0)), .int (nI (σ 2 0)), .ref (Ω 5), .ref (Ω 6), .ref (Ω 7), .ref (Ω 8), .ref (Ω 9), .ref (Ω 10), .ref (Ω 11), .ref (Ω 12), .ref (Ω 13)])) := by rw [e_65]; exact va_up_self _ _ _
        have k_67 := (congrFun e_65 (Ω 5)).trans ((va_up_ne _ _ (Ne.symm (kd_ne r0 r5 rfl))).trans k_56)
        have k_68 := (congrFun e_65 (Ω 6)).trans ((va_up_ne _ _ (Ne.symm (kd_ne r0 r6 rfl))).trans k_54)
        have k_69 := (congrFun e_65 (Ω 7)).trans ((va_up_ne _ _ (Ne.symm (kd_ne r0 r7 rfl))).trans k_57)
        have k_70 := (congrFun e_65 (Ω 8)).trans ((va_up_ne _ _ (Ne.symm (kd_ne r0 r8 rfl))).trans k_58)
        have k_71 := (congrFun e_65 (Ω 9)).trans ((va_up_ne _ _ (Ne.symm (kd_ne r0 r9 rfl))).trans k_59)
        have k_72 := (congrFun e_65 (Ω 10)).trans ((va_up_ne _ _ (Ne.symm (kd_ne r0 r10 rfl))).trans k_60)
        have k_73 := (congrFun e_65 (Ω 11)).trans ((va_up_ne _ _ (Ne.symm (kd_ne r0 r11 rfl))).trans k_61)
        have k_74 := (congrFun e_65 (Ω 12)).trans ((va_up_ne _ _ (Ne.symm (kd_ne r0 r12 rfl))).trans k_62)
        have k_75 := (congrFun e_65 (Ω 13)).trans ((va_up_ne _ _ (Ne.symm (kd_ne r0 r13 rfl))).trans k_63)
        refine lv_aload_n hx hb dX3_addWand_85 rfl (lv_at hl 0 rfl) ?_
        refine gX3_1 hx hb hX hown k_66 kw630 dX3_addWand_86 ?_
        refine lv_iconst (v := nI 1) hx hb dX3_addWand_89 (by decide) ?_
        refine n_isub hx hb dX3_addWand_90 (pk_sub (by omega)) ?_
        have hcd : cd2 (isI x 1 60 ∧ isI y 0 9) (σ 3 0 < 4) = 0 := cd2_0 ⟨p_18, p_25⟩ (by omega)
        exact w_iret hx hb hr hlocks hX ⟨_, rfl, by rw [hcd]; exact ⟨k_66, k_67, k_68, k_69, k_70, k_71, k_72, k_73, k_74, k_75, hD⟩, fun _ => by rw [Nat.add_sub_cancel]⟩ ⟨Nat.le_of_ble_eq_true rfl, Nat.le_of_ble_eq_true rfl⟩ dX3_addWand_91
      · skip
        refine lv_aload_n hx hb dX3_addWand_39 rfl (lv_at hl 0 rfl) ?_
        refine lv_iconst (v := nI 2) hx hb dX3_addWand_40 (by decide) ?_
        refine w_call (w_runV (n := 1) (As := [.int (nI 2)]) (rest := []) hx hb hml hown hX (c_X3_no l g μ_1 H.size hM0 hO) kw690 kw7 kw687 kw689 kp26 wn_X3_no rfl k_3 rfl ⟨Nat.le_of_ble_eq_true rfl, Nat.le_of_ble_eq_true rfl⟩ hl.1 rfl (Nat.le_of_ble_eq_true rfl) dX3_addWand_41 ⟨Nat.le_of_ble_eq_true rfl, Nat.le_of_ble_eq_true rfl⟩) hX (fun r_78 μ_76 H locs q_77 hX hz => ?_)
        obtain ⟨rfl, hMk⟩ := q_77
        refine W.eq (g2 := F0 m 44 ls [.int (nI 0)]) rfl ?_
        have hcd : cd2 (isI x 1 60 ∧ isI y 0 9) (σ 3 0 < 4) = 2 := cd2_2 ⟨p_18, p_25⟩ (by omega)
        exact w_iret hx hb hr hlocks hX ⟨_, rfl, by rw [hcd]; exact hMk, fun z => by rw [hcd] at z; cases z⟩ ⟨Nat.le_of_ble_eq_true rfl, Nat.le_of_ble_eq_true rfl⟩ dX3_addWand_44
    · skip
      refine W.eq (g2 := F0 m 22 ls [.int (nI 0)]) rfl ?_
      rw [nI_toInt (by decide)] at p_26
      refine n_if_ne (tgt := 31) hx hb (by omega) dX3_addWand_22 (by decide) (fun h => absurd h (by omega)) (fun _ => ?_)
      refine lv_aload_n hx hb dX3_addWand_25 rfl (lv_at hl 0 rfl) ?_
      refine lv_iconst (v := nI 1) hx hb dX3_addWand_26 (by decide) ?_
      refine w_call (w_runV (n := 1) (As := [.int (nI 1)]) (rest := []) hx hb hml hown hX (c_X3_no l g μ_1 H.size hM0 hO) kw690 kw7 kw687 kw689 kp26 wn_X3_no rfl k_3 rfl ⟨Nat.le_of_ble_eq_true rfl, Nat.le_of_ble_eq_true rfl⟩ hl.1 rfl (Nat.le_of_ble_eq_true rfl) dX3_addWand_27 ⟨Nat.le_of_ble_eq_true rfl, Nat.le_of_ble_eq_true rfl⟩) hX (fun r_81 μ_79 H locs q_80 hX hz => ?_)
      obtain ⟨rfl, hMk⟩ := q_80
      refine W.eq (g2 := F0 m 30 ls [.int (nI 0)]) rfl ?_
      have hcd : cd2 (isI x 1 60 ∧ isI y 0 9) (σ 3 0 < 4) = 1 := cd2_1 (fun z => p_26 z.2)
      exact w_iret hx hb hr hlocks hX ⟨_, rfl, by rw [hcd]; exact hMk, fun z => by rw [hcd] at z; cases z⟩ ⟨Nat.le_of_ble_eq_true rfl, Nat.le_of_ble_eq_true rfl⟩ dX3_addWand_30
  · skip
    refine W.eq (g2 := F0 m 12 ls [.int (nI 0)]) rfl ?_
    rw [nI_toInt (by decide)] at p_19
    refine n_if_eq (tgt := 25) hx hb (by omega) dX3_addWand_12 (by decide) (fun _ => ?_) (fun h => absurd h (by omega))
    refine lv_aload_n hx hb dX3_addWand_25 rfl (lv_at hl 0 rfl) ?_
    refine lv_iconst (v := nI 1) hx hb dX3_addWand_26 (by decide) ?_
    refine w_call (w_runV (n := 1) (As := [.int (nI 1)]) (rest := []) hx hb hml hown hX (c_X3_no l g μ_1 H.size hM0 hO) kw690 kw7 kw687 kw689 kp26 wn_X3_no rfl k_3 rfl ⟨Nat.le_of_ble_eq_true rfl, Nat.le_of_ble_eq_true rfl⟩ hl.1 rfl (Nat.le_of_ble_eq_true rfl) dX3_addWand_27 ⟨Nat.le_of_ble_eq_true rfl, Nat.le_of_ble_eq_true rfl⟩) hX (fun r_84 μ_82 H locs q_83 hX hz => ?_)
    obtain ⟨rfl, hMk⟩ := q_83
    refine W.eq (g2 := F0 m 30 ls [.int (nI 0)]) rfl ?_
    have hcd : cd2 (isI x 1 60 ∧ isI y 0 9) (σ 3 0 < 4) = 1 := cd2_1 (fun z => p_19 z.1)
    exact w_iret hx hb hr hlocks hX ⟨_, rfl, by rw [hcd]; exact hMk, fun z => by rw [hcd] at z; cases z⟩ ⟨Nat.le_of_ble_eq_true rfl, Nat.le_of_ble_eq_true rfl⟩ dX3_addWand_30

set_option maxHeartbeats 4000000 in
set_option maxRecDepth 100000 in
/-- a child more -/
theorem c_X3_addChild (l : Launch) (g : wG) (μ : wMu) (zz : Nat) {Ω : Nat → Nat} {σ : sSt} {th : Nat} (hM : mD g Ω th σ μ) (hO : sOk σ) {x y : Int32} : wMet l yX3_addChild cX3_addChild 3 (some .int) 2 0 0 43 g [.ref (Ω 0), .int x, .int y] μ zz (fun r μ' => ∃ v, r = some (.int v) ∧ mD g Ω (cd3 (isX x (σ 3 0)) (isI y 0 29) (σ 4 0 < 10)) (nx (cd3 (isX x (σ 3 0)) (isI y 0 29) (σ 4 0 < 10)) (nAddC σ (toN x) (toN y)) σ) μ' ∧ (cd3 (isX x (σ 3 0)) (isI y 0 29) (σ 4 0 < 10) = 0 → v = nI (σ 4 0))) := by
  refine wMet.of (by decide) (Nat.le_of_ble_eq_true rfl) ?_
  intro p e s m below meth c ls hx hb hr hml hown hlocks hin hl hsz hX
  have hl : lv_has ls 3 [(0, .ref (Ω 0)), (1, .int x), (2, .int y)] := hl
  obtain ⟨r0, r5, r6, r7, r8, r9, r10, r11, r12, r13, hD⟩ := id hM
  obtain ⟨o1, o2, o3, o4, o5, o6, o7⟩ := id hO
  refine lv_aload_n hx hb dX3_addChild_0 rfl (lv_at hl 0 rfl) ?_
  refine lv_iconst (v := nI 0) hx hb dX3_addChild_1 (by decide) ?_
  refine pX3_0 hx hb hX hown r0 kw629 dX3_addChild_2 (fun H locs hX => ?_)
  obtain ⟨μ_1, e_2⟩ : ∃ z, z = va_up μ (Ω 0) (some (.inr (4, [.int (nI 0), .int (nI (σ 3 0)), .int (nI (σ 4 0)), .int (nI (σ 0 0)), .int (nI (σ 1 0)), .int (nI (σ 2 0)), .ref (Ω 5), .ref (Ω 6), .ref (Ω 7), .ref (Ω 8), .ref (Ω 9), .ref (Ω 10), .ref (Ω 11), .ref (Ω 12), .ref (Ω 13)]))) := ⟨_, rfl⟩
  rw [← e_2] at hX
  have k_3 : μ_1 (Ω 0) = some (.inr (4, [.int (nI 0), .int (nI (σ 3 0)), .int (nI (σ 4 0)), .int (nI (σ 0 0)), .int (nI (σ 1 0)), .int (nI (σ 2 0)), .ref (Ω 5), .ref (Ω 6), .ref (Ω 7), .ref (Ω 8), .ref (Ω 9), .ref (Ω 10), .ref (Ω 11), .ref (Ω 12), .ref (Ω 13)])) := by rw [e_2]; exact va_up_self _ _ _
  have k_4 := (congrFun e_2 (Ω 5)).trans ((va_up_ne _ _ (Ne.symm (kd_ne r0 r5 rfl))).trans r5)
  have k_5 := (congrFun e_2 (Ω 6)).trans ((va_up_ne _ _ (Ne.symm (kd_ne r0 r6 rfl))).trans r6)
  have k_6 := (congrFun e_2 (Ω 7)).trans ((va_up_ne _ _ (Ne.symm (kd_ne r0 r7 rfl))).trans r7)
  have k_7 := (congrFun e_2 (Ω 8)).trans ((va_up_ne _ _ (Ne.symm (kd_ne r0 r8 rfl))).trans r8)
  have k_8 := (congrFun e_2 (Ω 9)).trans ((va_up_ne _ _ (Ne.symm (kd_ne r0 r9 rfl))).trans r9)
  have k_9 := (congrFun e_2 (Ω 10)).trans ((va_up_ne _ _ (Ne.symm (kd_ne r0 r10 rfl))).trans r10)
  have k_10 := (congrFun e_2 (Ω 11)).trans ((va_up_ne _ _ (Ne.symm (kd_ne r0 r11 rfl))).trans r11)
  have k_11 := (congrFun e_2 (Ω 12)).trans ((va_up_ne _ _ (Ne.symm (kd_ne r0 r12 rfl))).trans r12)
  have k_12 := (congrFun e_2 (Ω 13)).trans ((va_up_ne _ _ (Ne.symm (kd_ne r0 r13 rfl))).trans r13)
  have hM0 : mD g Ω 0 σ μ_1 := ⟨k_3, k_4, k_5, k_6, k_7, k_8, k_9, k_10, k_11, k_12, hD⟩
  refine lv_aload_n hx hb dX3_addChild_5 rfl (lv_at hl 0 rfl) ?_
  refine lv_iload_n hx hb dX3_addChild_6 rfl (lv_at hl 1 rfl) ?_
  refine w_call (w_runV (n := 1) (As := [.int x]) (rest := []) hx hb hml hown hX (c_X3_isWand l g μ_1 H.size hM0 hO) kw698 kw7 kw695 kw697 kp27 wn_X3_isWand rfl k_3 rfl ⟨Nat.le_of_ble_eq_true rfl, Nat.le_of_ble_eq_true rfl⟩ hl.1 rfl (Nat.le_of_ble_eq_true rfl) dX3_addChild_7 ⟨Nat.le_of_ble_eq_true rfl, Nat.le_of_ble_eq_true rfl⟩) hX (fun r_15 μ_13 H locs q_14 hX hz => ?_)
  obtain ⟨q_17, e_16⟩ := q_14
  rw [e_16] at hX
  obtain ⟨rfl, p_18⟩ | ⟨rfl, p_19⟩ := q_17
  · skip
    refine W.eq (g2 := F0 m 10 ls [.int (nI 1)]) rfl ?_
    have bx := (isX.nI p_18).2
    rw [(isX.nI p_18).1] at hl
    refine n_if_ne (tgt := 19) hx hb (by omega) dX3_addChild_10 (by decide) (fun _ => ?_) (fun h => absurd h (by omega))
    refine lv_iload_n hx hb dX3_addChild_19 rfl (lv_at hl 2 rfl) ?_
    refine lv_iconst (v := nI 0) hx hb dX3_addChild_20 (by decide) ?_
    refine lv_bipush (v := nI 29) hx hb dX3_addChild_21 (by decide) ?_
    refine w_call (w_runS (n := 3) (As := [.int y, .int (nI 0), .int (nI 29)]) (rest := []) hx hb hml hown hX (c_X3_isIn l g μ_1 H.size (by decide)) kw686 kw7 kw684 kw685 wn_X3_isIn rfl ⟨Nat.le_of_ble_eq_true rfl, Nat.le_of_ble_eq_true rfl⟩ hl.1 rfl (Nat.le_of_ble_eq_true rfl) dX3_addChild_23 ⟨Nat.le_of_ble_eq_true rfl, Nat.le_of_ble_eq_true rfl⟩) hX (fun r_22 μ_20 H locs q_21 hX hz => ?_)
    obtain ⟨q_24, e_23⟩ := q_21
    rw [e_23] at hX
    obtain ⟨rfl, p_25⟩ | ⟨rfl, p_26⟩ := q_24
    · skip
      refine W.eq (g2 := F0 m 26 ls [.int (nI 1)]) rfl ?_
      rw [nI_toInt (by decide)] at p_25
      have byy := (isI.nI (a := 0) (b := 29) p_25).2
      rw [(isI.nI (a := 0) (b := 29) p_25).1] at hl
      refine n_if_ne (tgt := 35) hx hb (by omega) dX3_addChild_26 (by decide) (fun _ => ?_) (fun h => absurd h (by omega))
      refine lv_aload_n hx hb dX3_addChild_35 rfl (lv_at hl 0 rfl) ?_
      refine gX3_2 hx hb hX hown k_3 kw631 dX3_addChild_36 ?_
      refine lv_bipush (v := nI 10) hx hb dX3_addChild_39 (by decide) ?_
      refine n_ne (tgt := 50) hx hb (by omega) (by omega) dX3_addChild_41 (by decide) (fun c_27 => ?_) (fun c_27 => ?_)
      · skip
        refine lv_aload_n hx hb dX3_addChild_50 rfl (lv_at hl 0 rfl) ?_
        refine gX3_9 hx hb hX hown k_3 kw638 dX3_addChild_51 ?_
        refine lv_aload_n hx hb dX3_addChild_54 rfl (lv_at hl 0 rfl) ?_
        refine gX3_2 hx hb hX hown k_3 kw631 dX3_addChild_55 ?_
        refine lv_iload_n hx hb dX3_addChild_58 rfl (lv_at hl 1 rfl) ?_
        refine n_iastR (τ := σ) (k := 8) (v := toN x) hx hb hX k_7 (by omega) (by omega) dX3_addChild_59 (fun H locs hX => ?_)
        obtain ⟨μ_28, e_29⟩ : ∃ z, z = va_up μ_1 (Ω 8) (some (.inl (gI g, 10, .inl (fun ii => nI ((up2 σ 8 (σ 4 0) (toN x)) 8 ii))))) := ⟨_, rfl⟩
        rw [← e_29] at hX
        have k_30 : μ_28 (Ω 8) = some (.inl (gI g, 10, .inl (fun ii => nI ((up2 σ 8 (σ 4 0) (toN x)) 8 ii)))) := by rw [e_29]; exact va_up_self _ _ _
        have k_31 := (congrFun e_29 (Ω 0)).trans ((va_up_ne _ _ (kd_ne r0 r8 rfl)).trans k_3)
        have k_32 := (congrFun e_29 (Ω 5)).trans ((va_up_ne _ _ (hD 5 8 (by decide) (by decide) (by decide))).trans k_4)
        have k_33 := (congrFun e_29 (Ω 6)).trans ((va_up_ne _ _ (hD 6 8 (by decide) (by decide) (by decide))).trans k_5)
        have k_34 := (congrFun e_29 (Ω 7)).trans ((va_up_ne _ _ (hD 7 8 (by decide) (by decide) (by decide))).trans k_6)
        have k_35 := (congrFun e_29 (Ω 9)).trans ((va_up_ne _ _ (Ne.symm (hD 8 9 (by decide) (by decide) (by decide)))).trans k_8)
        have k_36 := (congrFun e_29 (Ω 10)).trans ((va_up_ne _ _ (Ne.symm (hD 8 10 (by decide) (by decide) (by decide)))).trans k_9)
        have k_37 := (congrFun e_29 (Ω 11)).trans ((va_up_ne _ _ (Ne.symm (hD 8 11 (by decide) (by decide) (by decide)))).trans k_10)
        have k_38 := (congrFun e_29 (Ω 12)).trans ((va_up_ne _ _ (Ne.symm (hD 8 12 (by decide) (by decide) (by decide)))).trans k_11)
        have k_39 := (congrFun e_29 (Ω 13)).trans ((va_up_ne _ _ (Ne.symm (hD 8 13 (by decide) (by decide) (by decide)))).trans k_12)
        refine lv_aload_n hx hb dX3_addChild_60 rfl (lv_at hl 0 rfl) ?_
        refine gX3_10 hx hb hX hown k_31 kw639 dX3_addChild_61 ?_
        refine lv_aload_n hx hb dX3_addChild_64 rfl (lv_at hl 0 rfl) ?_
        refine gX3_2 hx hb hX hown k_31 kw631 dX3_addChild_65 ?_
        refine lv_iload_n hx hb dX3_addChild_68 rfl (lv_at hl 2 rfl) ?_
        refine n_iastR (τ := σ) (k := 9) (v := toN y) hx hb hX k_35 (by omega) (by omega) dX3_addChild_69 (fun H locs hX => ?_)
        obtain ⟨μ_40, e_41⟩ : ∃ z, z = va_up μ_28 (Ω 9) (some (.inl (gI g, 10, .inl (fun ii => nI ((up2 σ 9 (σ 4 0) (toN y)) 9 ii))))) := ⟨_, rfl⟩
        rw [← e_41] at hX
        have k_42 : μ_40 (Ω 9) = some (.inl (gI g, 10, .inl (fun ii => nI ((up2 σ 9 (σ 4 0) (toN y)) 9 ii)))) := by rw [e_41]; exact va_up_self _ _ _
        have k_43 := (congrFun e_41 (Ω 0)).trans ((va_up_ne _ _ (kd_ne r0 r9 rfl)).trans k_31)
        have k_44 := (congrFun e_41 (Ω 5)).trans ((va_up_ne _ _ (hD 5 9 (by decide) (by decide) (by decide))).trans k_32)
        have k_45 := (congrFun e_41 (Ω 6)).trans ((va_up_ne _ _ (hD 6 9 (by decide) (by decide) (by decide))).trans k_33)
        have k_46 := (congrFun e_41 (Ω 7)).trans ((va_up_ne _ _ (hD 7 9 (by decide) (by decide) (by decide))).trans k_34)
        have k_47 := (congrFun e_41 (Ω 8)).trans ((va_up_ne _ _ (hD 8 9 (by decide) (by decide) (by decide))).trans k_30)
        have k_48 := (congrFun e_41 (Ω 10)).trans ((va_up_ne _ _ (Ne.symm (hD 9 10 (by decide) (by decide) (by decide)))).trans k_36)
        have k_49 := (congrFun e_41 (Ω 11)).trans ((va_up_ne _ _ (Ne.symm (hD 9 11 (by decide) (by decide) (by decide)))).trans k_37)
        have k_50 := (congrFun e_41 (Ω 12)).trans ((va_up_ne _ _ (Ne.symm (hD 9 12 (by decide) (by decide) (by decide)))).trans k_38)
        have k_51 := (congrFun e_41 (Ω 13)).trans ((va_up_ne _ _ (Ne.symm (hD 9 13 (by decide) (by decide) (by decide)))).trans k_39)
        refine lv_aload_n hx hb dX3_addChild_70 rfl (lv_at hl 0 rfl) ?_
        refine gX3_11 hx hb hX hown k_43 kw640 dX3_addChild_71 ?_
        refine lv_aload_n hx hb dX3_addChild_74 rfl (lv_at hl 0 rfl) ?_
        refine gX3_2 hx hb hX hown k_43 kw631 dX3_addChild_75 ?_
        refine lv_aload_n hx hb dX3_addChild_78 rfl (lv_at hl 0 rfl) ?_
        refine gX3_3 hx hb hX hown k_43 kw632 dX3_addChild_79 ?_
        refine w_call (w_runS (n := 1) (As := [.int (nI (σ 0 0))]) (rest := [.int (nI (σ 4 0)), .ref (Ω 10)]) hx hb hml hown hX (c_X3_dayOf l g μ_40 H.size (by omega)) kw701 kw7 kw699 kw700 wn_X3_dayOf rfl ⟨Nat.le_of_ble_eq_true rfl, Nat.le_of_ble_eq_true rfl⟩ hl.1 rfl (Nat.le_of_ble_eq_true rfl) dX3_addChild_82 ⟨Nat.le_of_ble_eq_true rfl, Nat.le_of_ble_eq_true rfl⟩) hX (fun r_54 μ_52 H locs q_53 hX hz => ?_)
        obtain ⟨rfl, e_55⟩ := q_53
        rw [e_55] at hX
        refine W.eq (g2 := F0 m 85 ls [.int (nI (σ 0 0 / 24)), .int (nI (σ 4 0)), .ref (Ω 10)]) rfl ?_
        refine lv_bipush (v := nI 30) hx hb dX3_addChild_85 (by decide) ?_
        refine n_irem hx hb dX3_addChild_87 (by decide) (pk_rem (by omega) (by decide) (by decide)) ?_
        refine lv_iload_n hx hb dX3_addChild_88 rfl (lv_at hl 2 rfl) ?_
        refine n_ne (tgt := 97) hx hb (by omega) (by omega) dX3_addChild_89 (by decide) (fun c_56 => ?_) (fun c_56 => ?_)
        · skip
          refine lv_iconst (v := nI 0) hx hb dX3_addChild_97 (by decide) ?_
          refine n_iastR (τ := σ) (k := 10) (v := 0) hx hb hX k_48 (by omega) (by omega) dX3_addChild_98 (fun H locs hX => ?_)
          obtain ⟨μ_57, e_58⟩ : ∃ z, z = va_up μ_40 (Ω 10) (some (.inl (gI g, 10, .inl (fun ii => nI ((up2 σ 10 (σ 4 0) 0) 10 ii))))) := ⟨_, rfl⟩
          rw [← e_58] at hX
          have k_59 : μ_57 (Ω 10) = some (.inl (gI g, 10, .inl (fun ii => nI ((up2 σ 10 (σ 4 0) 0) 10 ii)))) := by rw [e_58]; exact va_up_self _ _ _
          have k_60 := (congrFun e_58 (Ω 0)).trans ((va_up_ne _ _ (kd_ne r0 r10 rfl)).trans k_43)
          have k_61 := (congrFun e_58 (Ω 5)).trans ((va_up_ne _ _ (hD 5 10 (by decide) (by decide) (by decide))).trans k_44)
          have k_62 := (congrFun e_58 (Ω 6)).trans ((va_up_ne _ _ (hD 6 10 (by decide) (by decide) (by decide))).trans k_45)
          have k_63 := (congrFun e_58 (Ω 7)).trans ((va_up_ne _ _ (hD 7 10 (by decide) (by decide) (by decide))).trans k_46)
          have k_64 := (congrFun e_58 (Ω 8)).trans ((va_up_ne _ _ (hD 8 10 (by decide) (by decide) (by decide))).trans k_47)
          have k_65 := (congrFun e_58 (Ω 9)).trans ((va_up_ne _ _ (hD 9 10 (by decide) (by decide) (by decide))).trans k_42)
          have k_66 := (congrFun e_58 (Ω 11)).trans ((va_up_ne _ _ (Ne.symm (hD 10 11 (by decide) (by decide) (by decide)))).trans k_49)
          have k_67 := (congrFun e_58 (Ω 12)).trans ((va_up_ne _ _ (Ne.symm (hD 10 12 (by decide) (by decide) (by decide)))).trans k_50)
          have k_68 := (congrFun e_58 (Ω 13)).trans ((va_up_ne _ _ (Ne.symm (hD 10 13 (by decide) (by decide) (by decide)))).trans k_51)
          refine lv_aload_n hx hb dX3_addChild_99 rfl (lv_at hl 0 rfl) ?_
          refine gX3_14 hx hb hX hown k_60 kw643 dX3_addChild_100 ?_
          refine lv_aload_n hx hb dX3_addChild_103 rfl (lv_at hl 0 rfl) ?_
          refine gX3_2 hx hb hX hown k_60 kw631 dX3_addChild_104 ?_
          refine lv_iconst (v := nI 4) hx hb dX3_addChild_107 (by decide) ?_
          refine n_iastR (τ := σ) (k := 13) (v := 4) hx hb hX k_68 (by omega) (by omega) dX3_addChild_108 (fun H locs hX => ?_)
          obtain ⟨μ_69, e_70⟩ : ∃ z, z = va_up μ_57 (Ω 13) (some (.inl (gI g, 10, .inl (fun ii => nI ((up2 σ 13 (σ 4 0) 4) 13 ii))))) := ⟨_, rfl⟩
          rw [← e_70] at hX
          have k_71 : μ_69 (Ω 13) = some (.inl (gI g, 10, .inl (fun ii => nI ((up2 σ 13 (σ 4 0) 4) 13 ii)))) := by rw [e_70]; exact va_up_self _ _ _
          have k_72 := (congrFun e_70 (Ω 0)).trans ((va_up_ne _ _ (kd_ne r0 r13 rfl)).trans k_60)
          have k_73 := (congrFun e_70 (Ω 5)).trans ((va_up_ne _ _ (hD 5 13 (by decide) (by decide) (by decide))).trans k_61)
          have k_74 := (congrFun e_70 (Ω 6)).trans ((va_up_ne _ _ (hD 6 13 (by decide) (by decide) (by decide))).trans k_62)
          have k_75 := (congrFun e_70 (Ω 7)).trans ((va_up_ne _ _ (hD 7 13 (by decide) (by decide) (by decide))).trans k_63)
          have k_76 := (congrFun e_70 (Ω 8)).trans ((va_up_ne _ _ (hD 8 13 (by decide) (by decide) (by decide))).trans k_64)
          have k_77 := (congrFun e_70 (Ω 9)).trans ((va_up_ne _ _ (hD 9 13 (by decide) (by decide) (by decide))).trans k_65)
          have k_78 := (congrFun e_70 (Ω 10)).trans ((va_up_ne _ _ (hD 10 13 (by decide) (by decide) (by decide))).trans k_59)
          have k_79 := (congrFun e_70 (Ω 11)).trans ((va_up_ne _ _ (hD 11 13 (by decide) (by decide) (by decide))).trans k_66)
          have k_80 := (congrFun e_70 (Ω 12)).trans ((va_up_ne _ _ (hD 12 13 (by decide) (by decide) (by decide))).trans k_67)
          refine lv_aload_n hx hb dX3_addChild_109 rfl (lv_at hl 0 rfl) ?_
          refine lv_dup hx hb dX3_addChild_110 rfl ?_
          refine gX3_2 hx hb hX hown k_72 kw631 dX3_addChild_111 ?_
          refine lv_iconst (v := nI 1) hx hb dX3_addChild_114 (by decide) ?_
          refine n_iadd hx hb dX3_addChild_115 (nI_add _ _) ?_
          refine pX3_2 hx hb hX hown k_72 kw631 dX3_addChild_116 (fun H locs hX => ?_)
          obtain ⟨μ_81, e_82⟩ : ∃ z, z = va_up μ_69 (Ω 0) (some (.inr (4, [.int (nI 0), .int (nI (σ 3 0)), .int (nI ((σ 4 0) + 1)), .int (nI (σ 0 0)), .int (nI (σ 1 0)), .int (nI (σ 2 0)), .ref (Ω 5), .ref (Ω 6), .ref (Ω 7), .ref (Ω 8), .ref (Ω 9), .ref (Ω 10), .ref (Ω 11), .ref (Ω 12), .ref (Ω 13)]))) := ⟨_, rfl⟩
          rw [← e_82] at hX
          have k_83 : μ_81 (Ω 0) = some (.inr (4, [.int (nI 0), .int (nI (σ 3 0)), .int (nI ((σ 4 0) + 1)), .int (nI (σ 0 0)), .int (nI (σ 1 0)), .int (nI (σ 2 0)), .ref (Ω 5), .ref (Ω 6), .ref (Ω 7), .ref (Ω 8), .ref (Ω 9), .ref (Ω 10), .ref (Ω 11), .ref (Ω 12), .ref (Ω 13)])) := by rw [e_82]; exact va_up_self _ _ _
          have k_84 := (congrFun e_82 (Ω 5)).trans ((va_up_ne _ _ (Ne.symm (kd_ne r0 r5 rfl))).trans k_73)
          have k_85 := (congrFun e_82 (Ω 6)).trans ((va_up_ne _ _ (Ne.symm (kd_ne r0 r6 rfl))).trans k_74)
          have k_86 := (congrFun e_82 (Ω 7)).trans ((va_up_ne _ _ (Ne.symm (kd_ne r0 r7 rfl))).trans k_75)
          have k_87 := (congrFun e_82 (Ω 8)).trans ((va_up_ne _ _ (Ne.symm (kd_ne r0 r8 rfl))).trans k_76)
          have k_88 := (congrFun e_82 (Ω 9)).trans ((va_up_ne _ _ (Ne.symm (kd_ne r0 r9 rfl))).trans k_77)
          have k_89 := (congrFun e_82 (Ω 10)).trans ((va_up_ne _ _ (Ne.symm (kd_ne r0 r10 rfl))).trans k_78)
          have k_90 := (congrFun e_82 (Ω 11)).trans ((va_up_ne _ _ (Ne.symm (kd_ne r0 r11 rfl))).trans k_79)
          have k_91 := (congrFun e_82 (Ω 12)).trans ((va_up_ne _ _ (Ne.symm (kd_ne r0 r12 rfl))).trans k_80)
          have k_92 := (congrFun e_82 (Ω 13)).trans ((va_up_ne _ _ (Ne.symm (kd_ne r0 r13 rfl))).trans k_71)
          refine lv_aload_n hx hb dX3_addChild_119 rfl (lv_at hl 0 rfl) ?_
          refine gX3_2 hx hb hX hown k_83 kw631 dX3_addChild_120 ?_
          refine lv_iconst (v := nI 1) hx hb dX3_addChild_123 (by decide) ?_
          refine n_isub hx hb dX3_addChild_124 (pk_sub (by omega)) ?_
          have hcd : cd3 (isX x (σ 3 0)) (isI y 0 29) (σ 4 0 < 10) = 0 := cd3_0 p_18 p_25 (by omega)
          have hbs : bstD (toN y) (σ 0 0 / 24) = 0 := if_neg (by omega)
          exact w_iret hx hb hr hlocks hX ⟨_, rfl, by rw [hcd]; show mD g Ω 0 (nAddC σ (toN x) (toN y)) _; unfold nAddC; rw [hbs]; exact ⟨k_83, k_84, k_85, k_86, k_87, k_88, k_89, k_90, k_91, k_92, hD⟩, fun _ => by rw [Nat.add_sub_cancel]⟩ ⟨Nat.le_of_ble_eq_true rfl, Nat.le_of_ble_eq_true rfl⟩ dX3_addChild_125
        · skip
          refine lv_bipush (v := nI 12) hx hb dX3_addChild_92 (by decide) ?_
          refine lv_goto (tgt := 98) hx hb dX3_addChild_94 (by decide) ?_
          refine n_iastR (τ := σ) (k := 10) (v := 12) hx hb hX k_48 (by omega) (by omega) dX3_addChild_98 (fun H locs hX => ?_)
          obtain ⟨μ_93, e_94⟩ : ∃ z, z = va_up μ_40 (Ω 10) (some (.inl (gI g, 10, .inl (fun ii => nI ((up2 σ 10 (σ 4 0) 12) 10 ii))))) := ⟨_, rfl⟩
          rw [← e_94] at hX
          have k_95 : μ_93 (Ω 10) = some (.inl (gI g, 10, .inl (fun ii => nI ((up2 σ 10 (σ 4 0) 12) 10 ii)))) := by rw [e_94]; exact va_up_self _ _ _
          have k_96 := (congrFun e_94 (Ω 0)).trans ((va_up_ne _ _ (kd_ne r0 r10 rfl)).trans k_43)
          have k_97 := (congrFun e_94 (Ω 5)).trans ((va_up_ne _ _ (hD 5 10 (by decide) (by decide) (by decide))).trans k_44)
          have k_98 := (congrFun e_94 (Ω 6)).trans ((va_up_ne _ _ (hD 6 10 (by decide) (by decide) (by decide))).trans k_45)
          have k_99 := (congrFun e_94 (Ω 7)).trans ((va_up_ne _ _ (hD 7 10 (by decide) (by decide) (by decide))).trans k_46)
          have k_100 := (congrFun e_94 (Ω 8)).trans ((va_up_ne _ _ (hD 8 10 (by decide) (by decide) (by decide))).trans k_47)
          have k_101 := (congrFun e_94 (Ω 9)).trans ((va_up_ne _ _ (hD 9 10 (by decide) (by decide) (by decide))).trans k_42)
          have k_102 := (congrFun e_94 (Ω 11)).trans ((va_up_ne _ _ (Ne.symm (hD 10 11 (by decide) (by decide) (by decide)))).trans k_49)
          have k_103 := (congrFun e_94 (Ω 12)).trans ((va_up_ne _ _ (Ne.symm (hD 10 12 (by decide) (by decide) (by decide)))).trans k_50)
          have k_104 := (congrFun e_94 (Ω 13)).trans ((va_up_ne _ _ (Ne.symm (hD 10 13 (by decide) (by decide) (by decide)))).trans k_51)
          refine lv_aload_n hx hb dX3_addChild_99 rfl (lv_at hl 0 rfl) ?_
          refine gX3_14 hx hb hX hown k_96 kw643 dX3_addChild_100 ?_
          refine lv_aload_n hx hb dX3_addChild_103 rfl (lv_at hl 0 rfl) ?_
          refine gX3_2 hx hb hX hown k_96 kw631 dX3_addChild_104 ?_
          refine lv_iconst (v := nI 4) hx hb dX3_addChild_107 (by decide) ?_
          refine n_iastR (τ := σ) (k := 13) (v := 4) hx hb hX k_104 (by omega) (by omega) dX3_addChild_108 (fun H locs hX => ?_)
          obtain ⟨μ_105, e_106⟩ : ∃ z, z = va_up μ_93 (Ω 13) (some (.inl (gI g, 10, .inl (fun ii => nI ((up2 σ 13 (σ 4 0) 4) 13 ii))))) := ⟨_, rfl⟩
          rw [← e_106] at hX
          have k_107 : μ_105 (Ω 13) = some (.inl (gI g, 10, .inl (fun ii => nI ((up2 σ 13 (σ 4 0) 4) 13 ii)))) := by rw [e_106]; exact va_up_self _ _ _
          have k_108 := (congrFun e_106 (Ω 0)).trans ((va_up_ne _ _ (kd_ne r0 r13 rfl)).trans k_96)
          have k_109 := (congrFun e_106 (Ω 5)).trans ((va_up_ne _ _ (hD 5 13 (by decide) (by decide) (by decide))).trans k_97)
          have k_110 := (congrFun e_106 (Ω 6)).trans ((va_up_ne _ _ (hD 6 13 (by decide) (by decide) (by decide))).trans k_98)
          have k_111 := (congrFun e_106 (Ω 7)).trans ((va_up_ne _ _ (hD 7 13 (by decide) (by decide) (by decide))).trans k_99)
          have k_112 := (congrFun e_106 (Ω 8)).trans ((va_up_ne _ _ (hD 8 13 (by decide) (by decide) (by decide))).trans k_100)
          have k_113 := (congrFun e_106 (Ω 9)).trans ((va_up_ne _ _ (hD 9 13 (by decide) (by decide) (by decide))).trans k_101)
          have k_114 := (congrFun e_106 (Ω 10)).trans ((va_up_ne _ _ (hD 10 13 (by decide) (by decide) (by decide))).trans k_95)
          have k_115 := (congrFun e_106 (Ω 11)).trans ((va_up_ne _ _ (hD 11 13 (by decide) (by decide) (by decide))).trans k_102)
          have k_116 := (congrFun e_106 (Ω 12)).trans ((va_up_ne _ _ (hD 12 13 (by decide) (by decide) (by decide))).trans k_103)
          refine lv_aload_n hx hb dX3_addChild_109 rfl (lv_at hl 0 rfl) ?_
          refine lv_dup hx hb dX3_addChild_110 rfl ?_
          refine gX3_2 hx hb hX hown k_108 kw631 dX3_addChild_111 ?_
          refine lv_iconst (v := nI 1) hx hb dX3_addChild_114 (by decide) ?_
          refine n_iadd hx hb dX3_addChild_115 (nI_add _ _) ?_
          refine pX3_2 hx hb hX hown k_108 kw631 dX3_addChild_116 (fun H locs hX => ?_)
          obtain ⟨μ_117, e_118⟩ : ∃ z, z = va_up μ_105 (Ω 0) (some (.inr (4, [.int (nI 0), .int (nI (σ 3 0)), .int (nI ((σ 4 0) + 1)), .int (nI (σ 0 0)), .int (nI (σ 1 0)), .int (nI (σ 2 0)), .ref (Ω 5), .ref (Ω 6), .ref (Ω 7), .ref (Ω 8), .ref (Ω 9), .ref (Ω 10), .ref (Ω 11), .ref (Ω 12), .ref (Ω 13)]))) := ⟨_, rfl⟩
          rw [← e_118] at hX
          have k_119 : μ_117 (Ω 0) = some (.inr (4, [.int (nI 0), .int (nI (σ 3 0)), .int (nI ((σ 4 0) + 1)), .int (nI (σ 0 0)), .int (nI (σ 1 0)), .int (nI (σ 2 0)), .ref (Ω 5), .ref (Ω 6), .ref (Ω 7), .ref (Ω 8), .ref (Ω 9), .ref (Ω 10), .ref (Ω 11), .ref (Ω 12), .ref (Ω 13)])) := by rw [e_118]; exact va_up_self _ _ _
          have k_120 := (congrFun e_118 (Ω 5)).trans ((va_up_ne _ _ (Ne.symm (kd_ne r0 r5 rfl))).trans k_109)
          have k_121 := (congrFun e_118 (Ω 6)).trans ((va_up_ne _ _ (Ne.symm (kd_ne r0 r6 rfl))).trans k_110)
          have k_122 := (congrFun e_118 (Ω 7)).trans ((va_up_ne _ _ (Ne.symm (kd_ne r0 r7 rfl))).trans k_111)
          have k_123 := (congrFun e_118 (Ω 8)).trans ((va_up_ne _ _ (Ne.symm (kd_ne r0 r8 rfl))).trans k_112)
          have k_124 := (congrFun e_118 (Ω 9)).trans ((va_up_ne _ _ (Ne.symm (kd_ne r0 r9 rfl))).trans k_113)
          have k_125 := (congrFun e_118 (Ω 10)).trans ((va_up_ne _ _ (Ne.symm (kd_ne r0 r10 rfl))).trans k_114)
          have k_126 := (congrFun e_118 (Ω 11)).trans ((va_up_ne _ _ (Ne.symm (kd_ne r0 r11 rfl))).trans k_115)
          have k_127 := (congrFun e_118 (Ω 12)).trans ((va_up_ne _ _ (Ne.symm (kd_ne r0 r12 rfl))).trans k_116)
          have k_128 := (congrFun e_118 (Ω 13)).trans ((va_up_ne _ _ (Ne.symm (kd_ne r0 r13 rfl))).trans k_107)
          refine lv_aload_n hx hb dX3_addChild_119 rfl (lv_at hl 0 rfl) ?_
          refine gX3_2 hx hb hX hown k_119 kw631 dX3_addChild_120 ?_
          refine lv_iconst (v := nI 1) hx hb dX3_addChild_123 (by decide) ?_
          refine n_isub hx hb dX3_addChild_124 (pk_sub (by omega)) ?_
          have hcd : cd3 (isX x (σ 3 0)) (isI y 0 29) (σ 4 0 < 10) = 0 := cd3_0 p_18 p_25 (by omega)
          have hbs : bstD (toN y) (σ 0 0 / 24) = 12 := if_pos (by omega)
          exact w_iret hx hb hr hlocks hX ⟨_, rfl, by rw [hcd]; show mD g Ω 0 (nAddC σ (toN x) (toN y)) _; unfold nAddC; rw [hbs]; exact ⟨k_119, k_120, k_121, k_122, k_123, k_124, k_125, k_126, k_127, k_128, hD⟩, fun _ => by rw [Nat.add_sub_cancel]⟩ ⟨Nat.le_of_ble_eq_true rfl, Nat.le_of_ble_eq_true rfl⟩ dX3_addChild_125
      · skip
        refine lv_aload_n hx hb dX3_addChild_44 rfl (lv_at hl 0 rfl) ?_
        refine lv_iconst (v := nI 3) hx hb dX3_addChild_45 (by decide) ?_
        refine w_call (w_runV (n := 1) (As := [.int (nI 3)]) (rest := []) hx hb hml hown hX (c_X3_no l g μ_1 H.size hM0 hO) kw690 kw7 kw687 kw689 kp26 wn_X3_no rfl k_3 rfl ⟨Nat.le_of_ble_eq_true rfl, Nat.le_of_ble_eq_true rfl⟩ hl.1 rfl (Nat.le_of_ble_eq_true rfl) dX3_addChild_46 ⟨Nat.le_of_ble_eq_true rfl, Nat.le_of_ble_eq_true rfl⟩) hX (fun r_131 μ_129 H locs q_130 hX hz => ?_)
        obtain ⟨rfl, hMk⟩ := q_130
        refine W.eq (g2 := F0 m 49 ls [.int (nI 0)]) rfl ?_
        have hcd : cd3 (isX x (σ 3 0)) (isI y 0 29) (σ 4 0 < 10) = 3 := cd3_3 p_18 p_25 (by omega)
        exact w_iret hx hb hr hlocks hX ⟨_, rfl, by rw [hcd]; exact hMk, fun z => by rw [hcd] at z; cases z⟩ ⟨Nat.le_of_ble_eq_true rfl, Nat.le_of_ble_eq_true rfl⟩ dX3_addChild_49
    · skip
      refine W.eq (g2 := F0 m 26 ls [.int (nI 0)]) rfl ?_
      rw [nI_toInt (by decide)] at p_26
      refine n_if_ne (tgt := 35) hx hb (by omega) dX3_addChild_26 (by decide) (fun h => absurd h (by omega)) (fun _ => ?_)
      refine lv_aload_n hx hb dX3_addChild_29 rfl (lv_at hl 0 rfl) ?_
      refine lv_iconst (v := nI 2) hx hb dX3_addChild_30 (by decide) ?_
      refine w_call (w_runV (n := 1) (As := [.int (nI 2)]) (rest := []) hx hb hml hown hX (c_X3_no l g μ_1 H.size hM0 hO) kw690 kw7 kw687 kw689 kp26 wn_X3_no rfl k_3 rfl ⟨Nat.le_of_ble_eq_true rfl, Nat.le_of_ble_eq_true rfl⟩ hl.1 rfl (Nat.le_of_ble_eq_true rfl) dX3_addChild_31 ⟨Nat.le_of_ble_eq_true rfl, Nat.le_of_ble_eq_true rfl⟩) hX (fun r_134 μ_132 H locs q_133 hX hz => ?_)
      obtain ⟨rfl, hMk⟩ := q_133
      refine W.eq (g2 := F0 m 34 ls [.int (nI 0)]) rfl ?_
      have hcd : cd3 (isX x (σ 3 0)) (isI y 0 29) (σ 4 0 < 10) = 2 := cd3_2 p_18 p_26
      exact w_iret hx hb hr hlocks hX ⟨_, rfl, by rw [hcd]; exact hMk, fun z => by rw [hcd] at z; cases z⟩ ⟨Nat.le_of_ble_eq_true rfl, Nat.le_of_ble_eq_true rfl⟩ dX3_addChild_34
  · skip
    refine W.eq (g2 := F0 m 10 ls [.int (nI 0)]) rfl ?_
    refine n_if_ne (tgt := 19) hx hb (by omega) dX3_addChild_10 (by decide) (fun h => absurd h (by omega)) (fun _ => ?_)
    refine lv_aload_n hx hb dX3_addChild_13 rfl (lv_at hl 0 rfl) ?_
    refine lv_iconst (v := nI 1) hx hb dX3_addChild_14 (by decide) ?_
    refine w_call (w_runV (n := 1) (As := [.int (nI 1)]) (rest := []) hx hb hml hown hX (c_X3_no l g μ_1 H.size hM0 hO) kw690 kw7 kw687 kw689 kp26 wn_X3_no rfl k_3 rfl ⟨Nat.le_of_ble_eq_true rfl, Nat.le_of_ble_eq_true rfl⟩ hl.1 rfl (Nat.le_of_ble_eq_true rfl) dX3_addChild_15 ⟨Nat.le_of_ble_eq_true rfl, Nat.le_of_ble_eq_true rfl⟩) hX (fun r_137 μ_135 H locs q_136 hX hz => ?_)
    obtain ⟨rfl, hMk⟩ := q_136
    refine W.eq (g2 := F0 m 18 ls [.int (nI 0)]) rfl ?_
    have hcd : cd3 (isX x (σ 3 0)) (isI y 0 29) (σ 4 0 < 10) = 1 := cd3_1 p_19
    exact w_iret hx hb hr hlocks hX ⟨_, rfl, by rw [hcd]; exact hMk, fun z => by rw [hcd] at z; cases z⟩ ⟨Nat.le_of_ble_eq_true rfl, Nat.le_of_ble_eq_true rfl⟩ dX3_addChild_18

