set_option maxHeartbeats 4000000 in
set_option maxRecDepth 100000 in
/-- dustIn: a number for what was thrown, and the answer into the cell -/
theorem c_L_dustIn (l : Launch) (hlt : l.stackTraces = false) (g : wG) (μ : wMu) (zz : Nat) {Λ σ : sSt} {w9 : Int64} (hF : fD g Λ (some w9) σ μ) (hO : sOk σ) {x : Int32} : wMetH l yL_dustIn cL_dustIn 4 (some .int) [(0, 9, 12, 20)] 8 1 6 132 g [.ref (Λ 0 0), .int x, .ref (Λ 9 0)] μ zz (fun r μ' => r = some (.int (nI (cd1 (isX x (σ 3 0))))) ∧ ∃ Λ' w', fD g Λ' (some w') (σ) μ' ∧ Λ' 0 0 = Λ 0 0 ∧ Λ' 9 0 = Λ 9 0 ∧ (cd1 (isX x (σ 3 0)) = 0 → w' = Int32.toInt64 (nI (σ 7 (toN x))))) := by
  refine wMetH.of (by decide) (Nat.le_of_ble_eq_true rfl) ?_
  intro p e s m below meth c ls hx hb hr hml hown hlocks hin hl hsz hX htab
  have hl : lv_has ls 4 [(0, .ref (Λ 0 0)), (1, .int x), (2, .ref (Λ 9 0))] := hl
  obtain ⟨f1, ⟨m1, f2⟩, ⟨m2, f3⟩, f4, f5, f6, f7, ⟨t1, t2, t3, t4, f8⟩, ⟨u1, u2, u3, u4, u5, f9⟩, f10, f11⟩ := id hF
  obtain ⟨o1, o2, o3, o4, o5, o6, o7⟩ := id hO
  refine lv_aload_n hx hb dL_dustIn_0 rfl (lv_at hl 2 rfl) ?_
  refine lv_iconst (v := nI 0) hx hb dL_dustIn_1 (by decide) ?_
  refine lv_aload_n hx hb dL_dustIn_2 rfl (lv_at hl 0 rfl) ?_
  refine lv_iload_n hx hb dL_dustIn_3 rfl (lv_at hl 1 rfl) ?_
  refine w_callX (w_runVX (n := 1) (As := [.int x]) (rest := [.int (nI 0), .ref (Λ 9 0)]) hx hb hml hown hX (c_X2_dustIn l hlt g μ s.heap.size hF hO) kw301 kw1 kw570 kw299 kw300 wn_X2_dustIn rfl f1 rfl ⟨Nat.le_of_ble_eq_true rfl, Nat.le_of_ble_eq_true rfl⟩ hl.1 rfl (Nat.le_of_ble_eq_true rfl) dL_dustIn_4 ⟨Nat.le_of_ble_eq_true rfl, Nat.le_of_ble_eq_true rfl⟩) hX (fun E ce q9 H locs hE hX hce hcv hcl => ?_) (fun r_3 μ_1 H locs q_2 hX hz => ?_)
  · skip
    obtain ⟨rfl, hn9⟩ := hE
    refine vx_catch hown [] ⟨0, 9, 12, 20⟩ [] (htab.trans rfl) (fun z hz => absurd hz List.not_mem_nil) (by decide) (by decide) (hX.w kw517) (hX.w kw308) hce hcv hcl ?_
    refine W.eq (g2 := F0 m 12 ls [.ref q9]) rfl ?_
    refine lv_astore_n (lv' := [(3, .ref q9), (0, .ref (Λ 0 0)), (1, .int x), (2, .ref (Λ 9 0))]) hx hb dL_dustIn_12 rfl hl (by decide) rfl (fun ls hl => ?_)
    refine lv_iconst (v := nI 1) hx hb dL_dustIn_13 (by decide) ?_
    have hcd : cd1 (isX x (σ 3 0)) = 1 := cd1_1 hn9
    exact w_iret hx hb hr hlocks hX ⟨by rw [hcd], Λ, w9, hF, rfl, rfl, fun z => by rw [hcd] at z; cases z⟩ ⟨Nat.le_of_ble_eq_true rfl, Nat.le_of_ble_eq_true rfl⟩ dL_dustIn_14
  obtain ⟨i, hi, hxe, rfl, heq9⟩ := q_2
  rw [heq9] at hX
  have hF2 := hF
  refine W.eq (g2 := F0 m 7 ls [.int (nI (σ 7 i)), .int (nI 0), .ref (Λ 9 0)]) rfl ?_
  have hxNx : toN x = i := by rw [hxe]; exact toN_nI (by omega)
  refine lv_i2l hx hb dL_dustIn_7 rfl ?_
  have f98 := hF2.out9
  refine n_lst1 hx hb hX f98 dL_dustIn_8 (fun H locs hX => ?_)
  obtain ⟨μ_4, e_5⟩ : ∃ z, z = va_up μ (Λ 9 0) (some (cJ g (Int32.toInt64 (nI (σ 7 i))))) := ⟨_, rfl⟩
  rw [← e_5] at hX
  have hF3 := hF2.rec9 (v := Int32.toInt64 (nI (σ 7 i))) (μ' := μ_4) (by rw [e_5]; exact va_up_self _ _ _) (fun q n => by rw [e_5]; exact va_up_ne _ _ n)
  refine lv_goto (tgt := 15) hx hb dL_dustIn_9 (by decide) ?_
  refine lv_iconst (v := nI 0) hx hb dL_dustIn_15 (by decide) ?_
  have hcd : cd1 (isX x (σ 3 0)) = 0 := cd1_0 (by rw [hxe]; exact (isX_nI (by omega)).mpr hi)
  exact w_iret hx hb hr hlocks hX ⟨by rw [hcd], Λ, _, hF3, rfl, rfl, fun _ => by rw [hxNx]⟩ ⟨Nat.le_of_ble_eq_true rfl, Nat.le_of_ble_eq_true rfl⟩ dL_dustIn_16

set_option maxHeartbeats 4000000 in
set_option maxRecDepth 100000 in
/-- users: a number for what was thrown, and the answer into the cell -/
theorem c_L_users (l : Launch) (hlt : l.stackTraces = false) (g : wG) (μ : wMu) (zz : Nat) {Λ σ : sSt} {w9 : Int64} (hF : fD g Λ (some w9) σ μ) (hO : sOk σ) {x : Int32} : wMetH l yL_users cL_users 4 (some .int) [(0, 9, 12, 20)] 8 1 6 135 g [.ref (Λ 0 0), .int x, .ref (Λ 9 0)] μ zz (fun r μ' => r = some (.int (nI (cd1 (isX x (σ 3 0))))) ∧ ∃ Λ' w', fD g Λ' (some w') (σ) μ' ∧ Λ' 0 0 = Λ 0 0 ∧ Λ' 9 0 = Λ 9 0 ∧ (cd1 (isX x (σ 3 0)) = 0 → w' = Int32.toInt64 (nI (cUsr σ (toN x) (σ 4 0))))) := by
  refine wMetH.of (by decide) (Nat.le_of_ble_eq_true rfl) ?_
  intro p e s m below meth c ls hx hb hr hml hown hlocks hin hl hsz hX htab
  have hl : lv_has ls 4 [(0, .ref (Λ 0 0)), (1, .int x), (2, .ref (Λ 9 0))] := hl
  obtain ⟨f1, ⟨m1, f2⟩, ⟨m2, f3⟩, f4, f5, f6, f7, ⟨t1, t2, t3, t4, f8⟩, ⟨u1, u2, u3, u4, u5, f9⟩, f10, f11⟩ := id hF
  obtain ⟨o1, o2, o3, o4, o5, o6, o7⟩ := id hO
  refine lv_aload_n hx hb dL_users_0 rfl (lv_at hl 2 rfl) ?_
  refine lv_iconst (v := nI 0) hx hb dL_users_1 (by decide) ?_
  refine lv_aload_n hx hb dL_users_2 rfl (lv_at hl 0 rfl) ?_
  refine lv_iload_n hx hb dL_users_3 rfl (lv_at hl 1 rfl) ?_
  refine w_callX (w_runVX (n := 1) (As := [.int x]) (rest := [.int (nI 0), .ref (Λ 9 0)]) hx hb hml hown hX (c_X2_users l hlt g μ s.heap.size hF hO) kw325 kw1 kw574 kw323 kw324 wn_X2_users rfl f1 rfl ⟨Nat.le_of_ble_eq_true rfl, Nat.le_of_ble_eq_true rfl⟩ hl.1 rfl (Nat.le_of_ble_eq_true rfl) dL_users_4 ⟨Nat.le_of_ble_eq_true rfl, Nat.le_of_ble_eq_true rfl⟩) hX (fun E ce q9 H locs hE hX hce hcv hcl => ?_) (fun r_3 μ_1 H locs q_2 hX hz => ?_)
  · skip
    obtain ⟨rfl, hn9⟩ := hE
    refine vx_catch hown [] ⟨0, 9, 12, 20⟩ [] (htab.trans rfl) (fun z hz => absurd hz List.not_mem_nil) (by decide) (by decide) (hX.w kw517) (hX.w kw308) hce hcv hcl ?_
    refine W.eq (g2 := F0 m 12 ls [.ref q9]) rfl ?_
    refine lv_astore_n (lv' := [(3, .ref q9), (0, .ref (Λ 0 0)), (1, .int x), (2, .ref (Λ 9 0))]) hx hb dL_users_12 rfl hl (by decide) rfl (fun ls hl => ?_)
    refine lv_iconst (v := nI 1) hx hb dL_users_13 (by decide) ?_
    have hcd : cd1 (isX x (σ 3 0)) = 1 := cd1_1 hn9
    exact w_iret hx hb hr hlocks hX ⟨by rw [hcd], Λ, w9, hF, rfl, rfl, fun z => by rw [hcd] at z; cases z⟩ ⟨Nat.le_of_ble_eq_true rfl, Nat.le_of_ble_eq_true rfl⟩ dL_users_14
  obtain ⟨i, hi, hxe, rfl, heq9⟩ := q_2
  rw [heq9] at hX
  have hF2 := hF
  refine W.eq (g2 := F0 m 7 ls [.int (nI (cUsr σ i (σ 4 0))), .int (nI 0), .ref (Λ 9 0)]) rfl ?_
  have hxNx : toN x = i := by rw [hxe]; exact toN_nI (by omega)
  refine lv_i2l hx hb dL_users_7 rfl ?_
  have f98 := hF2.out9
  refine n_lst1 hx hb hX f98 dL_users_8 (fun H locs hX => ?_)
  obtain ⟨μ_4, e_5⟩ : ∃ z, z = va_up μ (Λ 9 0) (some (cJ g (Int32.toInt64 (nI (cUsr σ i (σ 4 0)))))) := ⟨_, rfl⟩
  rw [← e_5] at hX
  have hF3 := hF2.rec9 (v := Int32.toInt64 (nI (cUsr σ i (σ 4 0)))) (μ' := μ_4) (by rw [e_5]; exact va_up_self _ _ _) (fun q n => by rw [e_5]; exact va_up_ne _ _ n)
  refine lv_goto (tgt := 15) hx hb dL_users_9 (by decide) ?_
  refine lv_iconst (v := nI 0) hx hb dL_users_15 (by decide) ?_
  have hcd : cd1 (isX x (σ 3 0)) = 0 := cd1_0 (by rw [hxe]; exact (isX_nI (by omega)).mpr hi)
  exact w_iret hx hb hr hlocks hX ⟨by rw [hcd], Λ, _, hF3, rfl, rfl, fun _ => by rw [hxNx]⟩ ⟨Nat.le_of_ble_eq_true rfl, Nat.le_of_ble_eq_true rfl⟩ dL_users_16

set_option maxHeartbeats 4000000 in
set_option maxRecDepth 100000 in
/-- hoursUntilFull: a number for what was thrown, and the answer into the cell -/
theorem c_L_hoursUntilFull (l : Launch) (hlt : l.stackTraces = false) (g : wG) (μ : wMu) (zz : Nat) {Λ σ : sSt} {w9 : Int64} (hF : fD g Λ (some w9) σ μ) (hO : sOk σ) {x : Int32} : wMetH l yL_hoursUntilFull cL_hoursUntilFull 4 (some .int) [(0, 9, 12, 20)] 8 1 6 134 g [.ref (Λ 0 0), .int x, .ref (Λ 9 0)] μ zz (fun r μ' => r = some (.int (nI (cd1 (isX x (σ 3 0))))) ∧ ∃ Λ' w', fD g Λ' (some w') (σ) μ' ∧ Λ' 0 0 = Λ 0 0 ∧ Λ' 9 0 = Λ 9 0 ∧ (cd1 (isX x (σ 3 0)) = 0 → w' = Int32.toInt64 (vFul σ (toN x)))) := by
  refine wMetH.of (by decide) (Nat.le_of_ble_eq_true rfl) ?_
  intro p e s m below meth c ls hx hb hr hml hown hlocks hin hl hsz hX htab
  have hl : lv_has ls 4 [(0, .ref (Λ 0 0)), (1, .int x), (2, .ref (Λ 9 0))] := hl
  obtain ⟨f1, ⟨m1, f2⟩, ⟨m2, f3⟩, f4, f5, f6, f7, ⟨t1, t2, t3, t4, f8⟩, ⟨u1, u2, u3, u4, u5, f9⟩, f10, f11⟩ := id hF
  obtain ⟨o1, o2, o3, o4, o5, o6, o7⟩ := id hO
  refine lv_aload_n hx hb dL_hoursUntilFull_0 rfl (lv_at hl 2 rfl) ?_
  refine lv_iconst (v := nI 0) hx hb dL_hoursUntilFull_1 (by decide) ?_
  refine lv_aload_n hx hb dL_hoursUntilFull_2 rfl (lv_at hl 0 rfl) ?_
  refine lv_iload_n hx hb dL_hoursUntilFull_3 rfl (lv_at hl 1 rfl) ?_
  refine w_callX (w_runVX (n := 1) (As := [.int x]) (rest := [.int (nI 0), .ref (Λ 9 0)]) hx hb hml hown hX (c_X2_hoursUntilFull l hlt g μ s.heap.size hF hO) kw329 kw1 kw618 kw327 kw328 wn_X2_hoursUntilFull rfl f1 rfl ⟨Nat.le_of_ble_eq_true rfl, Nat.le_of_ble_eq_true rfl⟩ hl.1 rfl (Nat.le_of_ble_eq_true rfl) dL_hoursUntilFull_4 ⟨Nat.le_of_ble_eq_true rfl, Nat.le_of_ble_eq_true rfl⟩) hX (fun E ce q9 H locs hE hX hce hcv hcl => ?_) (fun r_3 μ_1 H locs q_2 hX hz => ?_)
  · skip
    obtain ⟨rfl, hn9⟩ := hE
    refine vx_catch hown [] ⟨0, 9, 12, 20⟩ [] (htab.trans rfl) (fun z hz => absurd hz List.not_mem_nil) (by decide) (by decide) (hX.w kw517) (hX.w kw308) hce hcv hcl ?_
    refine W.eq (g2 := F0 m 12 ls [.ref q9]) rfl ?_
    refine lv_astore_n (lv' := [(3, .ref q9), (0, .ref (Λ 0 0)), (1, .int x), (2, .ref (Λ 9 0))]) hx hb dL_hoursUntilFull_12 rfl hl (by decide) rfl (fun ls hl => ?_)
    refine lv_iconst (v := nI 1) hx hb dL_hoursUntilFull_13 (by decide) ?_
    have hcd : cd1 (isX x (σ 3 0)) = 1 := cd1_1 hn9
    exact w_iret hx hb hr hlocks hX ⟨by rw [hcd], Λ, w9, hF, rfl, rfl, fun z => by rw [hcd] at z; cases z⟩ ⟨Nat.le_of_ble_eq_true rfl, Nat.le_of_ble_eq_true rfl⟩ dL_hoursUntilFull_14
  obtain ⟨i, hi, hxe, rfl, heq9⟩ := q_2
  rw [heq9] at hX
  have hF2 := hF
  refine W.eq (g2 := F0 m 7 ls [.int (vFul σ i), .int (nI 0), .ref (Λ 9 0)]) rfl ?_
  have hxNx : toN x = i := by rw [hxe]; exact toN_nI (by omega)
  refine lv_i2l hx hb dL_hoursUntilFull_7 rfl ?_
  have f98 := hF2.out9
  refine n_lst1 hx hb hX f98 dL_hoursUntilFull_8 (fun H locs hX => ?_)
  obtain ⟨μ_4, e_5⟩ : ∃ z, z = va_up μ (Λ 9 0) (some (cJ g (Int32.toInt64 (vFul σ i)))) := ⟨_, rfl⟩
  rw [← e_5] at hX
  have hF3 := hF2.rec9 (v := Int32.toInt64 (vFul σ i)) (μ' := μ_4) (by rw [e_5]; exact va_up_self _ _ _) (fun q n => by rw [e_5]; exact va_up_ne _ _ n)
  refine lv_goto (tgt := 15) hx hb dL_hoursUntilFull_9 (by decide) ?_
  refine lv_iconst (v := nI 0) hx hb dL_hoursUntilFull_15 (by decide) ?_
  have hcd : cd1 (isX x (σ 3 0)) = 0 := cd1_0 (by rw [hxe]; exact (isX_nI (by omega)).mpr hi)
  exact w_iret hx hb hr hlocks hX ⟨by rw [hcd], Λ, _, hF3, rfl, rfl, fun _ => by rw [hxNx]⟩ ⟨Nat.le_of_ble_eq_true rfl, Nat.le_of_ble_eq_true rfl⟩ dL_hoursUntilFull_16

set_option maxHeartbeats 4000000 in
set_option maxRecDepth 100000 in
/-- wandOf: a number for what was thrown, and the answer into the cell -/
theorem c_L_wandOf (l : Launch) (hlt : l.stackTraces = false) (g : wG) (μ : wMu) (zz : Nat) {Λ σ : sSt} {w9 : Int64} (hF : fD g Λ (some w9) σ μ) (hO : sOk σ) {x : Int32} : wMetH l yL_wandOf cL_wandOf 4 (some .int) [(0, 9, 12, 20)] 8 1 6 132 g [.ref (Λ 0 0), .int x, .ref (Λ 9 0)] μ zz (fun r μ' => r = some (.int (nI (cd1 (isX x (σ 4 0))))) ∧ ∃ Λ' w', fD g Λ' (some w') (σ) μ' ∧ Λ' 0 0 = Λ 0 0 ∧ Λ' 9 0 = Λ 9 0 ∧ (cd1 (isX x (σ 4 0)) = 0 → w' = Int32.toInt64 (nI (σ 8 (toN x))))) := by
  refine wMetH.of (by decide) (Nat.le_of_ble_eq_true rfl) ?_
  intro p e s m below meth c ls hx hb hr hml hown hlocks hin hl hsz hX htab
  have hl : lv_has ls 4 [(0, .ref (Λ 0 0)), (1, .int x), (2, .ref (Λ 9 0))] := hl
  obtain ⟨f1, ⟨m1, f2⟩, ⟨m2, f3⟩, f4, f5, f6, f7, ⟨t1, t2, t3, t4, f8⟩, ⟨u1, u2, u3, u4, u5, f9⟩, f10, f11⟩ := id hF
  obtain ⟨o1, o2, o3, o4, o5, o6, o7⟩ := id hO
  refine lv_aload_n hx hb dL_wandOf_0 rfl (lv_at hl 2 rfl) ?_
  refine lv_iconst (v := nI 0) hx hb dL_wandOf_1 (by decide) ?_
  refine lv_aload_n hx hb dL_wandOf_2 rfl (lv_at hl 0 rfl) ?_
  refine lv_iload_n hx hb dL_wandOf_3 rfl (lv_at hl 1 rfl) ?_
  refine w_callX (w_runVX (n := 1) (As := [.int x]) (rest := [.int (nI 0), .ref (Λ 9 0)]) hx hb hml hown hX (c_X2_wandOf l hlt g μ s.heap.size hF hO) kw341 kw1 kw578 kw339 kw340 wn_X2_wandOf rfl f1 rfl ⟨Nat.le_of_ble_eq_true rfl, Nat.le_of_ble_eq_true rfl⟩ hl.1 rfl (Nat.le_of_ble_eq_true rfl) dL_wandOf_4 ⟨Nat.le_of_ble_eq_true rfl, Nat.le_of_ble_eq_true rfl⟩) hX (fun E ce q9 H locs hE hX hce hcv hcl => ?_) (fun r_3 μ_1 H locs q_2 hX hz => ?_)
  · skip
    obtain ⟨rfl, hn9⟩ := hE
    refine vx_catch hown [] ⟨0, 9, 12, 20⟩ [] (htab.trans rfl) (fun z hz => absurd hz List.not_mem_nil) (by decide) (by decide) (hX.w kw517) (hX.w kw308) hce hcv hcl ?_
    refine W.eq (g2 := F0 m 12 ls [.ref q9]) rfl ?_
    refine lv_astore_n (lv' := [(3, .ref q9), (0, .ref (Λ 0 0)), (1, .int x), (2, .ref (Λ 9 0))]) hx hb dL_wandOf_12 rfl hl (by decide) rfl (fun ls hl => ?_)
    refine lv_iconst (v := nI 1) hx hb dL_wandOf_13 (by decide) ?_
    have hcd : cd1 (isX x (σ 4 0)) = 1 := cd1_1 hn9
    exact w_iret hx hb hr hlocks hX ⟨by rw [hcd], Λ, w9, hF, rfl, rfl, fun z => by rw [hcd] at z; cases z⟩ ⟨Nat.le_of_ble_eq_true rfl, Nat.le_of_ble_eq_true rfl⟩ dL_wandOf_14
  obtain ⟨i, hi, hxe, rfl, heq9⟩ := q_2
  rw [heq9] at hX
  have hF2 := hF
  refine W.eq (g2 := F0 m 7 ls [.int (nI (σ 8 i)), .int (nI 0), .ref (Λ 9 0)]) rfl ?_
  have hxNx : toN x = i := by rw [hxe]; exact toN_nI (by omega)
  refine lv_i2l hx hb dL_wandOf_7 rfl ?_
  have f98 := hF2.out9
  refine n_lst1 hx hb hX f98 dL_wandOf_8 (fun H locs hX => ?_)
  obtain ⟨μ_4, e_5⟩ : ∃ z, z = va_up μ (Λ 9 0) (some (cJ g (Int32.toInt64 (nI (σ 8 i))))) := ⟨_, rfl⟩
  rw [← e_5] at hX
  have hF3 := hF2.rec9 (v := Int32.toInt64 (nI (σ 8 i))) (μ' := μ_4) (by rw [e_5]; exact va_up_self _ _ _) (fun q n => by rw [e_5]; exact va_up_ne _ _ n)
  refine lv_goto (tgt := 15) hx hb dL_wandOf_9 (by decide) ?_
  refine lv_iconst (v := nI 0) hx hb dL_wandOf_15 (by decide) ?_
  have hcd : cd1 (isX x (σ 4 0)) = 0 := cd1_0 (by rw [hxe]; exact (isX_nI (by omega)).mpr hi)
  exact w_iret hx hb hr hlocks hX ⟨by rw [hcd], Λ, _, hF3, rfl, rfl, fun _ => by rw [hxNx]⟩ ⟨Nat.le_of_ble_eq_true rfl, Nat.le_of_ble_eq_true rfl⟩ dL_wandOf_16

set_option maxHeartbeats 4000000 in
set_option maxRecDepth 100000 in
/-- burstOf: a number for what was thrown, and the answer into the cell -/
theorem c_L_burstOf (l : Launch) (hlt : l.stackTraces = false) (g : wG) (μ : wMu) (zz : Nat) {Λ σ : sSt} {w9 : Int64} (hF : fD g Λ (some w9) σ μ) (hO : sOk σ) {x : Int32} : wMetH l yL_burstOf cL_burstOf 4 (some .int) [(0, 9, 12, 20)] 8 1 6 132 g [.ref (Λ 0 0), .int x, .ref (Λ 9 0)] μ zz (fun r μ' => r = some (.int (nI (cd1 (isX x (σ 4 0))))) ∧ ∃ Λ' w', fD g Λ' (some w') (σ) μ' ∧ Λ' 0 0 = Λ 0 0 ∧ Λ' 9 0 = Λ 9 0 ∧ (cd1 (isX x (σ 4 0)) = 0 → w' = Int32.toInt64 (nI (σ 10 (toN x))))) := by
  refine wMetH.of (by decide) (Nat.le_of_ble_eq_true rfl) ?_
  intro p e s m below meth c ls hx hb hr hml hown hlocks hin hl hsz hX htab
  have hl : lv_has ls 4 [(0, .ref (Λ 0 0)), (1, .int x), (2, .ref (Λ 9 0))] := hl
  obtain ⟨f1, ⟨m1, f2⟩, ⟨m2, f3⟩, f4, f5, f6, f7, ⟨t1, t2, t3, t4, f8⟩, ⟨u1, u2, u3, u4, u5, f9⟩, f10, f11⟩ := id hF
  obtain ⟨o1, o2, o3, o4, o5, o6, o7⟩ := id hO
  refine lv_aload_n hx hb dL_burstOf_0 rfl (lv_at hl 2 rfl) ?_
  refine lv_iconst (v := nI 0) hx hb dL_burstOf_1 (by decide) ?_
  refine lv_aload_n hx hb dL_burstOf_2 rfl (lv_at hl 0 rfl) ?_
  refine lv_iload_n hx hb dL_burstOf_3 rfl (lv_at hl 1 rfl) ?_
  refine w_callX (w_runVX (n := 1) (As := [.int x]) (rest := [.int (nI 0), .ref (Λ 9 0)]) hx hb hml hown hX (c_X2_burstOf l hlt g μ s.heap.size hF hO) kw350 kw1 kw582 kw348 kw349 wn_X2_burstOf rfl f1 rfl ⟨Nat.le_of_ble_eq_true rfl, Nat.le_of_ble_eq_true rfl⟩ hl.1 rfl (Nat.le_of_ble_eq_true rfl) dL_burstOf_4 ⟨Nat.le_of_ble_eq_true rfl, Nat.le_of_ble_eq_true rfl⟩) hX (fun E ce q9 H locs hE hX hce hcv hcl => ?_) (fun r_3 μ_1 H locs q_2 hX hz => ?_)
  · skip
    obtain ⟨rfl, hn9⟩ := hE
    refine vx_catch hown [] ⟨0, 9, 12, 20⟩ [] (htab.trans rfl) (fun z hz => absurd hz List.not_mem_nil) (by decide) (by decide) (hX.w kw517) (hX.w kw308) hce hcv hcl ?_
    refine W.eq (g2 := F0 m 12 ls [.ref q9]) rfl ?_
    refine lv_astore_n (lv' := [(3, .ref q9), (0, .ref (Λ 0 0)), (1, .int x), (2, .ref (Λ 9 0))]) hx hb dL_burstOf_12 rfl hl (by decide) rfl (fun ls hl => ?_)
    refine lv_iconst (v := nI 1) hx hb dL_burstOf_13 (by decide) ?_
    have hcd : cd1 (isX x (σ 4 0)) = 1 := cd1_1 hn9
    exact w_iret hx hb hr hlocks hX ⟨by rw [hcd], Λ, w9, hF, rfl, rfl, fun z => by rw [hcd] at z; cases z⟩ ⟨Nat.le_of_ble_eq_true rfl, Nat.le_of_ble_eq_true rfl⟩ dL_burstOf_14
  obtain ⟨i, hi, hxe, rfl, heq9⟩ := q_2
  rw [heq9] at hX
  have hF2 := hF
  refine W.eq (g2 := F0 m 7 ls [.int (nI (σ 10 i)), .int (nI 0), .ref (Λ 9 0)]) rfl ?_
  have hxNx : toN x = i := by rw [hxe]; exact toN_nI (by omega)
  refine lv_i2l hx hb dL_burstOf_7 rfl ?_
  have f98 := hF2.out9
  refine n_lst1 hx hb hX f98 dL_burstOf_8 (fun H locs hX => ?_)
  obtain ⟨μ_4, e_5⟩ : ∃ z, z = va_up μ (Λ 9 0) (some (cJ g (Int32.toInt64 (nI (σ 10 i))))) := ⟨_, rfl⟩
  rw [← e_5] at hX
  have hF3 := hF2.rec9 (v := Int32.toInt64 (nI (σ 10 i))) (μ' := μ_4) (by rw [e_5]; exact va_up_self _ _ _) (fun q n => by rw [e_5]; exact va_up_ne _ _ n)
  refine lv_goto (tgt := 15) hx hb dL_burstOf_9 (by decide) ?_
  refine lv_iconst (v := nI 0) hx hb dL_burstOf_15 (by decide) ?_
  have hcd : cd1 (isX x (σ 4 0)) = 0 := cd1_0 (by rw [hxe]; exact (isX_nI (by omega)).mpr hi)
  exact w_iret hx hb hr hlocks hX ⟨by rw [hcd], Λ, _, hF3, rfl, rfl, fun _ => by rw [hxNx]⟩ ⟨Nat.le_of_ble_eq_true rfl, Nat.le_of_ble_eq_true rfl⟩ dL_burstOf_16

set_option maxHeartbeats 4000000 in
set_option maxRecDepth 100000 in
/-- punishedFor: a number for what was thrown, and the answer into the cell -/
theorem c_L_punishedFor (l : Launch) (hlt : l.stackTraces = false) (g : wG) (μ : wMu) (zz : Nat) {Λ σ : sSt} {w9 : Int64} (hF : fD g Λ (some w9) σ μ) (hO : sOk σ) {x : Int32} : wMetH l yL_punishedFor cL_punishedFor 4 (some .int) [(0, 9, 12, 20)] 8 1 6 132 g [.ref (Λ 0 0), .int x, .ref (Λ 9 0)] μ zz (fun r μ' => r = some (.int (nI (cd1 (isX x (σ 4 0))))) ∧ ∃ Λ' w', fD g Λ' (some w') (σ) μ' ∧ Λ' 0 0 = Λ 0 0 ∧ Λ' 9 0 = Λ 9 0 ∧ (cd1 (isX x (σ 4 0)) = 0 → w' = Int32.toInt64 (nI (σ 11 (toN x))))) := by
  refine wMetH.of (by decide) (Nat.le_of_ble_eq_true rfl) ?_
  intro p e s m below meth c ls hx hb hr hml hown hlocks hin hl hsz hX htab
  have hl : lv_has ls 4 [(0, .ref (Λ 0 0)), (1, .int x), (2, .ref (Λ 9 0))] := hl
  obtain ⟨f1, ⟨m1, f2⟩, ⟨m2, f3⟩, f4, f5, f6, f7, ⟨t1, t2, t3, t4, f8⟩, ⟨u1, u2, u3, u4, u5, f9⟩, f10, f11⟩ := id hF
  obtain ⟨o1, o2, o3, o4, o5, o6, o7⟩ := id hO
  refine lv_aload_n hx hb dL_punishedFor_0 rfl (lv_at hl 2 rfl) ?_
  refine lv_iconst (v := nI 0) hx hb dL_punishedFor_1 (by decide) ?_
  refine lv_aload_n hx hb dL_punishedFor_2 rfl (lv_at hl 0 rfl) ?_
  refine lv_iload_n hx hb dL_punishedFor_3 rfl (lv_at hl 1 rfl) ?_
  refine w_callX (w_runVX (n := 1) (As := [.int x]) (rest := [.int (nI 0), .ref (Λ 9 0)]) hx hb hml hown hX (c_X2_punishedFor l hlt g μ s.heap.size hF hO) kw354 kw1 kw586 kw352 kw353 wn_X2_punishedFor rfl f1 rfl ⟨Nat.le_of_ble_eq_true rfl, Nat.le_of_ble_eq_true rfl⟩ hl.1 rfl (Nat.le_of_ble_eq_true rfl) dL_punishedFor_4 ⟨Nat.le_of_ble_eq_true rfl, Nat.le_of_ble_eq_true rfl⟩) hX (fun E ce q9 H locs hE hX hce hcv hcl => ?_) (fun r_3 μ_1 H locs q_2 hX hz => ?_)
  · skip
    obtain ⟨rfl, hn9⟩ := hE
    refine vx_catch hown [] ⟨0, 9, 12, 20⟩ [] (htab.trans rfl) (fun z hz => absurd hz List.not_mem_nil) (by decide) (by decide) (hX.w kw517) (hX.w kw308) hce hcv hcl ?_
    refine W.eq (g2 := F0 m 12 ls [.ref q9]) rfl ?_
    refine lv_astore_n (lv' := [(3, .ref q9), (0, .ref (Λ 0 0)), (1, .int x), (2, .ref (Λ 9 0))]) hx hb dL_punishedFor_12 rfl hl (by decide) rfl (fun ls hl => ?_)
    refine lv_iconst (v := nI 1) hx hb dL_punishedFor_13 (by decide) ?_
    have hcd : cd1 (isX x (σ 4 0)) = 1 := cd1_1 hn9
    exact w_iret hx hb hr hlocks hX ⟨by rw [hcd], Λ, w9, hF, rfl, rfl, fun z => by rw [hcd] at z; cases z⟩ ⟨Nat.le_of_ble_eq_true rfl, Nat.le_of_ble_eq_true rfl⟩ dL_punishedFor_14
  obtain ⟨i, hi, hxe, rfl, heq9⟩ := q_2
  rw [heq9] at hX
  have hF2 := hF
  refine W.eq (g2 := F0 m 7 ls [.int (nI (σ 11 i)), .int (nI 0), .ref (Λ 9 0)]) rfl ?_
  have hxNx : toN x = i := by rw [hxe]; exact toN_nI (by omega)
  refine lv_i2l hx hb dL_punishedFor_7 rfl ?_
  have f98 := hF2.out9
  refine n_lst1 hx hb hX f98 dL_punishedFor_8 (fun H locs hX => ?_)
  obtain ⟨μ_4, e_5⟩ : ∃ z, z = va_up μ (Λ 9 0) (some (cJ g (Int32.toInt64 (nI (σ 11 i))))) := ⟨_, rfl⟩
  rw [← e_5] at hX
  have hF3 := hF2.rec9 (v := Int32.toInt64 (nI (σ 11 i))) (μ' := μ_4) (by rw [e_5]; exact va_up_self _ _ _) (fun q n => by rw [e_5]; exact va_up_ne _ _ n)
  refine lv_goto (tgt := 15) hx hb dL_punishedFor_9 (by decide) ?_
  refine lv_iconst (v := nI 0) hx hb dL_punishedFor_15 (by decide) ?_
  have hcd : cd1 (isX x (σ 4 0)) = 0 := cd1_0 (by rw [hxe]; exact (isX_nI (by omega)).mpr hi)
  exact w_iret hx hb hr hlocks hX ⟨by rw [hcd], Λ, _, hF3, rfl, rfl, fun _ => by rw [hxNx]⟩ ⟨Nat.le_of_ble_eq_true rfl, Nat.le_of_ble_eq_true rfl⟩ dL_punishedFor_16

set_option maxHeartbeats 4000000 in
set_option maxRecDepth 100000 in
/-- marksOf: a number for what was thrown, and the answer into the cell -/
theorem c_L_marksOf (l : Launch) (hlt : l.stackTraces = false) (g : wG) (μ : wMu) (zz : Nat) {Λ σ : sSt} {w9 : Int64} (hF : fD g Λ (some w9) σ μ) (hO : sOk σ) {x : Int32} : wMetH l yL_marksOf cL_marksOf 4 (some .int) [(0, 9, 12, 20)] 8 1 6 132 g [.ref (Λ 0 0), .int x, .ref (Λ 9 0)] μ zz (fun r μ' => r = some (.int (nI (cd1 (isX x (σ 4 0))))) ∧ ∃ Λ' w', fD g Λ' (some w') (σ) μ' ∧ Λ' 0 0 = Λ 0 0 ∧ Λ' 9 0 = Λ 9 0 ∧ (cd1 (isX x (σ 4 0)) = 0 → w' = Int32.toInt64 (nI (σ 12 (toN x))))) := by
  refine wMetH.of (by decide) (Nat.le_of_ble_eq_true rfl) ?_
  intro p e s m below meth c ls hx hb hr hml hown hlocks hin hl hsz hX htab
  have hl : lv_has ls 4 [(0, .ref (Λ 0 0)), (1, .int x), (2, .ref (Λ 9 0))] := hl
  obtain ⟨f1, ⟨m1, f2⟩, ⟨m2, f3⟩, f4, f5, f6, f7, ⟨t1, t2, t3, t4, f8⟩, ⟨u1, u2, u3, u4, u5, f9⟩, f10, f11⟩ := id hF
  obtain ⟨o1, o2, o3, o4, o5, o6, o7⟩ := id hO
  refine lv_aload_n hx hb dL_marksOf_0 rfl (lv_at hl 2 rfl) ?_
  refine lv_iconst (v := nI 0) hx hb dL_marksOf_1 (by decide) ?_
  refine lv_aload_n hx hb dL_marksOf_2 rfl (lv_at hl 0 rfl) ?_
  refine lv_iload_n hx hb dL_marksOf_3 rfl (lv_at hl 1 rfl) ?_
  refine w_callX (w_runVX (n := 1) (As := [.int x]) (rest := [.int (nI 0), .ref (Λ 9 0)]) hx hb hml hown hX (c_X2_marksOf l hlt g μ s.heap.size hF hO) kw358 kw1 kw590 kw356 kw357 wn_X2_marksOf rfl f1 rfl ⟨Nat.le_of_ble_eq_true rfl, Nat.le_of_ble_eq_true rfl⟩ hl.1 rfl (Nat.le_of_ble_eq_true rfl) dL_marksOf_4 ⟨Nat.le_of_ble_eq_true rfl, Nat.le_of_ble_eq_true rfl⟩) hX (fun E ce q9 H locs hE hX hce hcv hcl => ?_) (fun r_3 μ_1 H locs q_2 hX hz => ?_)
  · skip
    obtain ⟨rfl, hn9⟩ := hE
    refine vx_catch hown [] ⟨0, 9, 12, 20⟩ [] (htab.trans rfl) (fun z hz => absurd hz List.not_mem_nil) (by decide) (by decide) (hX.w kw517) (hX.w kw308) hce hcv hcl ?_
    refine W.eq (g2 := F0 m 12 ls [.ref q9]) rfl ?_
    refine lv_astore_n (lv' := [(3, .ref q9), (0, .ref (Λ 0 0)), (1, .int x), (2, .ref (Λ 9 0))]) hx hb dL_marksOf_12 rfl hl (by decide) rfl (fun ls hl => ?_)
    refine lv_iconst (v := nI 1) hx hb dL_marksOf_13 (by decide) ?_
    have hcd : cd1 (isX x (σ 4 0)) = 1 := cd1_1 hn9
    exact w_iret hx hb hr hlocks hX ⟨by rw [hcd], Λ, w9, hF, rfl, rfl, fun z => by rw [hcd] at z; cases z⟩ ⟨Nat.le_of_ble_eq_true rfl, Nat.le_of_ble_eq_true rfl⟩ dL_marksOf_14
  obtain ⟨i, hi, hxe, rfl, heq9⟩ := q_2
  rw [heq9] at hX
  have hF2 := hF
  refine W.eq (g2 := F0 m 7 ls [.int (nI (σ 12 i)), .int (nI 0), .ref (Λ 9 0)]) rfl ?_
  have hxNx : toN x = i := by rw [hxe]; exact toN_nI (by omega)
  refine lv_i2l hx hb dL_marksOf_7 rfl ?_
  have f98 := hF2.out9
  refine n_lst1 hx hb hX f98 dL_marksOf_8 (fun H locs hX => ?_)
  obtain ⟨μ_4, e_5⟩ : ∃ z, z = va_up μ (Λ 9 0) (some (cJ g (Int32.toInt64 (nI (σ 12 i))))) := ⟨_, rfl⟩
  rw [← e_5] at hX
  have hF3 := hF2.rec9 (v := Int32.toInt64 (nI (σ 12 i))) (μ' := μ_4) (by rw [e_5]; exact va_up_self _ _ _) (fun q n => by rw [e_5]; exact va_up_ne _ _ n)
  refine lv_goto (tgt := 15) hx hb dL_marksOf_9 (by decide) ?_
  refine lv_iconst (v := nI 0) hx hb dL_marksOf_15 (by decide) ?_
  have hcd : cd1 (isX x (σ 4 0)) = 0 := cd1_0 (by rw [hxe]; exact (isX_nI (by omega)).mpr hi)
  exact w_iret hx hb hr hlocks hX ⟨by rw [hcd], Λ, _, hF3, rfl, rfl, fun _ => by rw [hxNx]⟩ ⟨Nat.le_of_ble_eq_true rfl, Nat.le_of_ble_eq_true rfl⟩ dL_marksOf_16

set_option maxHeartbeats 4000000 in
set_option maxRecDepth 100000 in
/-- nextPunishment: a number for what was thrown, and the answer into the cell -/
theorem c_L_nextPunishment (l : Launch) (hlt : l.stackTraces = false) (g : wG) (μ : wMu) (zz : Nat) {Λ σ : sSt} {w9 : Int64} (hF : fD g Λ (some w9) σ μ) (hO : sOk σ) {x : Int32} : wMetH l yL_nextPunishment cL_nextPunishment 4 (some .int) [(0, 9, 12, 20)] 8 1 6 132 g [.ref (Λ 0 0), .int x, .ref (Λ 9 0)] μ zz (fun r μ' => r = some (.int (nI (cd1 (isX x (σ 4 0))))) ∧ ∃ Λ' w', fD g Λ' (some w') (σ) μ' ∧ Λ' 0 0 = Λ 0 0 ∧ Λ' 9 0 = Λ 9 0 ∧ (cd1 (isX x (σ 4 0)) = 0 → w' = Int32.toInt64 (nI (σ 13 (toN x))))) := by
  refine wMetH.of (by decide) (Nat.le_of_ble_eq_true rfl) ?_
  intro p e s m below meth c ls hx hb hr hml hown hlocks hin hl hsz hX htab
  have hl : lv_has ls 4 [(0, .ref (Λ 0 0)), (1, .int x), (2, .ref (Λ 9 0))] := hl
  obtain ⟨f1, ⟨m1, f2⟩, ⟨m2, f3⟩, f4, f5, f6, f7, ⟨t1, t2, t3, t4, f8⟩, ⟨u1, u2, u3, u4, u5, f9⟩, f10, f11⟩ := id hF
  obtain ⟨o1, o2, o3, o4, o5, o6, o7⟩ := id hO
  refine lv_aload_n hx hb dL_nextPunishment_0 rfl (lv_at hl 2 rfl) ?_
  refine lv_iconst (v := nI 0) hx hb dL_nextPunishment_1 (by decide) ?_
  refine lv_aload_n hx hb dL_nextPunishment_2 rfl (lv_at hl 0 rfl) ?_
  refine lv_iload_n hx hb dL_nextPunishment_3 rfl (lv_at hl 1 rfl) ?_
  refine w_callX (w_runVX (n := 1) (As := [.int x]) (rest := [.int (nI 0), .ref (Λ 9 0)]) hx hb hml hown hX (c_X2_nextPunishment l hlt g μ s.heap.size hF hO) kw362 kw1 kw594 kw360 kw361 wn_X2_nextPunishment rfl f1 rfl ⟨Nat.le_of_ble_eq_true rfl, Nat.le_of_ble_eq_true rfl⟩ hl.1 rfl (Nat.le_of_ble_eq_true rfl) dL_nextPunishment_4 ⟨Nat.le_of_ble_eq_true rfl, Nat.le_of_ble_eq_true rfl⟩) hX (fun E ce q9 H locs hE hX hce hcv hcl => ?_) (fun r_3 μ_1 H locs q_2 hX hz => ?_)
  · skip
    obtain ⟨rfl, hn9⟩ := hE
    refine vx_catch hown [] ⟨0, 9, 12, 20⟩ [] (htab.trans rfl) (fun z hz => absurd hz List.not_mem_nil) (by decide) (by decide) (hX.w kw517) (hX.w kw308) hce hcv hcl ?_
    refine W.eq (g2 := F0 m 12 ls [.ref q9]) rfl ?_
    refine lv_astore_n (lv' := [(3, .ref q9), (0, .ref (Λ 0 0)), (1, .int x), (2, .ref (Λ 9 0))]) hx hb dL_nextPunishment_12 rfl hl (by decide) rfl (fun ls hl => ?_)
    refine lv_iconst (v := nI 1) hx hb dL_nextPunishment_13 (by decide) ?_
    have hcd : cd1 (isX x (σ 4 0)) = 1 := cd1_1 hn9
    exact w_iret hx hb hr hlocks hX ⟨by rw [hcd], Λ, w9, hF, rfl, rfl, fun z => by rw [hcd] at z; cases z⟩ ⟨Nat.le_of_ble_eq_true rfl, Nat.le_of_ble_eq_true rfl⟩ dL_nextPunishment_14
  obtain ⟨i, hi, hxe, rfl, heq9⟩ := q_2
  rw [heq9] at hX
  have hF2 := hF
  refine W.eq (g2 := F0 m 7 ls [.int (nI (σ 13 i)), .int (nI 0), .ref (Λ 9 0)]) rfl ?_
  have hxNx : toN x = i := by rw [hxe]; exact toN_nI (by omega)
  refine lv_i2l hx hb dL_nextPunishment_7 rfl ?_
  have f98 := hF2.out9
  refine n_lst1 hx hb hX f98 dL_nextPunishment_8 (fun H locs hX => ?_)
  obtain ⟨μ_4, e_5⟩ : ∃ z, z = va_up μ (Λ 9 0) (some (cJ g (Int32.toInt64 (nI (σ 13 i))))) := ⟨_, rfl⟩
  rw [← e_5] at hX
  have hF3 := hF2.rec9 (v := Int32.toInt64 (nI (σ 13 i))) (μ' := μ_4) (by rw [e_5]; exact va_up_self _ _ _) (fun q n => by rw [e_5]; exact va_up_ne _ _ n)
  refine lv_goto (tgt := 15) hx hb dL_nextPunishment_9 (by decide) ?_
  refine lv_iconst (v := nI 0) hx hb dL_nextPunishment_15 (by decide) ?_
  have hcd : cd1 (isX x (σ 4 0)) = 0 := cd1_0 (by rw [hxe]; exact (isX_nI (by omega)).mpr hi)
  exact w_iret hx hb hr hlocks hX ⟨by rw [hcd], Λ, _, hF3, rfl, rfl, fun _ => by rw [hxNx]⟩ ⟨Nat.le_of_ble_eq_true rfl, Nat.le_of_ble_eq_true rfl⟩ dL_nextPunishment_16

set_option maxHeartbeats 4000000 in
set_option maxRecDepth 100000 in
/-- daysToBirthday: a number for what was thrown, and the answer into the cell -/
theorem c_L_daysToBirthday (l : Launch) (hlt : l.stackTraces = false) (g : wG) (μ : wMu) (zz : Nat) {Λ σ : sSt} {w9 : Int64} (hF : fD g Λ (some w9) σ μ) (hO : sOk σ) {x : Int32} : wMetH l yL_daysToBirthday cL_daysToBirthday 4 (some .int) [(0, 9, 12, 20)] 8 1 6 132 g [.ref (Λ 0 0), .int x, .ref (Λ 9 0)] μ zz (fun r μ' => r = some (.int (nI (cd1 (isX x (σ 4 0))))) ∧ ∃ Λ' w', fD g Λ' (some w') (σ) μ' ∧ Λ' 0 0 = Λ 0 0 ∧ Λ' 9 0 = Λ 9 0 ∧ (cd1 (isX x (σ 4 0)) = 0 → w' = Int32.toInt64 (nI (vDay σ (toN x))))) := by
  refine wMetH.of (by decide) (Nat.le_of_ble_eq_true rfl) ?_
  intro p e s m below meth c ls hx hb hr hml hown hlocks hin hl hsz hX htab
  have hl : lv_has ls 4 [(0, .ref (Λ 0 0)), (1, .int x), (2, .ref (Λ 9 0))] := hl
  obtain ⟨f1, ⟨m1, f2⟩, ⟨m2, f3⟩, f4, f5, f6, f7, ⟨t1, t2, t3, t4, f8⟩, ⟨u1, u2, u3, u4, u5, f9⟩, f10, f11⟩ := id hF
  obtain ⟨o1, o2, o3, o4, o5, o6, o7⟩ := id hO
  refine lv_aload_n hx hb dL_daysToBirthday_0 rfl (lv_at hl 2 rfl) ?_
  refine lv_iconst (v := nI 0) hx hb dL_daysToBirthday_1 (by decide) ?_
  refine lv_aload_n hx hb dL_daysToBirthday_2 rfl (lv_at hl 0 rfl) ?_
  refine lv_iload_n hx hb dL_daysToBirthday_3 rfl (lv_at hl 1 rfl) ?_
  refine w_callX (w_runVX (n := 1) (As := [.int x]) (rest := [.int (nI 0), .ref (Λ 9 0)]) hx hb hml hown hX (c_X2_daysToBirthday l hlt g μ s.heap.size hF hO) kw366 kw1 kw598 kw364 kw365 wn_X2_daysToBirthday rfl f1 rfl ⟨Nat.le_of_ble_eq_true rfl, Nat.le_of_ble_eq_true rfl⟩ hl.1 rfl (Nat.le_of_ble_eq_true rfl) dL_daysToBirthday_4 ⟨Nat.le_of_ble_eq_true rfl, Nat.le_of_ble_eq_true rfl⟩) hX (fun E ce q9 H locs hE hX hce hcv hcl => ?_) (fun r_3 μ_1 H locs q_2 hX hz => ?_)
  · skip
    obtain ⟨rfl, hn9⟩ := hE
    refine vx_catch hown [] ⟨0, 9, 12, 20⟩ [] (htab.trans rfl) (fun z hz => absurd hz List.not_mem_nil) (by decide) (by decide) (hX.w kw517) (hX.w kw308) hce hcv hcl ?_
    refine W.eq (g2 := F0 m 12 ls [.ref q9]) rfl ?_
    refine lv_astore_n (lv' := [(3, .ref q9), (0, .ref (Λ 0 0)), (1, .int x), (2, .ref (Λ 9 0))]) hx hb dL_daysToBirthday_12 rfl hl (by decide) rfl (fun ls hl => ?_)
    refine lv_iconst (v := nI 1) hx hb dL_daysToBirthday_13 (by decide) ?_
    have hcd : cd1 (isX x (σ 4 0)) = 1 := cd1_1 hn9
    exact w_iret hx hb hr hlocks hX ⟨by rw [hcd], Λ, w9, hF, rfl, rfl, fun z => by rw [hcd] at z; cases z⟩ ⟨Nat.le_of_ble_eq_true rfl, Nat.le_of_ble_eq_true rfl⟩ dL_daysToBirthday_14
  obtain ⟨i, hi, hxe, rfl, heq9⟩ := q_2
  rw [heq9] at hX
  have hF2 := hF
  refine W.eq (g2 := F0 m 7 ls [.int (nI (vDay σ i)), .int (nI 0), .ref (Λ 9 0)]) rfl ?_
  have hxNx : toN x = i := by rw [hxe]; exact toN_nI (by omega)
  refine lv_i2l hx hb dL_daysToBirthday_7 rfl ?_
  have f98 := hF2.out9
  refine n_lst1 hx hb hX f98 dL_daysToBirthday_8 (fun H locs hX => ?_)
  obtain ⟨μ_4, e_5⟩ : ∃ z, z = va_up μ (Λ 9 0) (some (cJ g (Int32.toInt64 (nI (vDay σ i))))) := ⟨_, rfl⟩
  rw [← e_5] at hX
  have hF3 := hF2.rec9 (v := Int32.toInt64 (nI (vDay σ i))) (μ' := μ_4) (by rw [e_5]; exact va_up_self _ _ _) (fun q n => by rw [e_5]; exact va_up_ne _ _ n)
  refine lv_goto (tgt := 15) hx hb dL_daysToBirthday_9 (by decide) ?_
  refine lv_iconst (v := nI 0) hx hb dL_daysToBirthday_15 (by decide) ?_
  have hcd : cd1 (isX x (σ 4 0)) = 0 := cd1_0 (by rw [hxe]; exact (isX_nI (by omega)).mpr hi)
  exact w_iret hx hb hr hlocks hX ⟨by rw [hcd], Λ, _, hF3, rfl, rfl, fun _ => by rw [hxNx]⟩ ⟨Nat.le_of_ble_eq_true rfl, Nat.le_of_ble_eq_true rfl⟩ dL_daysToBirthday_16

set_option maxHeartbeats 4000000 in
set_option maxRecDepth 100000 in
/-- greatestWish: a number for what was thrown, and the answer into the cell -/
theorem c_L_greatestWish (l : Launch) (hlt : l.stackTraces = false) (g : wG) (μ : wMu) (zz : Nat) {Λ σ : sSt} {w9 : Int64} (hF : fD g Λ (some w9) σ μ) (hO : sOk σ) {x : Int32} : wMetH l yL_greatestWish cL_greatestWish 4 (some .int) [(0, 9, 12, 20)] 8 1 6 132 g [.ref (Λ 0 0), .int x, .ref (Λ 9 0)] μ zz (fun r μ' => r = some (.int (nI (cd1 (isX x (σ 4 0))))) ∧ ∃ Λ' w', fD g Λ' (some w') (σ) μ' ∧ Λ' 0 0 = Λ 0 0 ∧ Λ' 9 0 = Λ 9 0 ∧ (cd1 (isX x (σ 4 0)) = 0 → w' = Int32.toInt64 (nI (vGrt σ (toN x))))) := by
  refine wMetH.of (by decide) (Nat.le_of_ble_eq_true rfl) ?_
  intro p e s m below meth c ls hx hb hr hml hown hlocks hin hl hsz hX htab
  have hl : lv_has ls 4 [(0, .ref (Λ 0 0)), (1, .int x), (2, .ref (Λ 9 0))] := hl
  obtain ⟨f1, ⟨m1, f2⟩, ⟨m2, f3⟩, f4, f5, f6, f7, ⟨t1, t2, t3, t4, f8⟩, ⟨u1, u2, u3, u4, u5, f9⟩, f10, f11⟩ := id hF
  obtain ⟨o1, o2, o3, o4, o5, o6, o7⟩ := id hO
  refine lv_aload_n hx hb dL_greatestWish_0 rfl (lv_at hl 2 rfl) ?_
  refine lv_iconst (v := nI 0) hx hb dL_greatestWish_1 (by decide) ?_
  refine lv_aload_n hx hb dL_greatestWish_2 rfl (lv_at hl 0 rfl) ?_
  refine lv_iload_n hx hb dL_greatestWish_3 rfl (lv_at hl 1 rfl) ?_
  refine w_callX (w_runVX (n := 1) (As := [.int x]) (rest := [.int (nI 0), .ref (Λ 9 0)]) hx hb hml hown hX (c_X2_greatestWish l hlt g μ s.heap.size hF hO) kw373 kw1 kw602 kw371 kw372 wn_X2_greatestWish rfl f1 rfl ⟨Nat.le_of_ble_eq_true rfl, Nat.le_of_ble_eq_true rfl⟩ hl.1 rfl (Nat.le_of_ble_eq_true rfl) dL_greatestWish_4 ⟨Nat.le_of_ble_eq_true rfl, Nat.le_of_ble_eq_true rfl⟩) hX (fun E ce q9 H locs hE hX hce hcv hcl => ?_) (fun r_3 μ_1 H locs q_2 hX hz => ?_)
  · skip
    obtain ⟨rfl, hn9⟩ := hE
    refine vx_catch hown [] ⟨0, 9, 12, 20⟩ [] (htab.trans rfl) (fun z hz => absurd hz List.not_mem_nil) (by decide) (by decide) (hX.w kw517) (hX.w kw308) hce hcv hcl ?_
    refine W.eq (g2 := F0 m 12 ls [.ref q9]) rfl ?_
    refine lv_astore_n (lv' := [(3, .ref q9), (0, .ref (Λ 0 0)), (1, .int x), (2, .ref (Λ 9 0))]) hx hb dL_greatestWish_12 rfl hl (by decide) rfl (fun ls hl => ?_)
    refine lv_iconst (v := nI 1) hx hb dL_greatestWish_13 (by decide) ?_
    have hcd : cd1 (isX x (σ 4 0)) = 1 := cd1_1 hn9
    exact w_iret hx hb hr hlocks hX ⟨by rw [hcd], Λ, w9, hF, rfl, rfl, fun z => by rw [hcd] at z; cases z⟩ ⟨Nat.le_of_ble_eq_true rfl, Nat.le_of_ble_eq_true rfl⟩ dL_greatestWish_14
  obtain ⟨i, hi, hxe, rfl, heq9⟩ := q_2
  rw [heq9] at hX
  have hF2 := hF
  refine W.eq (g2 := F0 m 7 ls [.int (nI (vGrt σ i)), .int (nI 0), .ref (Λ 9 0)]) rfl ?_
  have hxNx : toN x = i := by rw [hxe]; exact toN_nI (by omega)
  refine lv_i2l hx hb dL_greatestWish_7 rfl ?_
  have f98 := hF2.out9
  refine n_lst1 hx hb hX f98 dL_greatestWish_8 (fun H locs hX => ?_)
  obtain ⟨μ_4, e_5⟩ : ∃ z, z = va_up μ (Λ 9 0) (some (cJ g (Int32.toInt64 (nI (vGrt σ i))))) := ⟨_, rfl⟩
  rw [← e_5] at hX
  have hF3 := hF2.rec9 (v := Int32.toInt64 (nI (vGrt σ i))) (μ' := μ_4) (by rw [e_5]; exact va_up_self _ _ _) (fun q n => by rw [e_5]; exact va_up_ne _ _ n)
  refine lv_goto (tgt := 15) hx hb dL_greatestWish_9 (by decide) ?_
  refine lv_iconst (v := nI 0) hx hb dL_greatestWish_15 (by decide) ?_
  have hcd : cd1 (isX x (σ 4 0)) = 0 := cd1_0 (by rw [hxe]; exact (isX_nI (by omega)).mpr hi)
  exact w_iret hx hb hr hlocks hX ⟨by rw [hcd], Λ, _, hF3, rfl, rfl, fun _ => by rw [hxNx]⟩ ⟨Nat.le_of_ble_eq_true rfl, Nat.le_of_ble_eq_true rfl⟩ dL_greatestWish_16

set_option maxHeartbeats 4000000 in
set_option maxRecDepth 100000 in
/-- bestChild: a number for what was thrown, and the answer into the cell -/
theorem c_L_bestChild (l : Launch) (hlt : l.stackTraces = false) (g : wG) (μ : wMu) (zz : Nat) {Λ σ : sSt} {w9 : Int64} (hF : fD g Λ (some w9) σ μ) (hO : sOk σ) {x : Int32} : wMetH l yL_bestChild cL_bestChild 4 (some .int) [(0, 9, 12, 13)] 9 1 6 157 g [.ref (Λ 0 0), .int x, .ref (Λ 9 0)] μ zz (fun r μ' => r = some (.int (nI (cd1 (isI x 1 20)))) ∧ ∃ Λ' w', fD g Λ' (some w') (σ) μ' ∧ Λ' 0 0 = Λ 0 0 ∧ Λ' 9 0 = Λ 9 0 ∧ (cd1 (isI x 1 20) = 0 → w' = Int32.toInt64 (vBst σ (toN x)))) := by
  refine wMetH.of (by decide) (Nat.le_of_ble_eq_true rfl) ?_
  intro p e s m below meth c ls hx hb hr hml hown hlocks hin hl hsz hX htab
  have hl : lv_has ls 4 [(0, .ref (Λ 0 0)), (1, .int x), (2, .ref (Λ 9 0))] := hl
  obtain ⟨f1, ⟨m1, f2⟩, ⟨m2, f3⟩, f4, f5, f6, f7, ⟨t1, t2, t3, t4, f8⟩, ⟨u1, u2, u3, u4, u5, f9⟩, f10, f11⟩ := id hF
  obtain ⟨o1, o2, o3, o4, o5, o6, o7⟩ := id hO
  refine lv_aload_n hx hb dL_bestChild_0 rfl (lv_at hl 2 rfl) ?_
  refine lv_iconst (v := nI 0) hx hb dL_bestChild_1 (by decide) ?_
  refine lv_aload_n hx hb dL_bestChild_2 rfl (lv_at hl 0 rfl) ?_
  refine lv_iload_n hx hb dL_bestChild_3 rfl (lv_at hl 1 rfl) ?_
  refine w_callX (w_runVX (n := 1) (As := [.int x]) (rest := [.int (nI 0), .ref (Λ 9 0)]) hx hb hml hown hX (c_X2_bestChild l hlt g μ s.heap.size hF hO) kw203 kw1 kw622 kw201 kw202 wn_X2_bestChild rfl f1 rfl ⟨Nat.le_of_ble_eq_true rfl, Nat.le_of_ble_eq_true rfl⟩ hl.1 rfl (Nat.le_of_ble_eq_true rfl) dL_bestChild_4 ⟨Nat.le_of_ble_eq_true rfl, Nat.le_of_ble_eq_true rfl⟩) hX (fun E ce q9 H locs hE hX hce hcv hcl => ?_) (fun r_3 μ_1 H locs q_2 hX hz => ?_)
  · skip
    obtain ⟨rfl, hn9⟩ := hE
    refine vx_catch hown [] ⟨0, 9, 12, 13⟩ [] (htab.trans rfl) (fun z hz => absurd hz List.not_mem_nil) (by decide) (by decide) (hX.w kw441) (hX.w kw212) hce hcv hcl ?_
    refine W.eq (g2 := F0 m 12 ls [.ref q9]) rfl ?_
    refine lv_astore_n (lv' := [(3, .ref q9), (0, .ref (Λ 0 0)), (1, .int x), (2, .ref (Λ 9 0))]) hx hb dL_bestChild_12 rfl hl (by decide) rfl (fun ls hl => ?_)
    refine lv_iconst (v := nI 1) hx hb dL_bestChild_13 (by decide) ?_
    have hcd : cd1 (isI x 1 20) = 1 := cd1_1 hn9
    exact w_iret hx hb hr hlocks hX ⟨by rw [hcd], Λ, w9, hF, rfl, rfl, fun z => by rw [hcd] at z; cases z⟩ ⟨Nat.le_of_ble_eq_true rfl, Nat.le_of_ble_eq_true rfl⟩ dL_bestChild_14
  obtain ⟨i, hi1, hi2, hxe, rfl, heq9⟩ := q_2
  rw [heq9] at hX
  have hF2 := hF
  refine W.eq (g2 := F0 m 7 ls [.int (vBst σ i), .int (nI 0), .ref (Λ 9 0)]) rfl ?_
  have hxNx : toN x = i := by rw [hxe]; exact toN_nI (by omega)
  refine lv_i2l hx hb dL_bestChild_7 rfl ?_
  have f98 := hF2.out9
  refine n_lst1 hx hb hX f98 dL_bestChild_8 (fun H locs hX => ?_)
  obtain ⟨μ_4, e_5⟩ : ∃ z, z = va_up μ (Λ 9 0) (some (cJ g (Int32.toInt64 (vBst σ i)))) := ⟨_, rfl⟩
  rw [← e_5] at hX
  have hF3 := hF2.rec9 (v := Int32.toInt64 (vBst σ i)) (μ' := μ_4) (by rw [e_5]; exact va_up_self _ _ _) (fun q n => by rw [e_5]; exact va_up_ne _ _ n)
  refine lv_goto (tgt := 15) hx hb dL_bestChild_9 (by decide) ?_
  refine lv_iconst (v := nI 0) hx hb dL_bestChild_15 (by decide) ?_
  have hcd : cd1 (isI x 1 20) = 0 := cd1_0 (by rw [hxe]; exact (isI_nI (by omega)).mpr ⟨by omega, by omega⟩)
  exact w_iret hx hb hr hlocks hX ⟨by rw [hcd], Λ, _, hF3, rfl, rfl, fun _ => by rw [hxNx]⟩ ⟨Nat.le_of_ble_eq_true rfl, Nat.le_of_ble_eq_true rfl⟩ dL_bestChild_16

set_option maxHeartbeats 4000000 in
set_option maxRecDepth 100000 in
/-- hoursUntil: a number for what was thrown, and the answer into the cell -/
theorem c_L_hoursUntil (l : Launch) (hlt : l.stackTraces = false) (g : wG) (μ : wMu) (zz : Nat) {Λ σ : sSt} {w9 : Int64} (hF : fD g Λ (some w9) σ μ) (hO : sOk σ) {x y : Int32} : wMetH l yL_hoursUntil cL_hoursUntil 5 (some .int) [(0, 10, 13, 20), (0, 10, 17, 13)] 9 2 12 156 g [.ref (Λ 0 0), .int x, .int y, .ref (Λ 9 0)] μ zz (fun r μ' => r = some (.int (nI (cd2 (isX x (σ 4 0)) (isI y 1 20)))) ∧ ∃ Λ' w', fD g Λ' (some w') (σ) μ' ∧ Λ' 0 0 = Λ 0 0 ∧ Λ' 9 0 = Λ 9 0 ∧ (cd2 (isX x (σ 4 0)) (isI y 1 20) = 0 → w' = Int32.toInt64 (utl σ (toN x) (toN y) 101 0))) := by
  refine wMetH.of (by decide) (Nat.le_of_ble_eq_true rfl) ?_
  intro p e s m below meth c ls hx hb hr hml hown hlocks hin hl hsz hX htab
  have hl : lv_has ls 5 [(0, .ref (Λ 0 0)), (1, .int x), (2, .int y), (3, .ref (Λ 9 0))] := hl
  obtain ⟨f1, ⟨m1, f2⟩, ⟨m2, f3⟩, f4, f5, f6, f7, ⟨t1, t2, t3, t4, f8⟩, ⟨u1, u2, u3, u4, u5, f9⟩, f10, f11⟩ := id hF
  obtain ⟨o1, o2, o3, o4, o5, o6, o7⟩ := id hO
  refine lv_aload_n hx hb dL_hoursUntil_0 rfl (lv_at hl 3 rfl) ?_
  refine lv_iconst (v := nI 0) hx hb dL_hoursUntil_1 (by decide) ?_
  refine lv_aload_n hx hb dL_hoursUntil_2 rfl (lv_at hl 0 rfl) ?_
  refine lv_iload_n hx hb dL_hoursUntil_3 rfl (lv_at hl 1 rfl) ?_
  refine lv_iload_n hx hb dL_hoursUntil_4 rfl (lv_at hl 2 rfl) ?_
  refine w_callX (w_runVX (n := 2) (As := [.int x, .int y]) (rest := [.int (nI 0), .ref (Λ 9 0)]) hx hb hml hown hX (c_X2_hoursUntil l hlt g μ s.heap.size hF hO) kw381 kw1 kw606 kw379 kw380 wn_X2_hoursUntil rfl f1 rfl ⟨Nat.le_of_ble_eq_true rfl, Nat.le_of_ble_eq_true rfl⟩ hl.1 rfl (Nat.le_of_ble_eq_true rfl) dL_hoursUntil_5 ⟨Nat.le_of_ble_eq_true rfl, Nat.le_of_ble_eq_true rfl⟩) hX (fun E ce q9 H locs hE hX hce hcv hcl => ?_) (fun r_3 μ_1 H locs q_2 hX hz => ?_)
  · skip
    rcases hE with ⟨rfl, hn9⟩ | ⟨rfl, hn8, hn9⟩
    · skip
      refine vx_catch hown [] ⟨0, 10, 13, 20⟩ [⟨0, 10, 17, 13⟩] (htab.trans rfl) (fun z hz => absurd hz List.not_mem_nil) (by decide) (by decide) (hX.w kw517) (hX.w kw308) hce hcv hcl ?_
      refine W.eq (g2 := F0 m 13 ls [.ref q9]) rfl ?_
      refine lv_astore (lv' := [(4, .ref q9), (0, .ref (Λ 0 0)), (1, .int x), (2, .int y), (3, .ref (Λ 9 0))]) hx hb dL_hoursUntil_13 hl (by decide) rfl (fun ls hl => ?_)
      refine lv_iconst (v := nI 1) hx hb dL_hoursUntil_15 (by decide) ?_
      have hcd : cd2 (isX x (σ 4 0)) (isI y 1 20) = 1 := cd2_1 hn9
      exact w_iret hx hb hr hlocks hX ⟨by rw [hcd], Λ, w9, hF, rfl, rfl, fun z => by rw [hcd] at z; cases z⟩ ⟨Nat.le_of_ble_eq_true rfl, Nat.le_of_ble_eq_true rfl⟩ dL_hoursUntil_16
    · skip
      refine vx_catch hown [⟨0, 10, 13, 20⟩] ⟨0, 10, 17, 13⟩ [] (htab.trans rfl) (fun z hz => Or.inr (by rw [List.mem_singleton.mp hz]; exact ⟨by decide, "java/lang/IndexOutOfBoundsException", hX.w kw517, hX.1.2.2.2.1.2.1⟩)) (by decide) (by decide) (hX.w kw441) (hX.w kw212) hce hcv hcl ?_
      refine W.eq (g2 := F0 m 17 ls [.ref q9]) rfl ?_
      refine lv_astore (lv' := [(4, .ref q9), (0, .ref (Λ 0 0)), (1, .int x), (2, .int y), (3, .ref (Λ 9 0))]) hx hb dL_hoursUntil_17 hl (by decide) rfl (fun ls hl => ?_)
      refine lv_iconst (v := nI 2) hx hb dL_hoursUntil_19 (by decide) ?_
      have hcd : cd2 (isX x (σ 4 0)) (isI y 1 20) = 2 := cd2_2 hn8 hn9
      exact w_iret hx hb hr hlocks hX ⟨by rw [hcd], Λ, w9, hF, rfl, rfl, fun z => by rw [hcd] at z; cases z⟩ ⟨Nat.le_of_ble_eq_true rfl, Nat.le_of_ble_eq_true rfl⟩ dL_hoursUntil_20
  obtain ⟨i, sz, hi, h1, h2, hxe, hye, rfl, hF2⟩ := q_2
  refine W.eq (g2 := F0 m 8 ls [.int (utl σ i sz 101 0), .int (nI 0), .ref (Λ 9 0)]) rfl ?_
  have hxNx : toN x = i := by rw [hxe]; exact toN_nI (by omega)
  have hxNy : toN y = sz := by rw [hye]; exact toN_nI (by omega)
  refine lv_i2l hx hb dL_hoursUntil_8 rfl ?_
  have f98 := hF2.out9
  refine n_lst1 hx hb hX f98 dL_hoursUntil_9 (fun H locs hX => ?_)
  obtain ⟨μ_4, e_5⟩ : ∃ z, z = va_up μ_1 (Λ 9 0) (some (cJ g (Int32.toInt64 (utl σ i sz 101 0)))) := ⟨_, rfl⟩
  rw [← e_5] at hX
  have hF3 := hF2.rec9 (v := Int32.toInt64 (utl σ i sz 101 0)) (μ' := μ_4) (by rw [e_5]; exact va_up_self _ _ _) (fun q n => by rw [e_5]; exact va_up_ne _ _ n)
  refine lv_goto (tgt := 21) hx hb dL_hoursUntil_10 (by decide) ?_
  refine lv_iconst (v := nI 0) hx hb dL_hoursUntil_21 (by decide) ?_
  have hcd : cd2 (isX x (σ 4 0)) (isI y 1 20) = 0 := cd2_0 (by rw [hxe]; exact (isX_nI (by omega)).mpr hi) (by rw [hye]; exact (isI_nI (by omega)).mpr ⟨by omega, by omega⟩)
  exact w_iret hx hb hr hlocks hX ⟨by rw [hcd], Λ, _, hF3, rfl, rfl, fun _ => by rw [hxNx, hxNy]⟩ ⟨Nat.le_of_ble_eq_true rfl, Nat.le_of_ble_eq_true rfl⟩ dL_hoursUntil_22

set_option maxHeartbeats 4000000 in
set_option maxRecDepth 100000 in
/-- fallWanted: a number for what was thrown, and the answer into the cell -/
theorem c_L_fallWanted (l : Launch) (hlt : l.stackTraces = false) (g : wG) (μ : wMu) (zz : Nat) {Λ σ : sSt} {w9 : Int64} (hF : fD g Λ (some w9) σ μ) (hO : sOk σ) {x y : Int32} : wMetH l yL_fallWanted cL_fallWanted 5 (some .int) [(0, 10, 13, 20), (0, 10, 17, 13)] 9 2 12 156 g [.ref (Λ 0 0), .int x, .int y, .ref (Λ 9 0)] μ zz (fun r μ' => r = some (.int (nI (cd2 (isX x (σ 4 0)) (isI y 1 20)))) ∧ ∃ Λ' w', fD g Λ' (some w') (σ) μ' ∧ Λ' 0 0 = Λ 0 0 ∧ Λ' 9 0 = Λ 9 0 ∧ (cd2 (isX x (σ 4 0)) (isI y 1 20) = 0 → w' = Int32.toInt64 (wtd σ (toN x) (toN y) 21 0))) := by
  refine wMetH.of (by decide) (Nat.le_of_ble_eq_true rfl) ?_
  intro p e s m below meth c ls hx hb hr hml hown hlocks hin hl hsz hX htab
  have hl : lv_has ls 5 [(0, .ref (Λ 0 0)), (1, .int x), (2, .int y), (3, .ref (Λ 9 0))] := hl
  obtain ⟨f1, ⟨m1, f2⟩, ⟨m2, f3⟩, f4, f5, f6, f7, ⟨t1, t2, t3, t4, f8⟩, ⟨u1, u2, u3, u4, u5, f9⟩, f10, f11⟩ := id hF
  obtain ⟨o1, o2, o3, o4, o5, o6, o7⟩ := id hO
  refine lv_aload_n hx hb dL_fallWanted_0 rfl (lv_at hl 3 rfl) ?_
  refine lv_iconst (v := nI 0) hx hb dL_fallWanted_1 (by decide) ?_
  refine lv_aload_n hx hb dL_fallWanted_2 rfl (lv_at hl 0 rfl) ?_
  refine lv_iload_n hx hb dL_fallWanted_3 rfl (lv_at hl 1 rfl) ?_
  refine lv_iload_n hx hb dL_fallWanted_4 rfl (lv_at hl 2 rfl) ?_
  refine w_callX (w_runVX (n := 2) (As := [.int x, .int y]) (rest := [.int (nI 0), .ref (Λ 9 0)]) hx hb hml hown hX (c_X2_fallWanted l hlt g μ s.heap.size hF hO) kw437 kw1 kw614 kw435 kw436 wn_X2_fallWanted rfl f1 rfl ⟨Nat.le_of_ble_eq_true rfl, Nat.le_of_ble_eq_true rfl⟩ hl.1 rfl (Nat.le_of_ble_eq_true rfl) dL_fallWanted_5 ⟨Nat.le_of_ble_eq_true rfl, Nat.le_of_ble_eq_true rfl⟩) hX (fun E ce q9 H locs hE hX hce hcv hcl => ?_) (fun r_3 μ_1 H locs q_2 hX hz => ?_)
  · skip
    rcases hE with ⟨rfl, hn9⟩ | ⟨rfl, hn8, hn9⟩
    · skip
      refine vx_catch hown [] ⟨0, 10, 13, 20⟩ [⟨0, 10, 17, 13⟩] (htab.trans rfl) (fun z hz => absurd hz List.not_mem_nil) (by decide) (by decide) (hX.w kw517) (hX.w kw308) hce hcv hcl ?_
      refine W.eq (g2 := F0 m 13 ls [.ref q9]) rfl ?_
      refine lv_astore (lv' := [(4, .ref q9), (0, .ref (Λ 0 0)), (1, .int x), (2, .int y), (3, .ref (Λ 9 0))]) hx hb dL_fallWanted_13 hl (by decide) rfl (fun ls hl => ?_)
      refine lv_iconst (v := nI 1) hx hb dL_fallWanted_15 (by decide) ?_
      have hcd : cd2 (isX x (σ 4 0)) (isI y 1 20) = 1 := cd2_1 hn9
      exact w_iret hx hb hr hlocks hX ⟨by rw [hcd], Λ, w9, hF, rfl, rfl, fun z => by rw [hcd] at z; cases z⟩ ⟨Nat.le_of_ble_eq_true rfl, Nat.le_of_ble_eq_true rfl⟩ dL_fallWanted_16
    · skip
      refine vx_catch hown [⟨0, 10, 13, 20⟩] ⟨0, 10, 17, 13⟩ [] (htab.trans rfl) (fun z hz => Or.inr (by rw [List.mem_singleton.mp hz]; exact ⟨by decide, "java/lang/IndexOutOfBoundsException", hX.w kw517, hX.1.2.2.2.1.2.1⟩)) (by decide) (by decide) (hX.w kw441) (hX.w kw212) hce hcv hcl ?_
      refine W.eq (g2 := F0 m 17 ls [.ref q9]) rfl ?_
      refine lv_astore (lv' := [(4, .ref q9), (0, .ref (Λ 0 0)), (1, .int x), (2, .int y), (3, .ref (Λ 9 0))]) hx hb dL_fallWanted_17 hl (by decide) rfl (fun ls hl => ?_)
      refine lv_iconst (v := nI 2) hx hb dL_fallWanted_19 (by decide) ?_
      have hcd : cd2 (isX x (σ 4 0)) (isI y 1 20) = 2 := cd2_2 hn8 hn9
      exact w_iret hx hb hr hlocks hX ⟨by rw [hcd], Λ, w9, hF, rfl, rfl, fun z => by rw [hcd] at z; cases z⟩ ⟨Nat.le_of_ble_eq_true rfl, Nat.le_of_ble_eq_true rfl⟩ dL_fallWanted_20
  obtain ⟨i, sz, hi, h1, h2, hxe, hye, rfl, hF2⟩ := q_2
  refine W.eq (g2 := F0 m 8 ls [.int (wtd σ i sz 21 0), .int (nI 0), .ref (Λ 9 0)]) rfl ?_
  have hxNx : toN x = i := by rw [hxe]; exact toN_nI (by omega)
  have hxNy : toN y = sz := by rw [hye]; exact toN_nI (by omega)
  refine lv_i2l hx hb dL_fallWanted_8 rfl ?_
  have f98 := hF2.out9
  refine n_lst1 hx hb hX f98 dL_fallWanted_9 (fun H locs hX => ?_)
  obtain ⟨μ_4, e_5⟩ : ∃ z, z = va_up μ_1 (Λ 9 0) (some (cJ g (Int32.toInt64 (wtd σ i sz 21 0)))) := ⟨_, rfl⟩
  rw [← e_5] at hX
  have hF3 := hF2.rec9 (v := Int32.toInt64 (wtd σ i sz 21 0)) (μ' := μ_4) (by rw [e_5]; exact va_up_self _ _ _) (fun q n => by rw [e_5]; exact va_up_ne _ _ n)
  refine lv_goto (tgt := 21) hx hb dL_fallWanted_10 (by decide) ?_
  refine lv_iconst (v := nI 0) hx hb dL_fallWanted_21 (by decide) ?_
  have hcd : cd2 (isX x (σ 4 0)) (isI y 1 20) = 0 := cd2_0 (by rw [hxe]; exact (isX_nI (by omega)).mpr hi) (by rw [hye]; exact (isI_nI (by omega)).mpr ⟨by omega, by omega⟩)
  exact w_iret hx hb hr hlocks hX ⟨by rw [hcd], Λ, _, hF3, rfl, rfl, fun _ => by rw [hxNx, hxNy]⟩ ⟨Nat.le_of_ble_eq_true rfl, Nat.le_of_ble_eq_true rfl⟩ dL_fallWanted_22

set_option maxHeartbeats 4000000 in
set_option maxRecDepth 100000 in
/-- grantedIn: a number for what was thrown, and the answer into the cell -/
theorem c_L_grantedIn (l : Launch) (hlt : l.stackTraces = false) (g : wG) (μ : wMu) (zz : Nat) {Λ σ : sSt} {w9 : Int64} (hF : fD g Λ (some w9) σ μ) (hO : sOk σ) {x y z : Int32} : wMetH l yL_grantedIn cL_grantedIn 6 (some .int) [(0, 12, 15, 20), (0, 12, 19, 13)] 9 3 18 156 g [.ref (Λ 0 0), .int x, .int y, .int z, .ref (Λ 9 0)] μ zz (fun r μ' => r = some (.int (nI (cd2 (isX x (σ 4 0)) (isI y 1 20 ∧ isI z 1 60)))) ∧ ∃ Λ' w', fD g Λ' (some w') (σ) μ' ∧ Λ' 0 0 = Λ 0 0 ∧ Λ' 9 0 = Λ 9 0 ∧ (cd2 (isX x (σ 4 0)) (isI y 1 20 ∧ isI z 1 60) = 0 → w' = Int32.toInt64 (nI (tws σ (toN x) (toN y) (toN z) (σ 6 (σ 8 (toN x))))))) := by
  refine wMetH.of (by decide) (Nat.le_of_ble_eq_true rfl) ?_
  intro p e s m below meth c ls hx hb hr hml hown hlocks hin hl hsz hX htab
  have hl : lv_has ls 6 [(0, .ref (Λ 0 0)), (1, .int x), (2, .int y), (3, .int z), (4, .ref (Λ 9 0))] := hl
  obtain ⟨f1, ⟨m1, f2⟩, ⟨m2, f3⟩, f4, f5, f6, f7, ⟨t1, t2, t3, t4, f8⟩, ⟨u1, u2, u3, u4, u5, f9⟩, f10, f11⟩ := id hF
  obtain ⟨o1, o2, o3, o4, o5, o6, o7⟩ := id hO
  refine lv_aload hx hb dL_grantedIn_0 (lv_at hl 4 rfl) ?_
  refine lv_iconst (v := nI 0) hx hb dL_grantedIn_2 (by decide) ?_
  refine lv_aload_n hx hb dL_grantedIn_3 rfl (lv_at hl 0 rfl) ?_
  refine lv_iload_n hx hb dL_grantedIn_4 rfl (lv_at hl 1 rfl) ?_
  refine lv_iload_n hx hb dL_grantedIn_5 rfl (lv_at hl 2 rfl) ?_
  refine lv_iload_n hx hb dL_grantedIn_6 rfl (lv_at hl 3 rfl) ?_
  refine w_callX (w_runVX (n := 3) (As := [.int x, .int y, .int z]) (rest := [.int (nI 0), .ref (Λ 9 0)]) hx hb hml hown hX (c_X2_grantedIn l hlt g μ s.heap.size hF hO) kw414 kw1 kw610 kw412 kw413 wn_X2_grantedIn rfl f1 rfl ⟨Nat.le_of_ble_eq_true rfl, Nat.le_of_ble_eq_true rfl⟩ hl.1 rfl (Nat.le_of_ble_eq_true rfl) dL_grantedIn_7 ⟨Nat.le_of_ble_eq_true rfl, Nat.le_of_ble_eq_true rfl⟩) hX (fun E ce q9 H locs hE hX hce hcv hcl => ?_) (fun r_3 μ_1 H locs q_2 hX hz => ?_)
  · skip
    rcases hE with ⟨rfl, hn9⟩ | ⟨rfl, hn8, hn9⟩
    · skip
      refine vx_catch hown [] ⟨0, 12, 15, 20⟩ [⟨0, 12, 19, 13⟩] (htab.trans rfl) (fun z hz => absurd hz List.not_mem_nil) (by decide) (by decide) (hX.w kw517) (hX.w kw308) hce hcv hcl ?_
      refine W.eq (g2 := F0 m 15 ls [.ref q9]) rfl ?_
      refine lv_astore (lv' := [(5, .ref q9), (0, .ref (Λ 0 0)), (1, .int x), (2, .int y), (3, .int z), (4, .ref (Λ 9 0))]) hx hb dL_grantedIn_15 hl (by decide) rfl (fun ls hl => ?_)
      refine lv_iconst (v := nI 1) hx hb dL_grantedIn_17 (by decide) ?_
      have hcd : cd2 (isX x (σ 4 0)) (isI y 1 20 ∧ isI z 1 60) = 1 := cd2_1 hn9
      exact w_iret hx hb hr hlocks hX ⟨by rw [hcd], Λ, w9, hF, rfl, rfl, fun z => by rw [hcd] at z; cases z⟩ ⟨Nat.le_of_ble_eq_true rfl, Nat.le_of_ble_eq_true rfl⟩ dL_grantedIn_18
    · skip
      refine vx_catch hown [⟨0, 12, 15, 20⟩] ⟨0, 12, 19, 13⟩ [] (htab.trans rfl) (fun z hz => Or.inr (by rw [List.mem_singleton.mp hz]; exact ⟨by decide, "java/lang/IndexOutOfBoundsException", hX.w kw517, hX.1.2.2.2.1.2.1⟩)) (by decide) (by decide) (hX.w kw441) (hX.w kw212) hce hcv hcl ?_
      refine W.eq (g2 := F0 m 19 ls [.ref q9]) rfl ?_
      refine lv_astore (lv' := [(5, .ref q9), (0, .ref (Λ 0 0)), (1, .int x), (2, .int y), (3, .int z), (4, .ref (Λ 9 0))]) hx hb dL_grantedIn_19 hl (by decide) rfl (fun ls hl => ?_)
      refine lv_iconst (v := nI 2) hx hb dL_grantedIn_21 (by decide) ?_
      have hcd : cd2 (isX x (σ 4 0)) (isI y 1 20 ∧ isI z 1 60) = 2 := cd2_2 hn8 hn9
      exact w_iret hx hb hr hlocks hX ⟨by rw [hcd], Λ, w9, hF, rfl, rfl, fun z => by rw [hcd] at z; cases z⟩ ⟨Nat.le_of_ble_eq_true rfl, Nat.le_of_ble_eq_true rfl⟩ dL_grantedIn_22
  obtain ⟨i, sz, nn, hi, h1, h2, h3, h4, hxe, hye, hze, rfl, hF2⟩ := q_2
  refine W.eq (g2 := F0 m 10 ls [.int (nI (tws σ i sz nn (σ 6 (σ 8 i)))), .int (nI 0), .ref (Λ 9 0)]) rfl ?_
  have hxNx : toN x = i := by rw [hxe]; exact toN_nI (by omega)
  have hxNy : toN y = sz := by rw [hye]; exact toN_nI (by omega)
  have hxNz : toN z = nn := by rw [hze]; exact toN_nI (by omega)
  refine lv_i2l hx hb dL_grantedIn_10 rfl ?_
  have f98 := hF2.out9
  refine n_lst1 hx hb hX f98 dL_grantedIn_11 (fun H locs hX => ?_)
  obtain ⟨μ_4, e_5⟩ : ∃ z, z = va_up μ_1 (Λ 9 0) (some (cJ g (Int32.toInt64 (nI (tws σ i sz nn (σ 6 (σ 8 i))))))) := ⟨_, rfl⟩
  rw [← e_5] at hX
  have hF3 := hF2.rec9 (v := Int32.toInt64 (nI (tws σ i sz nn (σ 6 (σ 8 i))))) (μ' := μ_4) (by rw [e_5]; exact va_up_self _ _ _) (fun q n => by rw [e_5]; exact va_up_ne _ _ n)
  refine lv_goto (tgt := 23) hx hb dL_grantedIn_12 (by decide) ?_
  refine lv_iconst (v := nI 0) hx hb dL_grantedIn_23 (by decide) ?_
  have hcd : cd2 (isX x (σ 4 0)) (isI y 1 20 ∧ isI z 1 60) = 0 := cd2_0 (by rw [hxe]; exact (isX_nI (by omega)).mpr hi) ⟨(by rw [hye]; exact (isI_nI (by omega)).mpr ⟨by omega, by omega⟩), (by rw [hze]; exact (isI_nI (by omega)).mpr ⟨by omega, by omega⟩)⟩
  exact w_iret hx hb hr hlocks hX ⟨by rw [hcd], Λ, _, hF3, rfl, rfl, fun _ => by rw [hxNx, hxNy, hxNz]⟩ ⟨Nat.le_of_ble_eq_true rfl, Nat.le_of_ble_eq_true rfl⟩ dL_grantedIn_24

set_option maxHeartbeats 4000000 in
set_option maxRecDepth 100000 in
/-- give: a number for what was thrown, and the answer into the cell -/
theorem c_L_give (l : Launch) (hlt : l.stackTraces = false) (g : wG) (μ : wMu) (zz : Nat) {Λ σ : sSt} {w9 : Int64} (hF : fD g Λ (some w9) σ μ) (hO : sOk σ) {x y : Int32} : wMetH l yL_give cL_give 5 (some .int) [(0, 10, 13, 20)] 8 2 12 136 g [.ref (Λ 0 0), .int x, .int y, .ref (Λ 9 0)] μ zz (fun r μ' => r = some (.int (nI (cd1 (isX x (σ 4 0) ∧ isX y (σ 3 0))))) ∧ ∃ Λ' w', fD g Λ' (some w') (nx (cd1 (isX x (σ 4 0) ∧ isX y (σ 3 0))) (up2 σ 8 (toN x) (toN y)) σ) μ' ∧ Λ' 0 0 = Λ 0 0 ∧ Λ' 9 0 = Λ 9 0 ∧ (cd1 (isX x (σ 4 0) ∧ isX y (σ 3 0)) = 0 → w' = Int32.toInt64 (nI (σ 8 (toN x))))) := by
  refine wMetH.of (by decide) (Nat.le_of_ble_eq_true rfl) ?_
  intro p e s m below meth c ls hx hb hr hml hown hlocks hin hl hsz hX htab
  have hl : lv_has ls 5 [(0, .ref (Λ 0 0)), (1, .int x), (2, .int y), (3, .ref (Λ 9 0))] := hl
  obtain ⟨f1, ⟨m1, f2⟩, ⟨m2, f3⟩, f4, f5, f6, f7, ⟨t1, t2, t3, t4, f8⟩, ⟨u1, u2, u3, u4, u5, f9⟩, f10, f11⟩ := id hF
  obtain ⟨o1, o2, o3, o4, o5, o6, o7⟩ := id hO
  refine lv_aload_n hx hb dL_give_0 rfl (lv_at hl 3 rfl) ?_
  refine lv_iconst (v := nI 0) hx hb dL_give_1 (by decide) ?_
  refine lv_aload_n hx hb dL_give_2 rfl (lv_at hl 0 rfl) ?_
  refine lv_iload_n hx hb dL_give_3 rfl (lv_at hl 1 rfl) ?_
  refine lv_iload_n hx hb dL_give_4 rfl (lv_at hl 2 rfl) ?_
  refine w_callX (w_runVX (n := 2) (As := [.int x, .int y]) (rest := [.int (nI 0), .ref (Λ 9 0)]) hx hb hml hown hX (c_X2_give l hlt g μ s.heap.size hF hO) kw530 kw1 kw527 kw528 kw529 wn_X2_give rfl f1 rfl ⟨Nat.le_of_ble_eq_true rfl, Nat.le_of_ble_eq_true rfl⟩ hl.1 rfl (Nat.le_of_ble_eq_true rfl) dL_give_5 ⟨Nat.le_of_ble_eq_true rfl, Nat.le_of_ble_eq_true rfl⟩) hX (fun E ce q9 H locs hE hX hce hcv hcl => ?_) (fun r_3 μ_1 H locs q_2 hX hz => ?_)
  · skip
    obtain ⟨rfl, hn9⟩ := hE
    refine vx_catch hown [] ⟨0, 10, 13, 20⟩ [] (htab.trans rfl) (fun z hz => absurd hz List.not_mem_nil) (by decide) (by decide) (hX.w kw517) (hX.w kw308) hce hcv hcl ?_
    refine W.eq (g2 := F0 m 13 ls [.ref q9]) rfl ?_
    refine lv_astore (lv' := [(4, .ref q9), (0, .ref (Λ 0 0)), (1, .int x), (2, .int y), (3, .ref (Λ 9 0))]) hx hb dL_give_13 hl (by decide) rfl (fun ls hl => ?_)
    refine lv_iconst (v := nI 1) hx hb dL_give_15 (by decide) ?_
    have hcd : cd1 (isX x (σ 4 0) ∧ isX y (σ 3 0)) = 1 := cd1_1 hn9
    exact w_iret hx hb hr hlocks hX ⟨by rw [hcd], Λ, w9, by rw [hcd]; exact hF, rfl, rfl, fun z => by rw [hcd] at z; cases z⟩ ⟨Nat.le_of_ble_eq_true rfl, Nat.le_of_ble_eq_true rfl⟩ dL_give_16
  obtain ⟨j, i, hj, hi, hxe, hye, rfl, hF2⟩ := q_2
  refine W.eq (g2 := F0 m 8 ls [.int (nI (σ 8 j)), .int (nI 0), .ref (Λ 9 0)]) rfl ?_
  have hxNx : toN x = j := by rw [hxe]; exact toN_nI (by omega)
  have hxNy : toN y = i := by rw [hye]; exact toN_nI (by omega)
  refine lv_i2l hx hb dL_give_8 rfl ?_
  have f98 := hF2.out9
  refine n_lst1 hx hb hX f98 dL_give_9 (fun H locs hX => ?_)
  obtain ⟨μ_4, e_5⟩ : ∃ z, z = va_up μ_1 (Λ 9 0) (some (cJ g (Int32.toInt64 (nI (σ 8 j))))) := ⟨_, rfl⟩
  rw [← e_5] at hX
  have hF3 := hF2.rec9 (v := Int32.toInt64 (nI (σ 8 j))) (μ' := μ_4) (by rw [e_5]; exact va_up_self _ _ _) (fun q n => by rw [e_5]; exact va_up_ne _ _ n)
  refine lv_goto (tgt := 17) hx hb dL_give_10 (by decide) ?_
  refine lv_iconst (v := nI 0) hx hb dL_give_17 (by decide) ?_
  have hcd : cd1 (isX x (σ 4 0) ∧ isX y (σ 3 0)) = 0 := cd1_0 ⟨(by rw [hxe]; exact (isX_nI (by omega)).mpr hj), (by rw [hye]; exact (isX_nI (by omega)).mpr hi)⟩
  exact w_iret hx hb hr hlocks hX ⟨by rw [hcd], Λ, _, by rw [hcd, hxNx, hxNy]; exact hF3, rfl, rfl, fun _ => by rw [hxNx]⟩ ⟨Nat.le_of_ble_eq_true rfl, Nat.le_of_ble_eq_true rfl⟩ dL_give_18

set_option maxHeartbeats 4000000 in
set_option maxRecDepth 100000 in
/-- setFall: a number for what was thrown, and the answer into the cell -/
theorem c_L_setFall (l : Launch) (hlt : l.stackTraces = false) (g : wG) (μ : wMu) (zz : Nat) {Λ σ : sSt} {w9 : Int64} (hF : fD g Λ (some w9) σ μ) (hO : sOk σ) {x y : Int32} : wMetH l yL_setFall cL_setFall 5 (some .int) [(0, 10, 13, 20), (0, 10, 17, 13)] 8 2 12 136 g [.ref (Λ 0 0), .int x, .int y, .ref (Λ 9 0)] μ zz (fun r μ' => r = some (.int (nI (cd2 (isX x (σ 3 0)) (isI y 0 9)))) ∧ ∃ Λ' w', fD g Λ' (some w') (nx (cd2 (isX x (σ 3 0)) (isI y 0 9)) (up2 σ 6 (toN x) (toN y)) σ) μ' ∧ Λ' 0 0 = Λ 0 0 ∧ Λ' 9 0 = Λ 9 0 ∧ (cd2 (isX x (σ 3 0)) (isI y 0 9) = 0 → w' = Int32.toInt64 (nI (σ 6 (toN x))))) := by
  refine wMetH.of (by decide) (Nat.le_of_ble_eq_true rfl) ?_
  intro p e s m below meth c ls hx hb hr hml hown hlocks hin hl hsz hX htab
  have hl : lv_has ls 5 [(0, .ref (Λ 0 0)), (1, .int x), (2, .int y), (3, .ref (Λ 9 0))] := hl
  obtain ⟨f1, ⟨m1, f2⟩, ⟨m2, f3⟩, f4, f5, f6, f7, ⟨t1, t2, t3, t4, f8⟩, ⟨u1, u2, u3, u4, u5, f9⟩, f10, f11⟩ := id hF
  obtain ⟨o1, o2, o3, o4, o5, o6, o7⟩ := id hO
  refine lv_aload_n hx hb dL_setFall_0 rfl (lv_at hl 3 rfl) ?_
  refine lv_iconst (v := nI 0) hx hb dL_setFall_1 (by decide) ?_
  refine lv_aload_n hx hb dL_setFall_2 rfl (lv_at hl 0 rfl) ?_
  refine lv_iload_n hx hb dL_setFall_3 rfl (lv_at hl 1 rfl) ?_
  refine lv_iload_n hx hb dL_setFall_4 rfl (lv_at hl 2 rfl) ?_
  refine w_callX (w_runVX (n := 2) (As := [.int x, .int y]) (rest := [.int (nI 0), .ref (Λ 9 0)]) hx hb hml hown hX (c_X2_setFall l hlt g μ s.heap.size hF hO) kw537 kw1 kw534 kw535 kw536 wn_X2_setFall rfl f1 rfl ⟨Nat.le_of_ble_eq_true rfl, Nat.le_of_ble_eq_true rfl⟩ hl.1 rfl (Nat.le_of_ble_eq_true rfl) dL_setFall_5 ⟨Nat.le_of_ble_eq_true rfl, Nat.le_of_ble_eq_true rfl⟩) hX (fun E ce q9 H locs hE hX hce hcv hcl => ?_) (fun r_3 μ_1 H locs q_2 hX hz => ?_)
  · skip
    rcases hE with ⟨rfl, hn9⟩ | ⟨rfl, hn8, hn9⟩
    · skip
      refine vx_catch hown [] ⟨0, 10, 13, 20⟩ [⟨0, 10, 17, 13⟩] (htab.trans rfl) (fun z hz => absurd hz List.not_mem_nil) (by decide) (by decide) (hX.w kw517) (hX.w kw308) hce hcv hcl ?_
      refine W.eq (g2 := F0 m 13 ls [.ref q9]) rfl ?_
      refine lv_astore (lv' := [(4, .ref q9), (0, .ref (Λ 0 0)), (1, .int x), (2, .int y), (3, .ref (Λ 9 0))]) hx hb dL_setFall_13 hl (by decide) rfl (fun ls hl => ?_)
      refine lv_iconst (v := nI 1) hx hb dL_setFall_15 (by decide) ?_
      have hcd : cd2 (isX x (σ 3 0)) (isI y 0 9) = 1 := cd2_1 hn9
      exact w_iret hx hb hr hlocks hX ⟨by rw [hcd], Λ, w9, by rw [hcd]; exact hF, rfl, rfl, fun z => by rw [hcd] at z; cases z⟩ ⟨Nat.le_of_ble_eq_true rfl, Nat.le_of_ble_eq_true rfl⟩ dL_setFall_16
    · skip
      refine vx_catch hown [⟨0, 10, 13, 20⟩] ⟨0, 10, 17, 13⟩ [] (htab.trans rfl) (fun z hz => Or.inr (by rw [List.mem_singleton.mp hz]; exact ⟨by decide, "java/lang/IndexOutOfBoundsException", hX.w kw517, hX.1.2.2.2.1.2.1⟩)) (by decide) (by decide) (hX.w kw441) (hX.w kw212) hce hcv hcl ?_
      refine W.eq (g2 := F0 m 17 ls [.ref q9]) rfl ?_
      refine lv_astore (lv' := [(4, .ref q9), (0, .ref (Λ 0 0)), (1, .int x), (2, .int y), (3, .ref (Λ 9 0))]) hx hb dL_setFall_17 hl (by decide) rfl (fun ls hl => ?_)
      refine lv_iconst (v := nI 2) hx hb dL_setFall_19 (by decide) ?_
      have hcd : cd2 (isX x (σ 3 0)) (isI y 0 9) = 2 := cd2_2 hn8 hn9
      exact w_iret hx hb hr hlocks hX ⟨by rw [hcd], Λ, w9, by rw [hcd]; exact hF, rfl, rfl, fun z => by rw [hcd] at z; cases z⟩ ⟨Nat.le_of_ble_eq_true rfl, Nat.le_of_ble_eq_true rfl⟩ dL_setFall_20
  obtain ⟨i, b, hi, hb9, hxe, hye, rfl, hF2⟩ := q_2
  refine W.eq (g2 := F0 m 8 ls [.int (nI (σ 6 i)), .int (nI 0), .ref (Λ 9 0)]) rfl ?_
  have hxNx : toN x = i := by rw [hxe]; exact toN_nI (by omega)
  have hxNy : toN y = b := by rw [hye]; exact toN_nI (by omega)
  refine lv_i2l hx hb dL_setFall_8 rfl ?_
  have f98 := hF2.out9
  refine n_lst1 hx hb hX f98 dL_setFall_9 (fun H locs hX => ?_)
  obtain ⟨μ_4, e_5⟩ : ∃ z, z = va_up μ_1 (Λ 9 0) (some (cJ g (Int32.toInt64 (nI (σ 6 i))))) := ⟨_, rfl⟩
  rw [← e_5] at hX
  have hF3 := hF2.rec9 (v := Int32.toInt64 (nI (σ 6 i))) (μ' := μ_4) (by rw [e_5]; exact va_up_self _ _ _) (fun q n => by rw [e_5]; exact va_up_ne _ _ n)
  refine lv_goto (tgt := 21) hx hb dL_setFall_10 (by decide) ?_
  refine lv_iconst (v := nI 0) hx hb dL_setFall_21 (by decide) ?_
  have hcd : cd2 (isX x (σ 3 0)) (isI y 0 9) = 0 := cd2_0 (by rw [hxe]; exact (isX_nI (by omega)).mpr hi) (by rw [hye]; exact (isI_nI (by omega)).mpr ⟨by omega, by omega⟩)
  exact w_iret hx hb hr hlocks hX ⟨by rw [hcd], Λ, _, by rw [hcd, hxNx, hxNy]; exact hF3, rfl, rfl, fun _ => by rw [hxNx]⟩ ⟨Nat.le_of_ble_eq_true rfl, Nat.le_of_ble_eq_true rfl⟩ dL_setFall_22

set_option maxHeartbeats 4000000 in
set_option maxRecDepth 100000 in
/-- forgive: a number for what was thrown, and the answer into the cell -/
theorem c_L_forgive (l : Launch) (hlt : l.stackTraces = false) (g : wG) (μ : wMu) (zz : Nat) {Λ σ : sSt} {w9 : Int64} (hF : fD g Λ (some w9) σ μ) (hO : sOk σ) {x : Int32} : wMetH l yL_forgive cL_forgive 4 (some .int) [(0, 9, 12, 20)] 8 1 6 132 g [.ref (Λ 0 0), .int x, .ref (Λ 9 0)] μ zz (fun r μ' => r = some (.int (nI (cd1 (isX x (σ 4 0))))) ∧ ∃ Λ' w', fD g Λ' (some w') (nx (cd1 (isX x (σ 4 0))) (nFor σ (toN x)) σ) μ' ∧ Λ' 0 0 = Λ 0 0 ∧ Λ' 9 0 = Λ 9 0 ∧ (cd1 (isX x (σ 4 0)) = 0 → w' = Int32.toInt64 (nI (σ 11 (toN x))))) := by
  refine wMetH.of (by decide) (Nat.le_of_ble_eq_true rfl) ?_
  intro p e s m below meth c ls hx hb hr hml hown hlocks hin hl hsz hX htab
  have hl : lv_has ls 4 [(0, .ref (Λ 0 0)), (1, .int x), (2, .ref (Λ 9 0))] := hl
  obtain ⟨f1, ⟨m1, f2⟩, ⟨m2, f3⟩, f4, f5, f6, f7, ⟨t1, t2, t3, t4, f8⟩, ⟨u1, u2, u3, u4, u5, f9⟩, f10, f11⟩ := id hF
  obtain ⟨o1, o2, o3, o4, o5, o6, o7⟩ := id hO
  refine lv_aload_n hx hb dL_forgive_0 rfl (lv_at hl 2 rfl) ?_
  refine lv_iconst (v := nI 0) hx hb dL_forgive_1 (by decide) ?_
  refine lv_aload_n hx hb dL_forgive_2 rfl (lv_at hl 0 rfl) ?_
  refine lv_iload_n hx hb dL_forgive_3 rfl (lv_at hl 1 rfl) ?_
  refine w_callX (w_runVX (n := 1) (As := [.int x]) (rest := [.int (nI 0), .ref (Λ 9 0)]) hx hb hml hown hX (c_X2_forgive l hlt g μ s.heap.size hF hO) kw551 kw1 kw548 kw549 kw550 wn_X2_forgive rfl f1 rfl ⟨Nat.le_of_ble_eq_true rfl, Nat.le_of_ble_eq_true rfl⟩ hl.1 rfl (Nat.le_of_ble_eq_true rfl) dL_forgive_4 ⟨Nat.le_of_ble_eq_true rfl, Nat.le_of_ble_eq_true rfl⟩) hX (fun E ce q9 H locs hE hX hce hcv hcl => ?_) (fun r_3 μ_1 H locs q_2 hX hz => ?_)
  · skip
    obtain ⟨rfl, hn9⟩ := hE
    refine vx_catch hown [] ⟨0, 9, 12, 20⟩ [] (htab.trans rfl) (fun z hz => absurd hz List.not_mem_nil) (by decide) (by decide) (hX.w kw517) (hX.w kw308) hce hcv hcl ?_
    refine W.eq (g2 := F0 m 12 ls [.ref q9]) rfl ?_
    refine lv_astore_n (lv' := [(3, .ref q9), (0, .ref (Λ 0 0)), (1, .int x), (2, .ref (Λ 9 0))]) hx hb dL_forgive_12 rfl hl (by decide) rfl (fun ls hl => ?_)
    refine lv_iconst (v := nI 1) hx hb dL_forgive_13 (by decide) ?_
    have hcd : cd1 (isX x (σ 4 0)) = 1 := cd1_1 hn9
    exact w_iret hx hb hr hlocks hX ⟨by rw [hcd], Λ, w9, by rw [hcd]; exact hF, rfl, rfl, fun z => by rw [hcd] at z; cases z⟩ ⟨Nat.le_of_ble_eq_true rfl, Nat.le_of_ble_eq_true rfl⟩ dL_forgive_14
  obtain ⟨j, hj, hxe, rfl, hF2⟩ := q_2
  refine W.eq (g2 := F0 m 7 ls [.int (nI (σ 11 j)), .int (nI 0), .ref (Λ 9 0)]) rfl ?_
  have hxNx : toN x = j := by rw [hxe]; exact toN_nI (by omega)
  refine lv_i2l hx hb dL_forgive_7 rfl ?_
  have f98 := hF2.out9
  refine n_lst1 hx hb hX f98 dL_forgive_8 (fun H locs hX => ?_)
  obtain ⟨μ_4, e_5⟩ : ∃ z, z = va_up μ_1 (Λ 9 0) (some (cJ g (Int32.toInt64 (nI (σ 11 j))))) := ⟨_, rfl⟩
  rw [← e_5] at hX
  have hF3 := hF2.rec9 (v := Int32.toInt64 (nI (σ 11 j))) (μ' := μ_4) (by rw [e_5]; exact va_up_self _ _ _) (fun q n => by rw [e_5]; exact va_up_ne _ _ n)
  refine lv_goto (tgt := 15) hx hb dL_forgive_9 (by decide) ?_
  refine lv_iconst (v := nI 0) hx hb dL_forgive_15 (by decide) ?_
  have hcd : cd1 (isX x (σ 4 0)) = 0 := cd1_0 (by rw [hxe]; exact (isX_nI (by omega)).mpr hj)
  exact w_iret hx hb hr hlocks hX ⟨by rw [hcd], Λ, _, by rw [hcd, hxNx]; exact hF3, rfl, rfl, fun _ => by rw [hxNx]⟩ ⟨Nat.le_of_ble_eq_true rfl, Nat.le_of_ble_eq_true rfl⟩ dL_forgive_16

set_option maxHeartbeats 4000000 in
set_option maxRecDepth 100000 in
/-- pass: a number for what was thrown, and the answer into the cell -/
theorem c_L_pass (l : Launch) (hlt : l.stackTraces = false) (g : wG) (μ : wMu) (zz : Nat) {Λ σ : sSt} {w9 : Int64} (hF : fD g Λ (some w9) σ μ) (hO : sOk σ) (h9 : σ 0 0 ≤ 51900) {x : Int32} : wMetH l yL_pass cL_pass 4 (some .int) [(0, 9, 12, 13)] 8 1 6 135 g [.ref (Λ 0 0), .int x, .ref (Λ 9 0)] μ zz (fun r μ' => r = some (.int (nI (cd1 (isI x 1 100)))) ∧ ∃ Λ' w', fD g Λ' (some w') (nx (cd1 (isI x 1 100)) (nPas σ (toN x)) σ) μ' ∧ Λ' 0 0 = Λ 0 0 ∧ Λ' 9 0 = Λ 9 0 ∧ (cd1 (isI x 1 100) = 0 → w' = Int32.toInt64 (nI (sFal σ (toN x) (σ 3 0))))) := by
  refine wMetH.of (by decide) (Nat.le_of_ble_eq_true rfl) ?_
  intro p e s m below meth c ls hx hb hr hml hown hlocks hin hl hsz hX htab
  have hl : lv_has ls 4 [(0, .ref (Λ 0 0)), (1, .int x), (2, .ref (Λ 9 0))] := hl
  obtain ⟨f1, ⟨m1, f2⟩, ⟨m2, f3⟩, f4, f5, f6, f7, ⟨t1, t2, t3, t4, f8⟩, ⟨u1, u2, u3, u4, u5, f9⟩, f10, f11⟩ := id hF
  obtain ⟨o1, o2, o3, o4, o5, o6, o7⟩ := id hO
  refine lv_aload_n hx hb dL_pass_0 rfl (lv_at hl 2 rfl) ?_
  refine lv_iconst (v := nI 0) hx hb dL_pass_1 (by decide) ?_
  refine lv_aload_n hx hb dL_pass_2 rfl (lv_at hl 0 rfl) ?_
  refine lv_iload_n hx hb dL_pass_3 rfl (lv_at hl 1 rfl) ?_
  refine w_callX (w_runVX (n := 1) (As := [.int x]) (rest := [.int (nI 0), .ref (Λ 9 0)]) hx hb hml hown hX (c_X2_pass l hlt g μ s.heap.size hF hO h9) kw562 kw1 kw559 kw560 kw561 wn_X2_pass rfl f1 rfl ⟨Nat.le_of_ble_eq_true rfl, Nat.le_of_ble_eq_true rfl⟩ hl.1 rfl (Nat.le_of_ble_eq_true rfl) dL_pass_4 ⟨Nat.le_of_ble_eq_true rfl, Nat.le_of_ble_eq_true rfl⟩) hX (fun E ce q9 H locs hE hX hce hcv hcl => ?_) (fun r_3 μ_1 H locs q_2 hX hz => ?_)
  · skip
    obtain ⟨rfl, hn9⟩ := hE
    refine vx_catch hown [] ⟨0, 9, 12, 13⟩ [] (htab.trans rfl) (fun z hz => absurd hz List.not_mem_nil) (by decide) (by decide) (hX.w kw441) (hX.w kw212) hce hcv hcl ?_
    refine W.eq (g2 := F0 m 12 ls [.ref q9]) rfl ?_
    refine lv_astore_n (lv' := [(3, .ref q9), (0, .ref (Λ 0 0)), (1, .int x), (2, .ref (Λ 9 0))]) hx hb dL_pass_12 rfl hl (by decide) rfl (fun ls hl => ?_)
    refine lv_iconst (v := nI 1) hx hb dL_pass_13 (by decide) ?_
    have hcd : cd1 (isI x 1 100) = 1 := cd1_1 hn9
    exact w_iret hx hb hr hlocks hX ⟨by rw [hcd], Λ, w9, by rw [hcd]; exact hF, rfl, rfl, fun z => by rw [hcd] at z; cases z⟩ ⟨Nat.le_of_ble_eq_true rfl, Nat.le_of_ble_eq_true rfl⟩ dL_pass_14
  obtain ⟨b, h1, h2, hxe, rfl, hF2⟩ := q_2
  refine W.eq (g2 := F0 m 7 ls [.int (nI (sFal σ b (σ 3 0))), .int (nI 0), .ref (Λ 9 0)]) rfl ?_
  have hxNx : toN x = b := by rw [hxe]; exact toN_nI (by omega)
  refine lv_i2l hx hb dL_pass_7 rfl ?_
  have f98 := hF2.out9
  refine n_lst1 hx hb hX f98 dL_pass_8 (fun H locs hX => ?_)
  obtain ⟨μ_4, e_5⟩ : ∃ z, z = va_up μ_1 (Λ 9 0) (some (cJ g (Int32.toInt64 (nI (sFal σ b (σ 3 0)))))) := ⟨_, rfl⟩
  rw [← e_5] at hX
  have hF3 := hF2.rec9 (v := Int32.toInt64 (nI (sFal σ b (σ 3 0)))) (μ' := μ_4) (by rw [e_5]; exact va_up_self _ _ _) (fun q n => by rw [e_5]; exact va_up_ne _ _ n)
  refine lv_goto (tgt := 15) hx hb dL_pass_9 (by decide) ?_
  refine lv_iconst (v := nI 0) hx hb dL_pass_15 (by decide) ?_
  have hcd : cd1 (isI x 1 100) = 0 := cd1_0 (by rw [hxe]; exact (isI_nI (by omega)).mpr ⟨by omega, by omega⟩)
  exact w_iret hx hb hr hlocks hX ⟨by rw [hcd], Λ, _, by rw [hcd, hxNx]; exact hF3, rfl, rfl, fun _ => by rw [hxNx]⟩ ⟨Nat.le_of_ble_eq_true rfl, Nat.le_of_ble_eq_true rfl⟩ dL_pass_16

set_option maxHeartbeats 4000000 in
set_option maxRecDepth 100000 in
/-- addWand: a number for what was thrown, and the answer into the cell -/
theorem c_L_addWand (l : Launch) (hlt : l.stackTraces = false) (g : wG) (μ : wMu) (zz : Nat) {Λ σ : sSt} {w9 : Int64} (hF : fD g Λ (some w9) σ μ) (hO : sOk σ) {x y : Int32} : wMetH l yL_addWand cL_addWand 5 (some .int) [(0, 10, 13, 13), (0, 10, 17, 15)] 8 4 26 135 g [.ref (Λ 0 0), .int x, .int y, .ref (Λ 9 0)] μ zz (fun r μ' => r = some (.int (nI (cd2 (isI x 1 60 ∧ isI y 0 9) (σ 3 0 < 4)))) ∧ ∃ Λ' w', fD g Λ' (some w') (nx (cd2 (isI x 1 60 ∧ isI y 0 9) (σ 3 0 < 4)) (nAddW σ (toN x) (toN y)) σ) μ' ∧ Λ' 0 0 = Λ 0 0 ∧ Λ' 9 0 = Λ 9 0 ∧ (cd2 (isI x 1 60 ∧ isI y 0 9) (σ 3 0 < 4) = 0 → w' = Int32.toInt64 (nI (σ 3 0)))) := by
  refine wMetH.of (by decide) (Nat.le_of_ble_eq_true rfl) ?_
  intro p e s m below meth c ls hx hb hr hml hown hlocks hin hl hsz hX htab
  have hl : lv_has ls 5 [(0, .ref (Λ 0 0)), (1, .int x), (2, .int y), (3, .ref (Λ 9 0))] := hl
  obtain ⟨f1, ⟨m1, f2⟩, ⟨m2, f3⟩, f4, f5, f6, f7, ⟨t1, t2, t3, t4, f8⟩, ⟨u1, u2, u3, u4, u5, f9⟩, f10, f11⟩ := id hF
  obtain ⟨o1, o2, o3, o4, o5, o6, o7⟩ := id hO
  refine lv_aload_n hx hb dL_addWand_0 rfl (lv_at hl 3 rfl) ?_
  refine lv_iconst (v := nI 0) hx hb dL_addWand_1 (by decide) ?_
  refine lv_aload_n hx hb dL_addWand_2 rfl (lv_at hl 0 rfl) ?_
  refine lv_iload_n hx hb dL_addWand_3 rfl (lv_at hl 1 rfl) ?_
  refine lv_iload_n hx hb dL_addWand_4 rfl (lv_at hl 2 rfl) ?_
  refine w_callX (w_runVX (n := 2) (As := [.int x, .int y]) (rest := [.int (nI 0), .ref (Λ 9 0)]) hx hb hml hown hX (c_X2_addWand l hlt g μ s.heap.size hF hO) kw446 kw1 kw443 kw444 kw445 wn_X2_addWand rfl f1 rfl ⟨Nat.le_of_ble_eq_true rfl, Nat.le_of_ble_eq_true rfl⟩ hl.1 rfl (Nat.le_of_ble_eq_true rfl) dL_addWand_5 ⟨Nat.le_of_ble_eq_true rfl, Nat.le_of_ble_eq_true rfl⟩) hX (fun E ce q9 H locs hE hX hce hcv hcl => ?_) (fun r_3 μ_1 H locs q_2 hX hz => ?_)
  · skip
    rcases hE with ⟨rfl, hn9⟩ | ⟨rfl, hn8, hn9⟩
    · skip
      refine vx_catch hown [] ⟨0, 10, 13, 13⟩ [⟨0, 10, 17, 15⟩] (htab.trans rfl) (fun z hz => absurd hz List.not_mem_nil) (by decide) (by decide) (hX.w kw441) (hX.w kw212) hce hcv hcl ?_
      refine W.eq (g2 := F0 m 13 ls [.ref q9]) rfl ?_
      refine lv_astore (lv' := [(4, .ref q9), (0, .ref (Λ 0 0)), (1, .int x), (2, .int y), (3, .ref (Λ 9 0))]) hx hb dL_addWand_13 hl (by decide) rfl (fun ls hl => ?_)
      refine lv_iconst (v := nI 1) hx hb dL_addWand_15 (by decide) ?_
      have hcd : cd2 (isI x 1 60 ∧ isI y 0 9) (σ 3 0 < 4) = 1 := cd2_1 hn9
      exact w_iret hx hb hr hlocks hX ⟨by rw [hcd], Λ, w9, by rw [hcd]; exact hF, rfl, rfl, fun z => by rw [hcd] at z; cases z⟩ ⟨Nat.le_of_ble_eq_true rfl, Nat.le_of_ble_eq_true rfl⟩ dL_addWand_16
    · skip
      refine vx_catch hown [⟨0, 10, 13, 13⟩] ⟨0, 10, 17, 15⟩ [] (htab.trans rfl) (fun z hz => Or.inr (by rw [List.mem_singleton.mp hz]; exact ⟨by decide, "java/lang/IllegalArgumentException", hX.w kw441, hX.1.2.2.2.1.1⟩)) (by decide) (by decide) (hX.w kw442) (hX.w kw449) hce hcv hcl ?_
      refine W.eq (g2 := F0 m 17 ls [.ref q9]) rfl ?_
      refine lv_astore (lv' := [(4, .ref q9), (0, .ref (Λ 0 0)), (1, .int x), (2, .int y), (3, .ref (Λ 9 0))]) hx hb dL_addWand_17 hl (by decide) rfl (fun ls hl => ?_)
      refine lv_iconst (v := nI 2) hx hb dL_addWand_19 (by decide) ?_
      have hcd : cd2 (isI x 1 60 ∧ isI y 0 9) (σ 3 0 < 4) = 2 := cd2_2 hn8 (by omega)
      exact w_iret hx hb hr hlocks hX ⟨by rw [hcd], Λ, w9, by rw [hcd]; exact hF, rfl, rfl, fun z => by rw [hcd] at z; cases z⟩ ⟨Nat.le_of_ble_eq_true rfl, Nat.le_of_ble_eq_true rfl⟩ dL_addWand_20
  obtain ⟨a, b, Λ2, ha1, ha2, hb2, hlt4, hxe, hye, rfl, hF2, hL0, hL9⟩ := q_2
  refine W.eq (g2 := F0 m 8 ls [.int (nI (σ 3 0)), .int (nI 0), .ref (Λ 9 0)]) rfl ?_
  have hxNx : toN x = a := by rw [hxe]; exact toN_nI (by omega)
  have hxNy : toN y = b := by rw [hye]; exact toN_nI (by omega)
  refine lv_i2l hx hb dL_addWand_8 rfl ?_
  have f98 := hF2.out9
  rw [hL9] at f98
  refine n_lst1 hx hb hX f98 dL_addWand_9 (fun H locs hX => ?_)
  obtain ⟨μ_4, e_5⟩ : ∃ z, z = va_up μ_1 (Λ 9 0) (some (cJ g (Int32.toInt64 (nI (σ 3 0))))) := ⟨_, rfl⟩
  rw [← e_5] at hX
  have hF3 := hF2.rec9 (v := Int32.toInt64 (nI (σ 3 0))) (μ' := μ_4) (by rw [hL9, e_5]; exact va_up_self _ _ _) (fun q n => by rw [e_5]; exact va_up_ne _ _ (by rw [← hL9]; exact n))
  refine lv_goto (tgt := 21) hx hb dL_addWand_10 (by decide) ?_
  refine lv_iconst (v := nI 0) hx hb dL_addWand_21 (by decide) ?_
  have hcd : cd2 (isI x 1 60 ∧ isI y 0 9) (σ 3 0 < 4) = 0 := cd2_0 ⟨(by rw [hxe]; exact (isI_nI (by omega)).mpr ⟨by omega, by omega⟩), (by rw [hye]; exact (isI_nI (by omega)).mpr ⟨by omega, by omega⟩)⟩ hlt4
  exact w_iret hx hb hr hlocks hX ⟨by rw [hcd], Λ2, _, by rw [hcd, hxNx, hxNy]; exact hF3, hL0, hL9, fun _ => rfl⟩ ⟨Nat.le_of_ble_eq_true rfl, Nat.le_of_ble_eq_true rfl⟩ dL_addWand_22

set_option maxHeartbeats 4000000 in
set_option maxRecDepth 100000 in
/-- addChild: a number for what was thrown, and the answer into the cell -/
theorem c_L_addChild (l : Launch) (hlt : l.stackTraces = false) (g : wG) (μ : wMu) (zz : Nat) {Λ σ : sSt} {w9 : Int64} (hF : fD g Λ (some w9) σ μ) (hO : sOk σ) {x y : Int32} : wMetH l yL_addChild cL_addChild 5 (some .int) [(0, 10, 13, 20), (0, 10, 17, 13), (0, 10, 21, 15)] 8 4 28 137 g [.ref (Λ 0 0), .int x, .int y, .ref (Λ 9 0)] μ zz (fun r μ' => r = some (.int (nI (cd3 (isX x (σ 3 0)) (isI y 0 29) (σ 4 0 < 10)))) ∧ ∃ Λ' w', fD g Λ' (some w') (nx (cd3 (isX x (σ 3 0)) (isI y 0 29) (σ 4 0 < 10)) (nAddC σ (toN x) (toN y)) σ) μ' ∧ Λ' 0 0 = Λ 0 0 ∧ Λ' 9 0 = Λ 9 0 ∧ (cd3 (isX x (σ 3 0)) (isI y 0 29) (σ 4 0 < 10) = 0 → w' = Int32.toInt64 (nI (σ 4 0)))) := by
  refine wMetH.of (by decide) (Nat.le_of_ble_eq_true rfl) ?_
  intro p e s m below meth c ls hx hb hr hml hown hlocks hin hl hsz hX htab
  have hl : lv_has ls 5 [(0, .ref (Λ 0 0)), (1, .int x), (2, .int y), (3, .ref (Λ 9 0))] := hl
  obtain ⟨f1, ⟨m1, f2⟩, ⟨m2, f3⟩, f4, f5, f6, f7, ⟨t1, t2, t3, t4, f8⟩, ⟨u1, u2, u3, u4, u5, f9⟩, f10, f11⟩ := id hF
  obtain ⟨o1, o2, o3, o4, o5, o6, o7⟩ := id hO
  refine lv_aload_n hx hb dL_addChild_0 rfl (lv_at hl 3 rfl) ?_
  refine lv_iconst (v := nI 0) hx hb dL_addChild_1 (by decide) ?_
  refine lv_aload_n hx hb dL_addChild_2 rfl (lv_at hl 0 rfl) ?_
  refine lv_iload_n hx hb dL_addChild_3 rfl (lv_at hl 1 rfl) ?_
  refine lv_iload_n hx hb dL_addChild_4 rfl (lv_at hl 2 rfl) ?_
  refine w_callX (w_runVX (n := 2) (As := [.int x, .int y]) (rest := [.int (nI 0), .ref (Λ 9 0)]) hx hb hml hown hX (c_X2_addChild l hlt g μ s.heap.size hF hO) kw521 kw1 kw518 kw519 kw520 wn_X2_addChild rfl f1 rfl ⟨Nat.le_of_ble_eq_true rfl, Nat.le_of_ble_eq_true rfl⟩ hl.1 rfl (Nat.le_of_ble_eq_true rfl) dL_addChild_5 ⟨Nat.le_of_ble_eq_true rfl, Nat.le_of_ble_eq_true rfl⟩) hX (fun E ce q9 H locs hE hX hce hcv hcl => ?_) (fun r_3 μ_1 H locs q_2 hX hz => ?_)
  · skip
    rcases hE with ⟨rfl, hn9⟩ | ⟨rfl, hn8, hn9⟩ | ⟨rfl, hn7, hn8, hn9⟩
    · skip
      refine vx_catch hown [] ⟨0, 10, 13, 20⟩ [⟨0, 10, 17, 13⟩, ⟨0, 10, 21, 15⟩] (htab.trans rfl) (fun z hz => absurd hz List.not_mem_nil) (by decide) (by decide) (hX.w kw517) (hX.w kw308) hce hcv hcl ?_
      refine W.eq (g2 := F0 m 13 ls [.ref q9]) rfl ?_
      refine lv_astore (lv' := [(4, .ref q9), (0, .ref (Λ 0 0)), (1, .int x), (2, .int y), (3, .ref (Λ 9 0))]) hx hb dL_addChild_13 hl (by decide) rfl (fun ls hl => ?_)
      refine lv_iconst (v := nI 1) hx hb dL_addChild_15 (by decide) ?_
      have hcd : cd3 (isX x (σ 3 0)) (isI y 0 29) (σ 4 0 < 10) = 1 := cd3_1 hn9
      exact w_iret hx hb hr hlocks hX ⟨by rw [hcd], Λ, w9, by rw [hcd]; exact hF, rfl, rfl, fun z => by rw [hcd] at z; cases z⟩ ⟨Nat.le_of_ble_eq_true rfl, Nat.le_of_ble_eq_true rfl⟩ dL_addChild_16
    · skip
      refine vx_catch hown [⟨0, 10, 13, 20⟩] ⟨0, 10, 17, 13⟩ [⟨0, 10, 21, 15⟩] (htab.trans rfl) (fun z hz => Or.inr (by rw [List.mem_singleton.mp hz]; exact ⟨by decide, "java/lang/IndexOutOfBoundsException", hX.w kw517, hX.1.2.2.2.1.2.1⟩)) (by decide) (by decide) (hX.w kw441) (hX.w kw212) hce hcv hcl ?_
      refine W.eq (g2 := F0 m 17 ls [.ref q9]) rfl ?_
      refine lv_astore (lv' := [(4, .ref q9), (0, .ref (Λ 0 0)), (1, .int x), (2, .int y), (3, .ref (Λ 9 0))]) hx hb dL_addChild_17 hl (by decide) rfl (fun ls hl => ?_)
      refine lv_iconst (v := nI 2) hx hb dL_addChild_19 (by decide) ?_
      have hcd : cd3 (isX x (σ 3 0)) (isI y 0 29) (σ 4 0 < 10) = 2 := cd3_2 hn8 hn9
      exact w_iret hx hb hr hlocks hX ⟨by rw [hcd], Λ, w9, by rw [hcd]; exact hF, rfl, rfl, fun z => by rw [hcd] at z; cases z⟩ ⟨Nat.le_of_ble_eq_true rfl, Nat.le_of_ble_eq_true rfl⟩ dL_addChild_20
    · skip
      refine vx_catch hown [⟨0, 10, 13, 20⟩, ⟨0, 10, 17, 13⟩] ⟨0, 10, 21, 15⟩ [] (htab.trans rfl) (fun z hz => Or.inr ((List.mem_cons.mp hz).elim (fun h => by rw [h]; exact ⟨by decide, "java/lang/IndexOutOfBoundsException", hX.w kw517, hX.1.2.2.2.1.2.2⟩) (fun h => by rw [List.mem_singleton.mp h]; exact ⟨by decide, "java/lang/IllegalArgumentException", hX.w kw441, hX.1.2.2.2.1.1⟩))) (by decide) (by decide) (hX.w kw442) (hX.w kw449) hce hcv hcl ?_
      refine W.eq (g2 := F0 m 21 ls [.ref q9]) rfl ?_
      refine lv_astore (lv' := [(4, .ref q9), (0, .ref (Λ 0 0)), (1, .int x), (2, .int y), (3, .ref (Λ 9 0))]) hx hb dL_addChild_21 hl (by decide) rfl (fun ls hl => ?_)
      refine lv_iconst (v := nI 3) hx hb dL_addChild_23 (by decide) ?_
      have hcd : cd3 (isX x (σ 3 0)) (isI y 0 29) (σ 4 0 < 10) = 3 := cd3_3 hn7 hn8 (by omega)
      exact w_iret hx hb hr hlocks hX ⟨by rw [hcd], Λ, w9, by rw [hcd]; exact hF, rfl, rfl, fun z => by rw [hcd] at z; cases z⟩ ⟨Nat.le_of_ble_eq_true rfl, Nat.le_of_ble_eq_true rfl⟩ dL_addChild_24
  obtain ⟨a, b, Λ2, ha1, hb2, hlt4, hxe, hye, rfl, hF2, hL0, hL9⟩ := q_2
  refine W.eq (g2 := F0 m 8 ls [.int (nI (σ 4 0)), .int (nI 0), .ref (Λ 9 0)]) rfl ?_
  have hxNx : toN x = a := by rw [hxe]; exact toN_nI (by omega)
  have hxNy : toN y = b := by rw [hye]; exact toN_nI (by omega)
  refine lv_i2l hx hb dL_addChild_8 rfl ?_
  have f98 := hF2.out9
  rw [hL9] at f98
  refine n_lst1 hx hb hX f98 dL_addChild_9 (fun H locs hX => ?_)
  obtain ⟨μ_4, e_5⟩ : ∃ z, z = va_up μ_1 (Λ 9 0) (some (cJ g (Int32.toInt64 (nI (σ 4 0))))) := ⟨_, rfl⟩
  rw [← e_5] at hX
  have hF3 := hF2.rec9 (v := Int32.toInt64 (nI (σ 4 0))) (μ' := μ_4) (by rw [hL9, e_5]; exact va_up_self _ _ _) (fun q n => by rw [e_5]; exact va_up_ne _ _ (by rw [← hL9]; exact n))
  refine lv_goto (tgt := 25) hx hb dL_addChild_10 (by decide) ?_
  refine lv_iconst (v := nI 0) hx hb dL_addChild_25 (by decide) ?_
  have hcd : cd3 (isX x (σ 3 0)) (isI y 0 29) (σ 4 0 < 10) = 0 := cd3_0 (by rw [hxe]; exact (isX_nI (by omega)).mpr ha1) (by rw [hye]; exact (isI_nI (by omega)).mpr ⟨by omega, by omega⟩) hlt4
  exact w_iret hx hb hr hlocks hX ⟨by rw [hcd], Λ2, _, by rw [hcd, hxNx, hxNy]; exact hF3, hL0, hL9, fun _ => rfl⟩ ⟨Nat.le_of_ble_eq_true rfl, Nat.le_of_ble_eq_true rfl⟩ dL_addChild_26

set_option maxHeartbeats 4000000 in
set_option maxRecDepth 100000 in
/-- wish: a number for what was thrown, and the answer into the cell -/
theorem c_L_wish (l : Launch) (hlt : l.stackTraces = false) (g : wG) (μ : wMu) (zz : Nat) {Λ σ : sSt} {w9 : Int64} (hF : fD g Λ (some w9) σ μ) (hO : sOk σ) {x y : Int32} : wMetH l yL_wish cL_wish 5 (some .int) [(0, 17, 20, 20), (0, 17, 24, 13)] 9 2 12 156 g [.ref (Λ 0 0), .int x, .int y, .ref (Λ 9 0)] μ zz (fun r μ' => r = some (.int (nI (cd2 (isX x (σ 4 0)) (isI y 1 20)))) ∧ ∃ Λ' w', fD g Λ' (some w') (nx (cd2 (isX x (σ 4 0)) (isI y 1 20)) (nWis σ (toN x) (toN y)) σ) μ' ∧ Λ' 0 0 = Λ 0 0 ∧ Λ' 9 0 = Λ 9 0 ∧ (cd2 (isX x (σ 4 0)) (isI y 1 20) = 0 → w' = Int32.toInt64 (nI (fwG (toN y) (σ 7 (σ 8 (toN x))) (σ 10 (toN x)) (σ 11 (toN x)))))) := by
  refine wMetH.of (by decide) (Nat.le_of_ble_eq_true rfl) ?_
  intro p e s m below meth c ls hx hb hr hml hown hlocks hin hl hsz hX htab
  have hl : lv_has ls 5 [(0, .ref (Λ 0 0)), (1, .int x), (2, .int y), (3, .ref (Λ 9 0))] := hl
  obtain ⟨f1, ⟨m1, f2⟩, ⟨m2, f3⟩, f4, f5, f6, f7, ⟨t1, t2, t3, t4, f8⟩, ⟨u1, u2, u3, u4, u5, f9⟩, f10, f11⟩ := id hF
  obtain ⟨o1, o2, o3, o4, o5, o6, o7⟩ := id hO
  refine lv_aload_n hx hb dL_wish_0 rfl (lv_at hl 3 rfl) ?_
  refine lv_iconst (v := nI 0) hx hb dL_wish_1 (by decide) ?_
  refine lv_aload_n hx hb dL_wish_2 rfl (lv_at hl 0 rfl) ?_
  refine lv_iload_n hx hb dL_wish_3 rfl (lv_at hl 1 rfl) ?_
  refine lv_iload_n hx hb dL_wish_4 rfl (lv_at hl 2 rfl) ?_
  refine w_callX (w_runVX (n := 2) (As := [.int x, .int y]) (rest := [.int (nI 0), .ref (Λ 9 0)]) hx hb hml hown hX (c_X2_wish l hlt g μ s.heap.size hF hO) kw544 kw1 kw541 kw542 kw543 wn_X2_wish rfl f1 rfl ⟨Nat.le_of_ble_eq_true rfl, Nat.le_of_ble_eq_true rfl⟩ hl.1 rfl (Nat.le_of_ble_eq_true rfl) dL_wish_5 ⟨Nat.le_of_ble_eq_true rfl, Nat.le_of_ble_eq_true rfl⟩) hX (fun E ce q9 H locs hE hX hce hcv hcl => ?_) (fun r_3 μ_1 H locs q_2 hX hz => ?_)
  · skip
    rcases hE with ⟨rfl, hn9⟩ | ⟨rfl, hn8, hn9⟩
    · skip
      refine vx_catch hown [] ⟨0, 17, 20, 20⟩ [⟨0, 17, 24, 13⟩] (htab.trans rfl) (fun z hz => absurd hz List.not_mem_nil) (by decide) (by decide) (hX.w kw517) (hX.w kw308) hce hcv hcl ?_
      refine W.eq (g2 := F0 m 20 ls [.ref q9]) rfl ?_
      refine lv_astore (lv' := [(4, .ref q9), (0, .ref (Λ 0 0)), (1, .int x), (2, .int y), (3, .ref (Λ 9 0))]) hx hb dL_wish_20 hl (by decide) rfl (fun ls hl => ?_)
      refine lv_iconst (v := nI 1) hx hb dL_wish_22 (by decide) ?_
      have hcd : cd2 (isX x (σ 4 0)) (isI y 1 20) = 1 := cd2_1 hn9
      exact w_iret hx hb hr hlocks hX ⟨by rw [hcd], Λ, w9, by rw [hcd]; exact hF, rfl, rfl, fun z => by rw [hcd] at z; cases z⟩ ⟨Nat.le_of_ble_eq_true rfl, Nat.le_of_ble_eq_true rfl⟩ dL_wish_23
    · skip
      refine vx_catch hown [⟨0, 17, 20, 20⟩] ⟨0, 17, 24, 13⟩ [] (htab.trans rfl) (fun z hz => Or.inr (by rw [List.mem_singleton.mp hz]; exact ⟨by decide, "java/lang/IndexOutOfBoundsException", hX.w kw517, hX.1.2.2.2.1.2.1⟩)) (by decide) (by decide) (hX.w kw441) (hX.w kw212) hce hcv hcl ?_
      refine W.eq (g2 := F0 m 24 ls [.ref q9]) rfl ?_
      refine lv_astore (lv' := [(4, .ref q9), (0, .ref (Λ 0 0)), (1, .int x), (2, .int y), (3, .ref (Λ 9 0))]) hx hb dL_wish_24 hl (by decide) rfl (fun ls hl => ?_)
      refine lv_iconst (v := nI 2) hx hb dL_wish_26 (by decide) ?_
      have hcd : cd2 (isX x (σ 4 0)) (isI y 1 20) = 2 := cd2_2 hn8 hn9
      exact w_iret hx hb hr hlocks hX ⟨by rw [hcd], Λ, w9, by rw [hcd]; exact hF, rfl, rfl, fun z => by rw [hcd] at z; cases z⟩ ⟨Nat.le_of_ble_eq_true rfl, Nat.le_of_ble_eq_true rfl⟩ dL_wish_27
  obtain ⟨j, sz, hj, h1, h2, hxe, hye, rfl, hF2⟩ := q_2
  refine W.eq (g2 := F0 m 8 ls [.int (nI (fwG sz (σ 7 (σ 8 j)) (σ 10 j) (σ 11 j))), .int (nI 0), .ref (Λ 9 0)]) rfl ?_
  have hxNx : toN x = j := by rw [hxe]; exact toN_nI (by omega)
  have hxNy : toN y = sz := by rw [hye]; exact toN_nI (by omega)
  have hgb := fwG_le sz (σ 7 (σ 8 j)) (σ 10 j) (σ 11 j)
  refine n_if_eq (tgt := 15) hx hb (by omega) dL_wish_8 (by decide) (fun c_4 => ?_) (fun c_4 => ?_)
  · skip
    refine lv_lconst (v := 0) hx hb dL_wish_15 (by decide) ?_
    have f98 := hF2.out9
    refine n_lst1 hx hb hX f98 dL_wish_16 (fun H locs hX => ?_)
    obtain ⟨μ_5, e_6⟩ : ∃ z, z = va_up μ_1 (Λ 9 0) (some (cJ g (0 : Int64))) := ⟨_, rfl⟩
    rw [← e_6] at hX
    have hF3 := hF2.rec9 (v := (0 : Int64)) (μ' := μ_5) (by rw [e_6]; exact va_up_self _ _ _) (fun q n => by rw [e_6]; exact va_up_ne _ _ n)
    refine lv_goto (tgt := 28) hx hb dL_wish_17 (by decide) ?_
    refine lv_iconst (v := nI 0) hx hb dL_wish_28 (by decide) ?_
    have hcd : cd2 (isX x (σ 4 0)) (isI y 1 20) = 0 := cd2_0 (by rw [hxe]; exact (isX_nI (by omega)).mpr hj) (by rw [hye]; exact (isI_nI (by omega)).mpr ⟨by omega, by omega⟩)
    exact w_iret hx hb hr hlocks hX ⟨by rw [hcd], Λ, _, by rw [hcd, hxNx, hxNy]; exact hF3, rfl, rfl, fun _ => by rw [hxNx, hxNy, show fwG sz (σ 7 (σ 8 j)) (σ 10 j) (σ 11 j) = 0 by omega]; decide⟩ ⟨Nat.le_of_ble_eq_true rfl, Nat.le_of_ble_eq_true rfl⟩ dL_wish_29
  · skip
    refine lv_lconst (v := 1) hx hb dL_wish_11 (by decide) ?_
    refine lv_goto (tgt := 16) hx hb dL_wish_12 (by decide) ?_
    have f98 := hF2.out9
    refine n_lst1 hx hb hX f98 dL_wish_16 (fun H locs hX => ?_)
    obtain ⟨μ_7, e_8⟩ : ∃ z, z = va_up μ_1 (Λ 9 0) (some (cJ g (1 : Int64))) := ⟨_, rfl⟩
    rw [← e_8] at hX
    have hF3 := hF2.rec9 (v := (1 : Int64)) (μ' := μ_7) (by rw [e_8]; exact va_up_self _ _ _) (fun q n => by rw [e_8]; exact va_up_ne _ _ n)
    refine lv_goto (tgt := 28) hx hb dL_wish_17 (by decide) ?_
    refine lv_iconst (v := nI 0) hx hb dL_wish_28 (by decide) ?_
    have hcd : cd2 (isX x (σ 4 0)) (isI y 1 20) = 0 := cd2_0 (by rw [hxe]; exact (isX_nI (by omega)).mpr hj) (by rw [hye]; exact (isI_nI (by omega)).mpr ⟨by omega, by omega⟩)
    exact w_iret hx hb hr hlocks hX ⟨by rw [hcd], Λ, _, by rw [hcd, hxNx, hxNy]; exact hF3, rfl, rfl, fun _ => by rw [hxNx, hxNy, show fwG sz (σ 7 (σ 8 j)) (σ 10 j) (σ 11 j) = 1 by omega]; decide⟩ ⟨Nat.le_of_ble_eq_true rfl, Nat.le_of_ble_eq_true rfl⟩ dL_wish_29

