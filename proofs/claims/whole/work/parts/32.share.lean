/-! THE SHARE -/
def shv (σ : sSt) : UInt64 := if σ 1 0 + σ 2 0 = 0 then FP.dconst0 else FP.ddiv (FP.i2d (nI (σ 1 0))) (FP.i2d (nI (σ 1 0 + σ 2 0)))
theorem shq_nn {a b : Nat} (h1 : 0 < b) (h2 : b < 2 ^ 31) : Jvm.FP.Core.dIsNaN (FP.ddiv (FP.i2d (nI a)) (FP.i2d (nI b))) = false := by
  have hne : nI b ≠ 0 := nI_ne0 h1 h2
  exact Jvm.FP.Core.ddiv_out ((Jvm.FP.Core.notNaN_iff _).mpr (Jvm.FP.Core.i2d_fin _).ne_nan) (Jvm.FP.Core.i2d_fin _) (fun z => Jvm.FP.Core.i2d_ne_zero hne ((Jvm.FP.Core.zero_bits2 _).mp z))
theorem shq_n {a b : Nat} (h1 : 0 < b) (h2 : b < 2 ^ 31) : vf_n64 (FP.ddiv (FP.i2d (nI a)) (FP.i2d (nI b))) := Jvm.Free.Fl.noNaN64_no.mpr (shq_nn h1 h2)
theorem shv_c {σ : sSt} (hO : sOk σ) : FP.dcmp (shv σ) (shv σ) = some .eq := by
  have := hO.2.2.2.2.2.2
  unfold shv
  by_cases h : σ 1 0 + σ 2 0 = 0
  · rw [if_pos h]; decide +kernel
  · rw [if_neg h]; exact Jvm.FP.Core.dcmp_refl (shq_nn (by omega) (by omega))
theorem w_dret {p : Program} {l : Launch} {e : Env} {R : Room} {s : State} {m : MethodId} {args : Array Value} {below : List Frame} {meth : Method} {c : Code} {H : Heap} {locs : List Loc} {cells slots mc ms sz : Nat} {cc : ByteArray} {pc : Nat} {ls : Array Slot} {g : wG} {μ μ' : wMu} {post : Option Value → wMu → Prop}
    (hexec : p.tables.exec = Jvm.exec) (hb : c.code = cc) (hr : meth.sig.returnType = some .double) (hlocks : meth.locks = false) (hX : wX g (wA μ sz) s H locs μ') {v : UInt64} (hp : post (some (.double v)) μ') (hC : cells ≤ mc ∧ slots ≤ ms) (hdg : decode cc pc = .ok (.dreturn, 1)) :
    W p l e R s m args below meth c H locs cells slots (MQ below (wQc g μ sz post) args s mc ms (wA μ sz)) (F0 m pc ls [.double v]) :=
  W.widen hC.1 hC.2 (W.dret hexec hb hr (fun t ht hW => ⟨_, μ', rfl, hp, by rw [ht]; exact hX.P, hX.dom, hX.S.F ht⟩) hX.S.2.2 hdg hlocks)
set_option maxHeartbeats 4000000 in
set_option maxRecDepth 100000 in
/-- the share -/
theorem c_X2_share (l : Launch) (g : wG) (μ : wMu) (zz : Nat) {Λ σ : sSt} {xv : Option Int64} (hF : fD g Λ xv σ μ) (hO : sOk σ)  : wMet l yX2_share cX2_share 2 (some .double) 0 0 0 0 g [.ref (Λ 0 0)] μ zz (fun r μ' => r = some (.double (shv σ)) ∧ μ' = μ) := by
  refine wMet.of (by decide) (Nat.le_of_ble_eq_true rfl) ?_
  intro p e s m below meth c ls hx hb hr hml hown hlocks hin hl hsz hX
  have hl : lv_has ls 2 [(0, .ref (Λ 0 0))] := hl
  obtain ⟨f1, ⟨m1, f2⟩, ⟨m2, f3⟩, f4, f5, f6, f7, ⟨t1, t2, t3, t4, f8⟩, ⟨u1, u2, u3, u4, u5, f9⟩, f10, f11⟩ := id hF
  obtain ⟨o1, o2, o3, o4, o5, o6, o7⟩ := id hO
  refine lv_aload_n hx hb dX2_share_0 rfl (lv_at hl 0 rfl) ?_
  refine gX2_5 hx hb hX hown f1 kw113 dX2_share_1 ?_
  refine lv_aload_n hx hb dX2_share_4 rfl (lv_at hl 0 rfl) ?_
  refine gX2_6 hx hb hX hown f1 kw114 dX2_share_5 ?_
  refine n_iadd hx hb dX2_share_8 (nI_add _ _) ?_
  refine lv_istore_n (lv' := [(1, .int (nI ((σ 1 0) + (σ 2 0)))), (0, .ref (Λ 0 0))]) hx hb dX2_share_9 rfl hl (by decide) rfl (fun ls hl => ?_)
  refine lv_iload_n hx hb dX2_share_10 rfl (lv_at hl 0 rfl) ?_
  refine n_if_ne (tgt := 16) hx hb (by omega) dX2_share_11 (by decide) (fun c_1 => ?_) (fun c_1 => ?_)
  · skip
    refine lv_aload_n hx hb dX2_share_16 rfl (lv_at hl 1 rfl) ?_
    refine gX2_5 hx hb hX hown f1 kw113 dX2_share_17 ?_
    refine lv_i2d hx hb dX2_share_20 ?_
    refine lv_iload_n hx hb dX2_share_21 rfl (lv_at hl 0 rfl) ?_
    refine lv_i2d hx hb dX2_share_22 ?_
    refine lv_ddiv hx hb dX2_share_23 (shq_n (by omega) (by omega)) ?_
    exact w_dret hx hb hr hlocks hX ⟨by unfold shv; rw [if_neg (by omega)], rfl⟩ ⟨Nat.le_of_ble_eq_true rfl, Nat.le_of_ble_eq_true rfl⟩ dX2_share_24
  · skip
    refine lv_dconst0 hx hb dX2_share_14 ?_
    exact w_dret hx hb hr hlocks hX ⟨by unfold shv; rw [if_pos (by omega)], rfl⟩ ⟨Nat.le_of_ble_eq_true rfl, Nat.le_of_ble_eq_true rfl⟩ dX2_share_15

set_option maxHeartbeats 4000000 in
set_option maxRecDepth 100000 in
/-- the share -/
theorem c_X3_share (l : Launch) (g : wG) (μ : wMu) (zz : Nat) {Ω : Nat → Nat} {σ : sSt} {th : Nat} (hM : mD g Ω th σ μ) (hO : sOk σ)  : wMet l yX3_share cX3_share 2 (some .double) 0 0 0 0 g [.ref (Ω 0)] μ zz (fun r μ' => r = some (.double (shv σ)) ∧ mD g Ω 0 σ μ') := by
  refine wMet.of (by decide) (Nat.le_of_ble_eq_true rfl) ?_
  intro p e s m below meth c ls hx hb hr hml hown hlocks hin hl hsz hX
  have hl : lv_has ls 2 [(0, .ref (Ω 0))] := hl
  obtain ⟨r0, r5, r6, r7, r8, r9, r10, r11, r12, r13, hD⟩ := id hM
  obtain ⟨o1, o2, o3, o4, o5, o6, o7⟩ := id hO
  refine lv_aload_n hx hb dX3_share_0 rfl (lv_at hl 0 rfl) ?_
  refine lv_iconst (v := nI 0) hx hb dX3_share_1 (by decide) ?_
  refine pX3_0 hx hb hX hown r0 kw629 dX3_share_2 (fun H locs hX => ?_)
  obtain ⟨μ_1, e_2⟩ : ∃ z, z = va_up μ (Ω 0) (some (.inr (4, [.int (nI 0), .int (nI (σ 3 0)), .int (nI (σ 4 0)), .int (nI (σ 0 0)), .int (nI (σ 1 0)), .int (nI (σ 2 0)), .ref (Ω 5), .ref (Ω 6), .ref (Ω 7), .ref (Ω 8), .ref (Ω 9), .ref (Ω 10), .ref (Ω 11), .ref (Ω 12), .ref (Ω 13)]))) := ⟨_, rfl⟩
  rw [← e_2] at hX
  have k_3 : μ_1 (Ω 0) = some (.inr (4, [.int (nI 0), .int (nI (σ 3 0)), .int (nI (σ 4 0)), .int (nI (σ 0 0)), .int (nI (σ 1 0)), .int (nI (σ 2 0)), .ref (Ω 5), .ref (Ω 6), .ref (Ω 7), .ref (Ω 8), .ref (Ω 9), .ref (Ω 10), .ref (Ω 11), .ref (Ω 12), .ref (Ω 13)])) := by rw [e_2]; exact va_up_self _ _ _
  have k_4 := (congrFun e_2 (Ω 5)).trans ((va_up_ne _ _ (Ne.symm (kd_ne r0 r5 rfl))).trans r5)
  have k_5 := (congrFun e_2 (Ω 6)).trans ((va_up_ne _ _ (Ne.symm (kd_ne r0 r6 rfl))).trans r6)
  have k_6 := (congrFun e_2 (Ω 7)).trans ((va_up_ne _ _ (Ne.symm (kd_ne r0 r7 rfl))).trans r7)
  have k_7 := (congrFun e_2 (Ω 8)).trans ((va_up_ne _ _ (Ne.symm (kd_ne r0 r8 rfl))).trans r8)
  have k_8 := (congrFun e_2 (Ω 9)).trans ((va_up_ne _ _ (Ne.symm (kd_ne r0 r9 rfl))).trans r9)
  have k_9 := (congrFun e_2 (Ω 10)).trans ((va_up_ne _ _ (Ne.symm (kd_ne r0 r10 rfl))).trans r10)
  have k_10 := (congrFun e_2 (Ω 11)).trans ((va_up_ne _ _ (Ne.symm (kd_ne r0 r11 rfl))).trans r11)
  have k_11 := (congrFun e_2 (Ω 12)).trans ((va_up_ne _ _ (Ne.symm (kd_ne r0 r12 rfl))).trans r12)
  have k_12 := (congrFun e_2 (Ω 13)).trans ((va_up_ne _ _ (Ne.symm (kd_ne r0 r13 rfl))).trans r13)
  refine lv_aload_n hx hb dX3_share_5 rfl (lv_at hl 0 rfl) ?_
  refine gX3_4 hx hb hX hown k_3 kw633 dX3_share_6 ?_
  refine lv_aload_n hx hb dX3_share_9 rfl (lv_at hl 0 rfl) ?_
  refine gX3_5 hx hb hX hown k_3 kw634 dX3_share_10 ?_
  refine n_iadd hx hb dX3_share_13 (nI_add _ _) ?_
  refine lv_istore_n (lv' := [(1, .int (nI ((σ 1 0) + (σ 2 0)))), (0, .ref (Ω 0))]) hx hb dX3_share_14 rfl hl (by decide) rfl (fun ls hl => ?_)
  refine lv_iload_n hx hb dX3_share_15 rfl (lv_at hl 0 rfl) ?_
  refine n_if_ne (tgt := 23) hx hb (by omega) dX3_share_16 (by decide) (fun c_13 => ?_) (fun c_13 => ?_)
  · skip
    refine lv_aload_n hx hb dX3_share_23 rfl (lv_at hl 1 rfl) ?_
    refine gX3_4 hx hb hX hown k_3 kw633 dX3_share_24 ?_
    refine lv_i2d hx hb dX3_share_27 ?_
    refine lv_iload_n hx hb dX3_share_28 rfl (lv_at hl 0 rfl) ?_
    refine lv_i2d hx hb dX3_share_29 ?_
    refine lv_ddiv hx hb dX3_share_30 (shq_n (by omega) (by omega)) ?_
    exact w_dret hx hb hr hlocks hX ⟨by unfold shv; rw [if_neg (by omega)], ⟨k_3, k_4, k_5, k_6, k_7, k_8, k_9, k_10, k_11, k_12, hD⟩⟩ ⟨Nat.le_of_ble_eq_true rfl, Nat.le_of_ble_eq_true rfl⟩ dX3_share_31
  · skip
    refine lv_dconst0 hx hb dX3_share_19 ?_
    refine lv_goto (tgt := 31) hx hb dX3_share_20 (by decide) ?_
    exact w_dret hx hb hr hlocks hX ⟨by unfold shv; rw [if_pos (by omega)], ⟨k_3, k_4, k_5, k_6, k_7, k_8, k_9, k_10, k_11, k_12, hD⟩⟩ ⟨Nat.le_of_ble_eq_true rfl, Nat.le_of_ble_eq_true rfl⟩ dX3_share_31

set_option maxHeartbeats 4000000 in
set_option maxRecDepth 100000 in
/-- share -/
theorem lw_op_share {p : Program} {l : Launch} {e : Env} {s : State} {m : MethodId} {below : List Frame} {meth : Method} {c : Code} (hflt : l.stackTraces = false) {b L : Nat} {xs : Nat → Int32} (hL : L ≤ 2048) (C0 : lw_At p s m meth c b L xs) {g : wG} {d0 : Drawn} (hd0 : s.drawn.sameBut d0 lw_cs) {i : Nat} {H : Heap} {locs : List Loc} {ls : Array Slot} {cells slots : Nat} {Λ σ : sSt} {w9 : Int64} {Ω : Nat → Nat} {th : Nat} {μ ν : wMu} (hi : 4 * i + 4 ≤ L) (hg : gd σ i) (hF : fD g Λ (some w9) σ μ) (hM : mD g Ω th σ ν) (hdj : ∀ q, μ q ≠ none → ν q = none) (hX : wX g (lwA s) (s.setDrawn d0) H locs μ) (hY : wX g (lwA s) (s.setDrawn d0) H locs ν) (hc : cells ≤ 20 + 1000 * i) (hs : slots ≤ 200 + 10000 * i) (hl : lv_has ls 9 [(4, .int (nI (4 * i))), (3, .ref (Λ 9 0)), (2, .ref (Ω 0)), (1, .ref (Λ 0 0)), (0, .ref b)]) (kk : lwK p l e s m below meth c b g Ω i) : W p l e room_1 (s.setDrawn d0) m #[Value.ref b] below meth c H locs cells slots (lw_Z below #[Value.ref b] s) (F0 m 1554 ls []) := by
  obtain ⟨hx, hb, hr, hml, hown, hts, hXs, hbl, hlocks, hgv⟩ := id C0
  have hown : (s.setDrawn d0).vm.findClass "FairyDustLaw" = some m.cls := hown
  have hXs : va_X b L xs (s.setDrawn d0) s.heap := hXs
  have hbA : ¬ lwA s b := Nat.not_le.mpr hbl
  refine lv_aload_n hx hb dL_law_1554 rfl (lv_at hl 3 rfl) ?_
  refine w_callF (w_runV (n := 0) (As := []) (rest := []) hx hb hml hown hX (c_X2_share l g μ H.size hF hg.1) kw183 kw1 kw180 kw181 kw182 wn_X2_share rfl hF.1 rfl ⟨Nat.le_of_ble_eq_true rfl, Nat.le_of_ble_eq_true rfl⟩ hl.1 rfl (Nat.le_of_ble_eq_true rfl) dL_law_1555 ⟨(show _ ≤ 601024 by omega), (show _ ≤ 7293034 by omega)⟩) hX (fun r1 μ1 H1 locs1 q1 hX1 hz1 hfr1 hdm1 => ?_)
  obtain ⟨rfl, hF1⟩ := q1
  rw [hF1] at hX1 hdm1
  have hY1 := w_other hX1 hY hfr1 hdm1 hdj
  refine W.eq (g2 := F0 m 1558 ls [.double (shv σ)]) rfl ?_
  refine lv_dstore (lv' := [(5, .double (shv σ)), (4, .int (nI (4 * i))), (3, .ref (Λ 9 0)), (2, .ref (Ω 0)), (1, .ref (Λ 0 0)), (0, .ref b)]) hx hb dL_law_1558 hl (by decide) rfl (fun ls hl => ?_)
  refine lv_aload_n hx hb dL_law_1560 rfl (lv_at hl 3 rfl) ?_
  refine w_callF (w_runV (n := 0) (As := []) (rest := []) hx hb hml hown hY1.1 (c_X3_share l g ν H1.size hM hg.1) kw886 kw7 kw883 kw884 kw885 wn_X3_share rfl hM.1 rfl ⟨Nat.le_of_ble_eq_true rfl, Nat.le_of_ble_eq_true rfl⟩ hl.1 rfl (Nat.le_of_ble_eq_true rfl) dL_law_1561 ⟨(show _ ≤ 601024 by omega), (show _ ≤ 7293034 by omega)⟩) hY1.1 (fun r2 ν1 H2 locs2 q2 hY2 hz2 hfr2 hdm2 => ?_)
  obtain ⟨rfl, hM1⟩ := q2
  have hX2 := w_other hY2 hX1 hfr2 hdm2 (fun q h => Classical.byContradiction fun z => h (hY1.2 q z))
  refine W.eq (g2 := F0 m 1564 ls [.double (shv σ)]) rfl ?_
  refine lv_dstore (lv' := [(7, .double (shv σ)), (5, .double (shv σ)), (4, .int (nI (4 * i))), (3, .ref (Λ 9 0)), (2, .ref (Ω 0)), (1, .ref (Λ 0 0)), (0, .ref b)]) hx hb dL_law_1564 hl (by decide) rfl (fun ls hl => ?_)
  refine lv_dload hx hb dL_law_1566 (lv_at hl 1 rfl) ?_
  refine lv_dload hx hb dL_law_1568 (lv_at hl 0 rfl) ?_
  refine lv_dcmp hx hb dL_law_1570 ?_
  refine lv_if_eq (tgt := 1592) hx hb dL_law_1571 (by decide) (fun _ => ?_) (fun h => absurd (by rw [shv_c hg.1]; rfl) h)
  refine lv_goto (tgt := 1609) hx hb dL_law_1592 (by decide) ?_
  have hl := lv_sub (l' := [(4, .int (nI (4 * i))), (3, .ref (Λ 9 0)), (2, .ref (Ω 0)), (1, .ref (Λ 0 0)), (0, .ref b)]) hl [2, 3, 4, 5, 6] rfl
  exact kk d0 Λ σ w9 0 μ ν1 H2 locs2 ls _ _ hd0 hg.up hF hM1 (fun q h => Classical.byContradiction fun z => h (hX2.2 q z)) hX2.1 hY2 (by omega) (by omega) hl

