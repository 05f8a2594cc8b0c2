/-! THE SHARE -/
def shv (σ : sSt) : UInt64 := if σ 1 0 + σ 2 0 = 0 then FP.dconst0 else FP.ddiv (FP.i2d (nI (σ 1 0))) (FP.i2d (nI (σ 1 0 + σ 2 0)))
theorem shq_nn {a b : Nat} (h1 : 0 < b) (h2 : b < 2 ^ 31) : Jvm.FP.Core.dIsNaN (FP.ddiv (FP.i2d (nI a)) (FP.i2d (nI b))) = false := by
  have hne : nI b ≠ 0 := nI_ne0 h1 h2
  exact Jvm.FP.Core.ddiv_out ((Jvm.FP.Core.notNaN_iff _).mpr (Jvm.FP.Core.i2d_fin _).ne_nan) (Jvm.FP.Core.i2d_fin _) (fun z => Jvm.FP.Core.i2d_ne_zero hne ((Jvm.FP.Core.zero_bits2 _).mp z))
theorem shq_n {a b : Nat} (h1 : 0 < b) (h2 : b < 2 ^ 31) : vf_n64 (FP.ddiv (FP.i2d (nI a)) (FP.i2d (nI b))) := Jvm.Free.Fl.noNaN64_no.mpr (shq_nn h1 h2)
theorem shv_c {σ : sSt} (hO : sOk σ) : FP.dcmp (shv σ) (shv σ) = some .eq := by
  have := hO.2.2.2.2.2.2
  unfold shv
  by_cases h : σ 1 0 + σ 2 0 = 0
  · rw [if_pos h]; decide +kernel
  · rw [if_neg h]; exact Jvm.FP.Core.dcmp_refl (shq_nn (by omega) (by omega))
theorem w_dret {p : Program} {l : Launch} {e : Env} {R : Room} {s : State} {m : MethodId} {args : Array Value} {below : List Frame} {meth : Method} {c : Code} {H : Heap} {locs : List Loc} {cells slots mc ms sz : Nat} {cc : ByteArray} {pc : Nat} {ls : Array Slot} {g : wG} {μ μ' : wMu} {post : Option Value → wMu → Prop}
    (hexec : p.tables.exec = Jvm.exec) (hb : c.code = cc) (hr : meth.sig.returnType = some .double) (hlocks : meth.locks = false) (hX : wX g (wA μ sz) s H locs μ') {v : UInt64} (hp : post (some (.double v)) μ') (hC : cells ≤ mc ∧ slots ≤ ms) (hdg : decode cc pc = .ok (.dreturn, 1)) :
    W p l e R s m args below meth c H locs cells slots (MQ below (wQc g μ sz post) args s mc ms (wA μ sz)) (F0 m pc ls [.double v]) :=
  W.widen hC.1 hC.2 (W.dret hexec hb hr (fun t ht hW => ⟨_, μ', rfl, hp, by rw [ht]; exact hX.P, hX.dom, hX.S.F ht⟩) hX.S.2.2 hdg hlocks)
set_option maxHeartbeats 4000000 in
set_option maxRecDepth 100000 in
/-- the share -/
theorem c_X2_share (l : Launch) (g : wG) (μ : wMu) (zz : Nat) {Λ σ : sSt} {xv : Option Int64} (hF : fD g Λ xv σ μ) (hO : sOk σ)  : wMet l yX2_share cX2_share 2 (some .double) 0 0 0 0 g [.ref (Λ 0 0)] μ zz (fun r μ' => r = some (.double (shv σ)) ∧ μ' = μ) := by
  refine wMet.of (by decide) (Nat.le_of_ble_eq_true rfl) ?_
  intro p e s m below meth c ls hx hb hr hml hown hlocks hin hl hsz hX
  have hl : lv_has ls 2 [(0, .ref (Λ 0 0))] := hl
  obtain ⟨f1, ⟨m1, f2⟩, ⟨m2, f3⟩, f4, f5, f6, f7, ⟨t1, t2, t3, t4, f8⟩, ⟨u1, u2, u3, u4, u5, f9⟩, f10, f11⟩ := id hF
  obtain ⟨o1, o2, o3, o4, o5, o6, o7⟩ := id hO
  refine lv_aload_n hx hb dX2_share_0 rfl (lv_at hl 0 rfl) ?_
  refine gX2_5 hx hb hX hown f1 kw113 dX2_share_1 ?_
  refine lv_aload_n hx hb dX2_share_4 rfl (lv_at hl 0 rfl) ?_
  refine gX2_6 hx hb hX hown f1 kw114 dX2_share_5 ?_
  refine n_iadd hx hb dX2_share_8 (nI_add _ _) ?_
  refine lv_istore_n (lv' := [(1, .int (nI ((σ 1 0) + (σ 2 0)))), (0, .ref (Λ 0 0))]) hx hb dX2_share_9 rfl hl (by decide) rfl (fun ls hl => ?_)
  refine lv_iload_n hx hb dX2_share_10 rfl (lv_at hl 0 rfl) ?_
  refine n_if_ne (tgt := 16) hx hb (by omega) dX2_share_11 (by decide) (fun c_1 => ?_) (fun c_1 => ?_)
  · skip
    refine lv_aload_n hx hb dX2_share_16 rfl (lv_at hl 1 rfl) ?_
    refine gX2_5 hx hb hX hown f1 kw113 dX2_share_17 ?_
    refine lv_i2d hx hb dX2_share_20 ?_
    refine lv_iload_n hx hb dX2_share_21 rfl (lv_at hl 0 rfl) ?_
    refine lv_i2d hx hb dX2_share_22 ?_
    refine lv_ddiv hx hb dX2_share_23 (shq_n (by omega) (by omega)) ?_
    exact w_dret hx hb hr hlocks hX ⟨by unfold shv; rw [if_neg (by omega)], rfl⟩ ⟨Nat.le_of_ble_eq_true rfl, Nat.le_of_ble_eq_true rfl⟩ dX2_share_24
  · skip
    refine lv_dconst0 hx hb dX2_share_14 ?_
    exact w_dret hx hb hr hlocks hX ⟨by unfold shv; rw [if_pos (by omega)], rfl⟩ ⟨Nat.le_of_ble_eq_true rfl, Nat.le_of_ble_eq_true rfl⟩ dX2_share_15

set_option maxHeartbeats 4000000 in
set_option maxRecDepth 100000 in
/-- a wish -/
theorem c_X2_wish_g (l : Launch) (g : wG) (μ : wMu) (zz : Nat) {Λ σ : sSt} {xv : Option Int64} (hF : fD g Λ xv σ μ) (hO : sOk σ) {j sz : Nat} (hj : j < σ 4 0) (h1 : 1 ≤ sz) (h2 : sz ≤ 20) : wMet l yX2_wish cX2_wish 5 (some .boolean) 4 0 0 85 g [.ref (Λ 0 0), .int (nI j), .int (nI sz)] μ zz (fun r μ' => r = some (.int (nI (fwG sz (σ 7 (σ 8 j)) (σ 10 j) (σ 11 j)))) ∧ fD g Λ xv (nWis σ j sz) μ') := by
  refine wMet.of (by decide) (Nat.le_of_ble_eq_true rfl) ?_
  intro p e s m below meth c ls hx hb hr hml hown hlocks hin hl hsz hX
  have hl : lv_has ls 5 [(0, .ref (Λ 0 0)), (1, .int (nI j)), (2, .int (nI sz))] := hl
  obtain ⟨f1, ⟨m1, f2⟩, ⟨m2, f3⟩, f4, f5, f6, f7, ⟨t1, t2, t3, t4, f8⟩, ⟨u1, u2, u3, u4, u5, f9⟩, f10, f11⟩ := id hF
  obtain ⟨o1, o2, o3, o4, o5, o6, o7⟩ := id hO
  refine lv_aload_n hx hb dX2_wish_0 rfl (lv_at hl 0 rfl) ?_
  refine lv_iload_n hx hb dX2_wish_1 rfl (lv_at hl 1 rfl) ?_
  refine w_call (w_runV (n := 1) (As := [.int (nI j)]) (rest := []) hx hb hml hown hX (c_X2_childAt_g l g μ s.heap.size hF hO hj) kw137 kw1 kw134 kw136 kp0 wn_X2_childAt rfl f1 rfl ⟨Nat.le_of_ble_eq_true rfl, Nat.le_of_ble_eq_true rfl⟩ hl.1 rfl (Nat.le_of_ble_eq_true rfl) dX2_wish_2 ⟨Nat.le_of_ble_eq_true rfl, Nat.le_of_ble_eq_true rfl⟩) hX (fun r_3 μ_1 H locs q_2 hX hz => ?_)
  obtain ⟨rfl, e_4⟩ := q_2
  rw [e_4] at hX
  refine W.eq (g2 := F0 m 5 ls [.ref (Λ 8 j)]) rfl ?_
  have kc_5 := f7 j hj
  have kc_5b := o4 j hj
  have kw_6 := f6 (σ 8 j) kc_5b.1
  have kw_6b := o3 (σ 8 j) kc_5b.1
  refine lv_astore_n (lv' := [(3, .ref (Λ 8 j)), (0, .ref (Λ 0 0)), (1, .int (nI j)), (2, .int (nI sz))]) hx hb dX2_wish_5 rfl hl (by decide) rfl (fun ls hl => ?_)
  refine lv_iload_n hx hb dX2_wish_6 rfl (lv_at hl 3 rfl) ?_
  refine w_call (w_runS (n := 1) (As := [.int (nI sz)]) (rest := []) hx hb hml hown hX (c_X2_needSize_g l g μ H.size h1 h2) kw226 kw1 kw224 kw225 wn_X2_needSize rfl ⟨Nat.le_of_ble_eq_true rfl, Nat.le_of_ble_eq_true rfl⟩ hl.1 rfl (Nat.le_of_ble_eq_true rfl) dX2_wish_7 ⟨Nat.le_of_ble_eq_true rfl, Nat.le_of_ble_eq_true rfl⟩) hX (fun r_9 μ_7 H locs q_8 hX hz => ?_)
  obtain ⟨rfl, e_10⟩ := q_8
  rw [e_10] at hX
  refine W.eq (g2 := F0 m 10 ls []) rfl ?_
  refine lv_aload_n hx hb dX2_wish_10 rfl (lv_at hl 0 rfl) ?_
  refine lv_iload_n hx hb dX2_wish_11 rfl (lv_at hl 3 rfl) ?_
  refine w_call (w_runVN (n := 1) (As := [.int (nI sz)]) (rest := []) hx hb hml hown hX (c_X0_makeWish l g μ H.size kc_5 kw_6 (kd_ne kc_5 kw_6 rfl) (by omega) (by omega) (by omega) (by omega) (by omega) h1 h2) kw249 kw6 kw246 kw248 kp2 wn_X0_makeWish rfl kc_5 rfl ⟨Nat.le_of_ble_eq_true rfl, Nat.le_of_ble_eq_true rfl⟩ hl.1 rfl (Nat.le_of_ble_eq_true rfl) dX2_wish_12 ⟨Nat.le_of_ble_eq_true rfl, Nat.le_of_ble_eq_true rfl⟩) hX (fun r_13 μ_11 H locs q_12 hX hz => ?_)
  obtain ⟨rfl, k1, k2, k3⟩ := q_12
  have hF2 : fD g Λ xv (nWi0 σ j sz) μ_11 := hF.cw1 hj kc_5b.1 (by rw [k1]; simp [cC, nWi0, up2]) (by rw [k2]; simp [cW, nWi0, up2]) k3 (fun f k a b => nWi0_o σ j sz a b)
  have kx := (k3 _ (kd_ne f1 kc_5 rfl) (kd_ne f1 kw_6 rfl)).trans f1
  have hgb := fwG_le sz (σ 7 (σ 8 j)) (σ 10 j) (σ 11 j)
  refine W.eq (g2 := F0 m 15 ls [.int (nI (fwG sz (σ 7 (σ 8 j)) (σ 10 j) (σ 11 j)))]) rfl ?_
  refine lv_istore (lv' := [(4, .int (nI (fwG sz (σ 7 (σ 8 j)) (σ 10 j) (σ 11 j)))), (3, .ref (Λ 8 j)), (0, .ref (Λ 0 0)), (1, .int (nI j)), (2, .int (nI sz))]) hx hb dX2_wish_15 hl (by decide) rfl (fun ls hl => ?_)
  refine lv_iload hx hb dX2_wish_17 (lv_at hl 0 rfl) ?_
  refine n_if_eq (tgt := 35) hx hb (by omega) dX2_wish_19 (by decide) (fun c_14 => ?_) (fun c_14 => ?_)
  · skip
    refine lv_aload_n hx hb dX2_wish_35 rfl (lv_at hl 2 rfl) ?_
    refine lv_dup hx hb dX2_wish_36 rfl ?_
    refine gX2_6 hx hb hX hown kx kw114 dX2_wish_37 ?_
    refine lv_iconst (v := nI 1) hx hb dX2_wish_40 (by decide) ?_
    refine n_iadd hx hb dX2_wish_41 (nI_add _ _) ?_
    refine pX2_6 hx hb hX hown kx kw114 dX2_wish_42 (fun H locs hX => ?_)
    obtain ⟨μ_15, e_16⟩ : ∃ z, z = va_up μ_11 (Λ 0 0) (some (.inr (3, [.ref (Λ 1 0), .ref (Λ 2 0), .ref (Λ 5 0), .ref (Λ 6 0), .int (nI (σ 0 0)), .int (nI (σ 1 0)), .int (nI ((σ 2 0) + 1))]))) := ⟨_, rfl⟩
    rw [← e_16] at hX
    have k_17 : μ_15 (Λ 0 0) = some (.inr (3, [.ref (Λ 1 0), .ref (Λ 2 0), .ref (Λ 5 0), .ref (Λ 6 0), .int (nI (σ 0 0)), .int (nI (σ 1 0)), .int (nI ((σ 2 0) + 1))])) := by rw [e_16]; exact va_up_self _ _ _
    refine lv_iload hx hb dX2_wish_45 (lv_at hl 0 rfl) ?_
    exact w_zret hx hb hr hlocks hX (zret_fwG _ _ _ _) ⟨rfl, by rw [nWis_n (by omega)]; exact hF2.x1 (by rw [k_17]; simp [cF, nWi0, up2]) (fun q n => by rw [e_16, va_up_ne _ _ n]) (fun f k h => if_neg (fun z => h ⟨by omega, z.2⟩))⟩ ⟨Nat.le_of_ble_eq_true rfl, Nat.le_of_ble_eq_true rfl⟩ dX2_wish_47
  · skip
    refine lv_aload_n hx hb dX2_wish_22 rfl (lv_at hl 2 rfl) ?_
    refine lv_dup hx hb dX2_wish_23 rfl ?_
    refine gX2_5 hx hb hX hown kx kw113 dX2_wish_24 ?_
    refine lv_iconst (v := nI 1) hx hb dX2_wish_27 (by decide) ?_
    refine n_iadd hx hb dX2_wish_28 (nI_add _ _) ?_
    refine pX2_5 hx hb hX hown kx kw113 dX2_wish_29 (fun H locs hX => ?_)
    obtain ⟨μ_18, e_19⟩ : ∃ z, z = va_up μ_11 (Λ 0 0) (some (.inr (3, [.ref (Λ 1 0), .ref (Λ 2 0), .ref (Λ 5 0), .ref (Λ 6 0), .int (nI (σ 0 0)), .int (nI ((σ 1 0) + 1)), .int (nI (σ 2 0))]))) := ⟨_, rfl⟩
    rw [← e_19] at hX
    have k_20 : μ_18 (Λ 0 0) = some (.inr (3, [.ref (Λ 1 0), .ref (Λ 2 0), .ref (Λ 5 0), .ref (Λ 6 0), .int (nI (σ 0 0)), .int (nI ((σ 1 0) + 1)), .int (nI (σ 2 0))])) := by rw [e_19]; exact va_up_self _ _ _
    refine lv_goto (tgt := 45) hx hb dX2_wish_32 (by decide) ?_
    refine lv_iload hx hb dX2_wish_45 (lv_at hl 0 rfl) ?_
    exact w_zret hx hb hr hlocks hX (zret_fwG _ _ _ _) ⟨rfl, by rw [nWis_y (by omega)]; exact hF2.x1 (by rw [k_20]; simp [cF, nWi0, up2]) (fun q n => by rw [e_19, va_up_ne _ _ n]) (fun f k h => if_neg (fun z => h ⟨by omega, z.2⟩))⟩ ⟨Nat.le_of_ble_eq_true rfl, Nat.le_of_ble_eq_true rfl⟩ dX2_wish_47

set_option maxHeartbeats 4000000 in
set_option maxRecDepth 100000 in
/-- hours go by -/
theorem c_X2_pass_g (l : Launch) (g : wG) (μ : wMu) (zz : Nat) {Λ σ : sSt} {xv : Option Int64} (hF : fD g Λ xv σ μ) (hO : sOk σ) (h9 : σ 0 0 ≤ 51900) {b : Nat} (h1 : 1 ≤ b) (h2 : b ≤ 100) : wMet l yX2_pass cX2_pass 4 (some .int) 4 0 0 86 g [.ref (Λ 0 0), .int (nI b)] μ zz (fun r μ' => r = some (.int (nI (sFal σ b (σ 3 0)))) ∧ fD g Λ xv (nPas σ b) μ') := by
  refine wMet.of (by decide) (Nat.le_of_ble_eq_true rfl) ?_
  intro p e s m below meth c ls hx hb hr hml hown hlocks hin hl hsz hX
  have hl : lv_has ls 4 [(0, .ref (Λ 0 0)), (1, .int (nI b))] := hl
  obtain ⟨f1, ⟨m1, f2⟩, ⟨m2, f3⟩, f4, f5, f6, f7, ⟨t1, t2, t3, t4, f8⟩, ⟨u1, u2, u3, u4, u5, f9⟩, f10, f11⟩ := id hF
  obtain ⟨o1, o2, o3, o4, o5, o6, o7⟩ := id hO
  refine lv_iload_n hx hb dX2_pass_0 rfl (lv_at hl 1 rfl) ?_
  refine lv_iconst (v := nI 1) hx hb dX2_pass_1 (by decide) ?_
  refine lv_bipush (v := nI 100) hx hb dX2_pass_2 (by decide) ?_
  refine w_call (w_runS (n := 3) (As := [.int (nI b), .int (nI 1), .int (nI 100)]) (rest := []) hx hb hml hown hX (c_X2_needWithin_g l g μ s.heap.size h1 h2 (by omega)) kw229 kw1 kw227 kw228 wn_X2_needWithin rfl ⟨Nat.le_of_ble_eq_true rfl, Nat.le_of_ble_eq_true rfl⟩ hl.1 rfl (Nat.le_of_ble_eq_true rfl) dX2_pass_4 ⟨Nat.le_of_ble_eq_true rfl, Nat.le_of_ble_eq_true rfl⟩) hX (fun r_3 μ_1 H locs q_2 hX hz => ?_)
  obtain ⟨rfl, e_4⟩ := q_2
  rw [e_4] at hX
  refine W.eq (g2 := F0 m 7 ls []) rfl ?_
  refine lv_iconst (v := nI 0) hx hb dX2_pass_7 (by decide) ?_
  refine lv_istore_n (lv' := [(2, .int (nI 0)), (0, .ref (Λ 0 0)), (1, .int (nI b))]) hx hb dX2_pass_8 rfl hl (by decide) rfl (fun ls hl => ?_)
  refine lv_iconst (v := nI 0) hx hb dX2_pass_9 (by decide) ?_
  refine lv_istore_n (lv' := [(3, .int (nI 0)), (2, .int (nI 0)), (0, .ref (Λ 0 0)), (1, .int (nI b))]) hx hb dX2_pass_10 rfl hl (by decide) rfl (fun ls hl => ?_)
  have hloop : ∀ (n : Nat) (i : Nat) (ν : wMu) (H : Heap) (locs : List Loc) (ls : Array Slot), b < i + n → i ≤ b → fD g Λ xv (nPas σ i) ν → wX g (wA μ zz) s H locs ν → lv_has ls 4 [(3, .int (nI i)), (2, .int (nI (sFal σ i (σ 3 0)))), (0, .ref (Λ 0 0)), (1, .int (nI b))] → W p l e ({ frames := 4, cells := 0, slots := 0, locals := 86 } : Room) s m ([.ref (Λ 0 0), .int (nI b)] : List Value).toArray below meth c H locs 0 0 (MQ below (wQc g μ zz (fun r μ' => r = some (.int (nI (sFal σ b (σ 3 0)))) ∧ fD g Λ xv (nPas σ b) μ')) ([.ref (Λ 0 0), .int (nI b)] : List Value).toArray s 0 0 (wA μ zz)) (F0 m 11 ls []) := by
    intro n
    induction n with
    | zero => intro i ν H locs ls hn hi hF hX hl; exact absurd hn (by omega)
    | succ n ih =>
      intro i ν H locs ls hn hi hF hX hl
      refine lv_iload_n hx hb dX2_pass_11 rfl (lv_at hl 0 rfl) ?_
      refine lv_iload_n hx hb dX2_pass_12 rfl (lv_at hl 3 rfl) ?_
      refine n_ge (tgt := 29) hx hb (by omega) (by omega) dX2_pass_13 (by decide) (fun c_5 => ?_) (fun c_5 => ?_)
      · skip
        refine lv_iload_n hx hb dX2_pass_29 rfl (lv_at hl 1 rfl) ?_
        obtain rfl : i = b := by omega
        exact w_iret hx hb hr hlocks hX ⟨rfl, hF⟩ ⟨Nat.le_of_ble_eq_true rfl, Nat.le_of_ble_eq_true rfl⟩ dX2_pass_30
      · skip
        refine lv_iload_n hx hb dX2_pass_16 rfl (lv_at hl 1 rfl) ?_
        refine lv_aload_n hx hb dX2_pass_17 rfl (lv_at hl 2 rfl) ?_
        refine w_call (w_runV (n := 0) (As := []) (rest := [.int (nI (sFal σ i (σ 3 0)))]) hx hb hml hown hX (c_X2_passOneHour l g ν H.size hF (hO.pas (by omega))) kw287 kw1 kw284 kw286 kp9 wn_X2_passOneHour rfl hF.1 rfl ⟨Nat.le_of_ble_eq_true rfl, Nat.le_of_ble_eq_true rfl⟩ hl.1 rfl (Nat.le_of_ble_eq_true rfl) dX2_pass_18 ⟨Nat.le_of_ble_eq_true rfl, Nat.le_of_ble_eq_true rfl⟩) hX (fun r_8 μ_6 H locs q_7 hX hz => ?_)
        obtain ⟨rfl, hF2⟩ := q_7
        rw [nPas_s] at hF2
        refine W.eq (g2 := F0 m 21 ls [.int (nI (sFal (nPas σ i) 1 (nPas σ i 3 0))), .int (nI (sFal σ i (σ 3 0)))]) rfl ?_
        refine n_iadd hx hb dX2_pass_21 (nI_add _ _) ?_
        refine lv_istore_n (lv' := [(2, .int (nI ((sFal σ i (σ 3 0)) + (sFal (nPas σ i) 1 (nPas σ i 3 0))))), (3, .int (nI i)), (0, .ref (Λ 0 0)), (1, .int (nI b))]) hx hb dX2_pass_22 rfl hl (by decide) rfl (fun ls hl => ?_)
        refine lv_iinc (v := nI (i + 1)) (lv' := [(3, .int (nI (i + 1))), (2, .int (nI ((sFal σ i (σ 3 0)) + (sFal (nPas σ i) 1 (nPas σ i 3 0))))), (0, .ref (Λ 0 0)), (1, .int (nI b))]) hx hb dX2_pass_23 hl (k := 1) rfl (nI_inc _) (by decide) rfl (fun ls hl => ?_)
        refine lv_goto (tgt := 11) hx hb dX2_pass_26 (by decide) ?_
        rw [show sFal σ i (σ 3 0) + sFal (nPas σ i) 1 (nPas σ i 3 0) = sFal σ (i + 1) (σ 3 0) by rw [nPas_o σ (show _ by omega : ¬ ((3 : Nat) = 0 ∧ 0 = 0) ∧ _)]; exact sFal_s hO i _ (Nat.le_refl _)] at hl
        refine ih (i + 1) _ H locs ls (by omega) (by omega) hF2 hX ?_
        exact lv_sub hl [0, 1, 2, 3] rfl
  exact hloop (b + 1) 0 μ H _ ls (by omega) (by omega) (by rw [nPas_0 hO]; exact hF) hX (by rw [sFal_0 hO (σ 3 0) (Nat.le_refl _)]; exact hl)

set_option maxHeartbeats 4000000 in
set_option maxRecDepth 100000 in
/-- another wand -/
theorem c_X2_give_g (l : Launch) (g : wG) (μ : wMu) (zz : Nat) {Λ σ : sSt} {xv : Option Int64} (hF : fD g Λ xv σ μ) (hO : sOk σ) {j i : Nat} (hj : j < σ 4 0) (hi : i < σ 3 0) : wMet l yX2_give cX2_give 6 (some .int) 4 0 0 85 g [.ref (Λ 0 0), .int (nI j), .int (nI i)] μ zz (fun r μ' => r = some (.int (nI (σ 8 j))) ∧ fD g Λ xv (up2 σ 8 j i) μ') := by
  refine wMet.of (by decide) (Nat.le_of_ble_eq_true rfl) ?_
  intro p e s m below meth c ls hx hb hr hml hown hlocks hin hl hsz hX
  have hl : lv_has ls 6 [(0, .ref (Λ 0 0)), (1, .int (nI j)), (2, .int (nI i))] := hl
  obtain ⟨f1, ⟨m1, f2⟩, ⟨m2, f3⟩, f4, f5, f6, f7, ⟨t1, t2, t3, t4, f8⟩, ⟨u1, u2, u3, u4, u5, f9⟩, f10, f11⟩ := id hF
  obtain ⟨o1, o2, o3, o4, o5, o6, o7⟩ := id hO
  refine lv_aload_n hx hb dX2_give_0 rfl (lv_at hl 0 rfl) ?_
  refine lv_iload_n hx hb dX2_give_1 rfl (lv_at hl 1 rfl) ?_
  refine w_call (w_runV (n := 1) (As := [.int (nI j)]) (rest := []) hx hb hml hown hX (c_X2_childAt_g l g μ s.heap.size hF hO hj) kw137 kw1 kw134 kw136 kp0 wn_X2_childAt rfl f1 rfl ⟨Nat.le_of_ble_eq_true rfl, Nat.le_of_ble_eq_true rfl⟩ hl.1 rfl (Nat.le_of_ble_eq_true rfl) dX2_give_2 ⟨Nat.le_of_ble_eq_true rfl, Nat.le_of_ble_eq_true rfl⟩) hX (fun r_3 μ_1 H locs q_2 hX hz => ?_)
  obtain ⟨rfl, e_4⟩ := q_2
  rw [e_4] at hX
  refine W.eq (g2 := F0 m 5 ls [.ref (Λ 8 j)]) rfl ?_
  have kc_5 := f7 j hj
  have kc_5b := o4 j hj
  have kw_6 := f6 (σ 8 j) kc_5b.1
  have kw_6b := o3 (σ 8 j) kc_5b.1
  refine lv_astore_n (lv' := [(3, .ref (Λ 8 j)), (0, .ref (Λ 0 0)), (1, .int (nI j)), (2, .int (nI i))]) hx hb dX2_give_5 rfl hl (by decide) rfl (fun ls hl => ?_)
  refine lv_aload_n hx hb dX2_give_6 rfl (lv_at hl 1 rfl) ?_
  refine lv_iload_n hx hb dX2_give_7 rfl (lv_at hl 3 rfl) ?_
  refine w_call (w_runV (n := 1) (As := [.int (nI i)]) (rest := []) hx hb hml hown hX (c_X2_wandAt_g l g μ H.size hF hO hi) kw337 kw1 kw334 kw336 kp13 wn_X2_wandAt rfl f1 rfl ⟨Nat.le_of_ble_eq_true rfl, Nat.le_of_ble_eq_true rfl⟩ hl.1 rfl (Nat.le_of_ble_eq_true rfl) dX2_give_8 ⟨Nat.le_of_ble_eq_true rfl, Nat.le_of_ble_eq_true rfl⟩) hX (fun r_9 μ_7 H locs q_8 hX hz => ?_)
  obtain ⟨rfl, e_10⟩ := q_8
  rw [e_10] at hX
  refine W.eq (g2 := F0 m 11 ls [.ref (Λ 7 i)]) rfl ?_
  refine lv_astore (lv' := [(4, .ref (Λ 7 i)), (3, .ref (Λ 8 j)), (0, .ref (Λ 0 0)), (1, .int (nI j)), (2, .int (nI i))]) hx hb dX2_give_11 hl (by decide) rfl (fun ls hl => ?_)
  refine lv_aload_n hx hb dX2_give_13 rfl (lv_at hl 1 rfl) ?_
  refine gnX0_0 hx hb hX hown kc_5 kw84 dX2_give_14 ?_
  refine gnX1_0 hx hb hX hown kw_6 kw61 dX2_give_17 ?_
  refine lv_istore (lv' := [(5, .int (nI (σ 8 j))), (4, .ref (Λ 7 i)), (3, .ref (Λ 8 j)), (0, .ref (Λ 0 0)), (1, .int (nI j)), (2, .int (nI i))]) hx hb dX2_give_20 hl (by decide) rfl (fun ls hl => ?_)
  refine lv_aload_n hx hb dX2_give_22 rfl (lv_at hl 2 rfl) ?_
  refine lv_aload hx hb dX2_give_23 (lv_at hl 1 rfl) ?_
  refine pnX0_0 hx hb hX hown kc_5 kw84 dX2_give_25 (fun H locs hX => ?_)
  obtain ⟨μ_11, e_12⟩ : ∃ z, z = va_up μ (Λ 8 j) (some (.inr (1, [.ref (Λ 7 i), .int (nI (σ 9 j)), .int (nI (σ 10 j)), .int (nI (σ 11 j)), .int (nI (σ 12 j)), .int (nI (σ 13 j))]))) := ⟨_, rfl⟩
  rw [← e_12] at hX
  have k_13 : μ_11 (Λ 8 j) = some (.inr (1, [.ref (Λ 7 i), .int (nI (σ 9 j)), .int (nI (σ 10 j)), .int (nI (σ 11 j)), .int (nI (σ 12 j)), .int (nI (σ 13 j))])) := by rw [e_12]; exact va_up_self _ _ _
  refine lv_iload hx hb dX2_give_28 (lv_at hl 0 rfl) ?_
  exact w_iret hx hb hr hlocks hX ⟨rfl, hF.c1 hj (by rw [k_13]; simp [cC, up2]) (fun q n => by rw [e_12, va_up_ne _ _ n]) (fun f k h => if_neg (fun z => h ⟨by omega, by omega, z.2⟩))⟩ ⟨Nat.le_of_ble_eq_true rfl, Nat.le_of_ble_eq_true rfl⟩ dX2_give_30

set_option maxHeartbeats 4000000 in
set_option maxRecDepth 100000 in
/-- another fall -/
theorem c_X2_setFall_g (l : Launch) (g : wG) (μ : wMu) (zz : Nat) {Λ σ : sSt} {xv : Option Int64} (hF : fD g Λ xv σ μ) (hO : sOk σ) {i b : Nat} (hi : i < σ 3 0) (h2 : b ≤ 9) : wMet l yX2_setFall cX2_setFall 5 (some .int) 4 0 0 85 g [.ref (Λ 0 0), .int (nI i), .int (nI b)] μ zz (fun r μ' => r = some (.int (nI (σ 6 i))) ∧ fD g Λ xv (up2 σ 6 i b) μ') := by
  refine wMet.of (by decide) (Nat.le_of_ble_eq_true rfl) ?_
  intro p e s m below meth c ls hx hb hr hml hown hlocks hin hl hsz hX
  have hl : lv_has ls 5 [(0, .ref (Λ 0 0)), (1, .int (nI i)), (2, .int (nI b))] := hl
  obtain ⟨f1, ⟨m1, f2⟩, ⟨m2, f3⟩, f4, f5, f6, f7, ⟨t1, t2, t3, t4, f8⟩, ⟨u1, u2, u3, u4, u5, f9⟩, f10, f11⟩ := id hF
  obtain ⟨o1, o2, o3, o4, o5, o6, o7⟩ := id hO
  refine lv_aload_n hx hb dX2_setFall_0 rfl (lv_at hl 0 rfl) ?_
  refine lv_iload_n hx hb dX2_setFall_1 rfl (lv_at hl 1 rfl) ?_
  refine w_call (w_runV (n := 1) (As := [.int (nI i)]) (rest := []) hx hb hml hown hX (c_X2_wandAt_g l g μ s.heap.size hF hO hi) kw337 kw1 kw334 kw336 kp13 wn_X2_wandAt rfl f1 rfl ⟨Nat.le_of_ble_eq_true rfl, Nat.le_of_ble_eq_true rfl⟩ hl.1 rfl (Nat.le_of_ble_eq_true rfl) dX2_setFall_2 ⟨Nat.le_of_ble_eq_true rfl, Nat.le_of_ble_eq_true rfl⟩) hX (fun r_3 μ_1 H locs q_2 hX hz => ?_)
  obtain ⟨rfl, e_4⟩ := q_2
  rw [e_4] at hX
  refine W.eq (g2 := F0 m 5 ls [.ref (Λ 7 i)]) rfl ?_
  have kw_5 := f6 i hi
  have kw_5b := o3 i hi
  refine lv_astore_n (lv' := [(3, .ref (Λ 7 i)), (0, .ref (Λ 0 0)), (1, .int (nI i)), (2, .int (nI b))]) hx hb dX2_setFall_5 rfl hl (by decide) rfl (fun ls hl => ?_)
  refine lv_iload_n hx hb dX2_setFall_6 rfl (lv_at hl 3 rfl) ?_
  refine lv_iconst (v := nI 0) hx hb dX2_setFall_7 (by decide) ?_
  refine lv_bipush (v := nI 9) hx hb dX2_setFall_8 (by decide) ?_
  refine w_call (w_runS (n := 3) (As := [.int (nI b), .int (nI 0), .int (nI 9)]) (rest := []) hx hb hml hown hX (c_X2_needWithin_g l g μ H.size (Nat.zero_le _) h2 (by omega)) kw229 kw1 kw227 kw228 wn_X2_needWithin rfl ⟨Nat.le_of_ble_eq_true rfl, Nat.le_of_ble_eq_true rfl⟩ hl.1 rfl (Nat.le_of_ble_eq_true rfl) dX2_setFall_10 ⟨Nat.le_of_ble_eq_true rfl, Nat.le_of_ble_eq_true rfl⟩) hX (fun r_8 μ_6 H locs q_7 hX hz => ?_)
  obtain ⟨rfl, e_9⟩ := q_7
  rw [e_9] at hX
  refine W.eq (g2 := F0 m 13 ls []) rfl ?_
  refine lv_aload_n hx hb dX2_setFall_13 rfl (lv_at hl 0 rfl) ?_
  refine gnX1_2 hx hb hX hown kw_5 kw64 dX2_setFall_14 ?_
  refine lv_istore (lv' := [(4, .int (nI (σ 6 i))), (3, .ref (Λ 7 i)), (0, .ref (Λ 0 0)), (1, .int (nI i)), (2, .int (nI b))]) hx hb dX2_setFall_17 hl (by decide) rfl (fun ls hl => ?_)
  refine lv_aload_n hx hb dX2_setFall_19 rfl (lv_at hl 1 rfl) ?_
  refine lv_iload_n hx hb dX2_setFall_20 rfl (lv_at hl 4 rfl) ?_
  refine pnX1_2 hx hb hX hown kw_5 kw64 dX2_setFall_21 (fun H locs hX => ?_)
  obtain ⟨μ_10, e_11⟩ : ∃ z, z = va_up μ (Λ 7 i) (some (.inr (2, [.int (nI i), .int (nI (σ 5 i)), .int (nI b), .int (nI (σ 7 i))]))) := ⟨_, rfl⟩
  rw [← e_11] at hX
  have k_12 : μ_10 (Λ 7 i) = some (.inr (2, [.int (nI i), .int (nI (σ 5 i)), .int (nI b), .int (nI (σ 7 i))])) := by rw [e_11]; exact va_up_self _ _ _
  refine lv_iload hx hb dX2_setFall_24 (lv_at hl 0 rfl) ?_
  exact w_iret hx hb hr hlocks hX ⟨rfl, hF.w1 hi (by rw [k_12]; simp [cW, up2]) (fun q n => by rw [e_11, va_up_ne _ _ n]) (fun f k h => if_neg (fun z => h ⟨by omega, by omega, z.2⟩))⟩ ⟨Nat.le_of_ble_eq_true rfl, Nat.le_of_ble_eq_true rfl⟩ dX2_setFall_26

set_option maxHeartbeats 4000000 in
set_option maxRecDepth 100000 in
/-- forgiven -/
theorem c_X2_forgive_g (l : Launch) (g : wG) (μ : wMu) (zz : Nat) {Λ σ : sSt} {xv : Option Int64} (hF : fD g Λ xv σ μ) (hO : sOk σ) {j : Nat} (hj : j < σ 4 0) : wMet l yX2_forgive cX2_forgive 2 (some .int) 4 0 0 85 g [.ref (Λ 0 0), .int (nI j)] μ zz (fun r μ' => r = some (.int (nI (σ 11 j))) ∧ fD g Λ xv (nFor σ j) μ') := by
  refine wMet.of (by decide) (Nat.le_of_ble_eq_true rfl) ?_
  intro p e s m below meth c ls hx hb hr hml hown hlocks hin hl hsz hX
  have hl : lv_has ls 2 [(0, .ref (Λ 0 0)), (1, .int (nI j))] := hl
  obtain ⟨f1, ⟨m1, f2⟩, ⟨m2, f3⟩, f4, f5, f6, f7, ⟨t1, t2, t3, t4, f8⟩, ⟨u1, u2, u3, u4, u5, f9⟩, f10, f11⟩ := id hF
  obtain ⟨o1, o2, o3, o4, o5, o6, o7⟩ := id hO
  refine lv_aload_n hx hb dX2_forgive_0 rfl (lv_at hl 0 rfl) ?_
  refine lv_iload_n hx hb dX2_forgive_1 rfl (lv_at hl 1 rfl) ?_
  refine w_call (w_runV (n := 1) (As := [.int (nI j)]) (rest := []) hx hb hml hown hX (c_X2_childAt_g l g μ s.heap.size hF hO hj) kw137 kw1 kw134 kw136 kp0 wn_X2_childAt rfl f1 rfl ⟨Nat.le_of_ble_eq_true rfl, Nat.le_of_ble_eq_true rfl⟩ hl.1 rfl (Nat.le_of_ble_eq_true rfl) dX2_forgive_2 ⟨Nat.le_of_ble_eq_true rfl, Nat.le_of_ble_eq_true rfl⟩) hX (fun r_3 μ_1 H locs q_2 hX hz => ?_)
  obtain ⟨rfl, e_4⟩ := q_2
  rw [e_4] at hX
  refine W.eq (g2 := F0 m 5 ls [.ref (Λ 8 j)]) rfl ?_
  have kc_5 := f7 j hj
  have kc_5b := o4 j hj
  have kw_6 := f6 (σ 8 j) kc_5b.1
  have kw_6b := o3 (σ 8 j) kc_5b.1
  refine w_call (w_runVN (n := 0) (As := []) (rest := []) hx hb hml hown hX (c_X0_letOff l g μ H.size kc_5) kw617 kw6 kw614 kw616 kp25 wn_X0_letOff rfl kc_5 rfl ⟨Nat.le_of_ble_eq_true rfl, Nat.le_of_ble_eq_true rfl⟩ hl.1 rfl (Nat.le_of_ble_eq_true rfl) dX2_forgive_5 ⟨Nat.le_of_ble_eq_true rfl, Nat.le_of_ble_eq_true rfl⟩) hX (fun r_9 μ_7 H locs q_8 hX hz => ?_)
  obtain ⟨rfl, k1, k2⟩ := q_8
  refine W.eq (g2 := F0 m 8 ls [.int (nI (σ 11 j))]) rfl ?_
  exact w_iret hx hb hr hlocks hX ⟨rfl, hF.c1 hj (by rw [k1]; simp [cC, nFor, up2]) k2 (fun f k h => by simp only [nFor, up2]; rw [if_neg (fun z => h ⟨by omega, by omega, z.2⟩), if_neg (fun z => h ⟨by omega, by omega, z.2⟩)])⟩ ⟨Nat.le_of_ble_eq_true rfl, Nat.le_of_ble_eq_true rfl⟩ dX2_forgive_8

set_option maxHeartbeats 4000000 in
set_option maxRecDepth 100000 in
/-- a wand more -/
theorem c_X2_addWand_g (l : Launch) (g : wG) (μ : wMu) (zz : Nat) {Λ σ : sSt} {xv : Option Int64} (hF : fD g Λ xv σ μ) (hO : sOk σ) {a b : Nat} (ha1 : 1 ≤ a) (ha2 : a ≤ 60) (hb2 : b ≤ 9) (h4 : σ 3 0 < 4) : wMet l yX2_addWand cX2_addWand 4 (some .int) 5 2 14 108 g [.ref (Λ 0 0), .int (nI a), .int (nI b)] μ zz (fun r μ' => ∃ Λ', r = some (.int (nI (σ 3 0))) ∧ fD g Λ' xv (nAddW σ a b) μ' ∧ Λ' 0 0 = Λ 0 0 ∧ Λ' 9 0 = Λ 9 0) := by
  refine wMet.of (by decide) (Nat.le_of_ble_eq_true rfl) ?_
  intro p e s m below meth c ls hx hb hr hml hown hlocks hin hl hsz hX
  have hl : lv_has ls 4 [(0, .ref (Λ 0 0)), (1, .int (nI a)), (2, .int (nI b))] := hl
  obtain ⟨f1, ⟨m1, f2⟩, ⟨m2, f3⟩, f4, f5, f6, f7, ⟨t1, t2, t3, t4, f8⟩, ⟨u1, u2, u3, u4, u5, f9⟩, f10, f11⟩ := id hF
  obtain ⟨o1, o2, o3, o4, o5, o6, o7⟩ := id hO
  have hgE := hX.nE
  refine lv_iload_n hx hb dX2_addWand_0 rfl (lv_at hl 1 rfl) ?_
  refine lv_iconst (v := nI 1) hx hb dX2_addWand_1 (by decide) ?_
  refine lv_bipush (v := nI 60) hx hb dX2_addWand_2 (by decide) ?_
  refine w_call (w_runS (n := 3) (As := [.int (nI a), .int (nI 1), .int (nI 60)]) (rest := []) hx hb hml hown hX (c_X2_needWithin_g l g μ s.heap.size ha1 ha2 (by omega)) kw229 kw1 kw227 kw228 wn_X2_needWithin rfl ⟨Nat.le_of_ble_eq_true rfl, Nat.le_of_ble_eq_true rfl⟩ hl.1 rfl (Nat.le_of_ble_eq_true rfl) dX2_addWand_4 ⟨Nat.le_of_ble_eq_true rfl, Nat.le_of_ble_eq_true rfl⟩) hX (fun r_3 μ_1 H locs q_2 hX hz => ?_)
  obtain ⟨rfl, e_4⟩ := q_2
  rw [e_4] at hX
  refine W.eq (g2 := F0 m 7 ls []) rfl ?_
  refine lv_iload_n hx hb dX2_addWand_7 rfl (lv_at hl 2 rfl) ?_
  refine lv_iconst (v := nI 0) hx hb dX2_addWand_8 (by decide) ?_
  refine lv_bipush (v := nI 9) hx hb dX2_addWand_9 (by decide) ?_
  refine w_call (w_runS (n := 3) (As := [.int (nI b), .int (nI 0), .int (nI 9)]) (rest := []) hx hb hml hown hX (c_X2_needWithin_g l g μ H.size (Nat.zero_le _) hb2 (by omega)) kw229 kw1 kw227 kw228 wn_X2_needWithin rfl ⟨Nat.le_of_ble_eq_true rfl, Nat.le_of_ble_eq_true rfl⟩ hl.1 rfl (Nat.le_of_ble_eq_true rfl) dX2_addWand_11 ⟨Nat.le_of_ble_eq_true rfl, Nat.le_of_ble_eq_true rfl⟩) hX (fun r_7 μ_5 H locs q_6 hX hz => ?_)
  obtain ⟨rfl, e_8⟩ := q_6
  rw [e_8] at hX
  refine W.eq (g2 := F0 m 14 ls []) rfl ?_
  refine lv_aload_n hx hb dX2_addWand_14 rfl (lv_at hl 0 rfl) ?_
  refine gX2_0 hx hb hX hown f1 kw108 dX2_addWand_15 ?_
  refine w_call (w_runV (n := 0) (As := []) (rest := []) hx hb hml hown hX (c_Jx4a65c_size_8abf5 l g μ H.size f2) kw141 kw4 kw138 kw139 kw140 wn_Jx4a65c_size_8abf5 rfl f2 rfl ⟨Nat.le_of_ble_eq_true rfl, Nat.le_of_ble_eq_true rfl⟩ hl.1 rfl (Nat.le_of_ble_eq_true rfl) dX2_addWand_18 ⟨Nat.le_of_ble_eq_true rfl, Nat.le_of_ble_eq_true rfl⟩) hX (fun r_11 μ_9 H locs q_10 hX hz => ?_)
  obtain ⟨rfl, e_12⟩ := q_10
  rw [e_12] at hX
  refine W.eq (g2 := F0 m 21 ls [.int (nI (σ 3 0))]) rfl ?_
  refine lv_istore_n (lv' := [(3, .int (nI (σ 3 0))), (0, .ref (Λ 0 0)), (1, .int (nI a)), (2, .int (nI b))]) hx hb dX2_addWand_21 rfl hl (by decide) rfl (fun ls hl => ?_)
  refine lv_iload_n hx hb dX2_addWand_22 rfl (lv_at hl 0 rfl) ?_
  refine lv_iconst (v := nI 4) hx hb dX2_addWand_23 (by decide) ?_
  refine n_lt (tgt := 37) hx hb (by omega) (by omega) dX2_addWand_24 (by decide) (fun _ => ?_) (fun h => absurd h (by omega))
  refine lv_aload_n hx hb dX2_addWand_37 rfl (lv_at hl 1 rfl) ?_
  refine gX2_0 hx hb hX hown f1 kw108 dX2_addWand_38 ?_
  refine w_new (ci := 2) hx hb inX1 tyX1 tyX1_ok rfl hX hown kw54 kw55 kw5 dfX1 (Nat.le_of_ble_eq_true rfl) (Nat.le_of_ble_eq_true rfl) dX2_addWand_41 (fun q_13 H hq_14 hX => ?_)
  have ne_15 : (Λ 0 0) ≠ q_13 := fun z => by have h9 := f1; rw [z, hq_14] at h9; cases h9
  have ne_16 : (Λ 1 0) ≠ q_13 := fun z => by have h9 := f2; rw [z, hq_14] at h9; cases h9
  have ne_17 : (Λ 2 0) ≠ q_13 := fun z => by have h9 := f3; rw [z, hq_14] at h9; cases h9
  obtain ⟨μ_18, e_19⟩ : ∃ z, z = va_up μ q_13 (some (.inr (2, [.int 0, .int 0, .int 0, .int 0]))) := ⟨_, rfl⟩
  rw [← e_19] at hX
  have k_20 : μ_18 q_13 = some (.inr (2, [.int 0, .int 0, .int 0, .int 0])) := by rw [e_19]; exact va_up_self _ _ _
  have k_21 := (congrFun e_19 (Λ 0 0)).trans ((va_up_ne _ _ ne_15).trans f1)
  have k_22 := (congrFun e_19 (Λ 1 0)).trans ((va_up_ne _ _ ne_16).trans f2)
  have k_23 := (congrFun e_19 (Λ 2 0)).trans ((va_up_ne _ _ ne_17).trans f3)
  refine W.eq (g2 := F0 m 44 ls [.ref q_13, .ref (Λ 1 0)]) rfl ?_
  refine lv_dup hx hb dX2_addWand_44 rfl ?_
  refine lv_iload_n hx hb dX2_addWand_45 rfl (lv_at hl 0 rfl) ?_
  refine lv_iload_n hx hb dX2_addWand_46 rfl (lv_at hl 2 rfl) ?_
  refine lv_iload_n hx hb dX2_addWand_47 rfl (lv_at hl 3 rfl) ?_
  refine w_call (w_runIN (n := 3) (As := [.int (nI (σ 3 0)), .int (nI a), .int (nI b)]) (rest := [.ref q_13, .ref (Λ 1 0)]) hx hb hml hown hX (c_X1_init l g μ_18 H.size k_20) kw58 kw5 kw56 kw57 rfl wn_X1_init rfl ⟨Nat.le_of_ble_eq_true rfl, Nat.le_of_ble_eq_true rfl⟩ hl.1 rfl (Nat.le_of_ble_eq_true rfl) dX2_addWand_48 ⟨Nat.le_of_ble_eq_true rfl, Nat.le_of_ble_eq_true rfl⟩) hX (fun r_26 μ_24 H locs q_25 hX hz => ?_)
  obtain ⟨rfl, k1, k2⟩ := q_25
  have knew : ∀ z e, μ z = some e → z ≠ q_13 := fun z e h c => by rw [c, hq_14] at h; cases h
  have kh : ∀ z e, μ z = some e → μ_24 z = some e := fun z e h => (k2 z (knew z e h)).trans ((congrFun e_19 z).trans ((va_up_ne _ _ (knew z e h)).trans h))
  have kh2 : ∀ z, z ≠ q_13 → μ_24 z = μ z := fun z hn => by rw [k2 z hn, e_19, va_up_ne _ _ hn]
  refine W.eq (g2 := F0 m 51 ls [.ref q_13, .ref (Λ 1 0)]) rfl ?_
  rcases f4 with ⟨hcz, he⟩ | ⟨fa, fa1, fa2⟩
  · skip
    have kL := (kh _ _ f2)
    rw [hcz, he] at kL
    refine w_call (w_runV (n := 1) (As := [.ref q_13]) (rest := []) hx hb hml hown hX (c_Jx4a65c_add_9ea2d_E l g μ_24 H.size kL k1 rfl kw649 (kd_ne k1 kL rfl)) kw547 kw4 kw544 kw545 kw546 wn_Jx4a65c_add_9ea2d rfl (kh _ _ f2) rfl ⟨Nat.le_of_ble_eq_true rfl, Nat.le_of_ble_eq_true rfl⟩ hl.1 rfl (Nat.le_of_ble_eq_true rfl) dX2_addWand_51 ⟨Nat.le_of_ble_eq_true rfl, Nat.le_of_ble_eq_true rfl⟩) hX (fun r_29 μ_27 H locs q_28 hX hz => ?_)
    obtain ⟨ea, rfl, kq0, kq1, kq2, kq3, kq4⟩ := q_28
    refine W.eq (g2 := F0 m 54 ls [.int (nI 1)]) rfl ?_
    refine lv_pop hx hb dX2_addWand_54 rfl ?_
    refine lv_iload_n hx hb dX2_addWand_55 rfl (lv_at hl 0 rfl) ?_
    have keq : ea ≠ q_13 := fun c => by rw [c] at kq0; rw [kq0] at k1; cases k1
    have hea : μ ea = none := by rw [← kh2 ea keq]; exact kq0
    have hR := hF.addW (a := a) (b := b) hO hgE (ea := ea) hq_14 (Or.inl hea) (by rw [hcz]; exact kq3) kq2 (fun i hi => absurd hi (by omega)) (by rw [hcz]; exact va_up_self _ _ _) (by rw [kq4 _ (Ne.symm keq) (kd_ne k1 kL rfl)]; exact k1) (fun z n1 n2 n3 => by rw [kq4 z n2 n1, kh2 z n3])
    exact w_iret hx hb hr hlocks hX ⟨_, rfl, hR, by rw [up2_nf _ (by omega), up2_nf _ (by omega)], by rw [up2_nf _ (by omega), up2_nf _ (by omega)]⟩ ⟨Nat.le_of_ble_eq_true rfl, Nat.le_of_ble_eq_true rfl⟩ dX2_addWand_56
  · skip
    have kL := (kh _ _ f2)
    have kA := kh _ _ fa1
    refine w_call (w_runV (n := 1) (As := [.ref q_13]) (rest := []) hx hb hml hown hX (c_Jx4a65c_add_9ea2d_R l g μ_24 H.size kL kA (kd_ne kA kL rfl) (by omega) k1 rfl kw649 (kd_ne k1 kL rfl)) kw547 kw4 kw544 kw545 kw546 wn_Jx4a65c_add_9ea2d rfl (kh _ _ f2) rfl ⟨Nat.le_of_ble_eq_true rfl, Nat.le_of_ble_eq_true rfl⟩ hl.1 rfl (Nat.le_of_ble_eq_true rfl) dX2_addWand_51 ⟨Nat.le_of_ble_eq_true rfl, Nat.le_of_ble_eq_true rfl⟩) hX (fun r_32 μ_30 H locs q_31 hX hz => ?_)
    obtain ⟨rfl, kq2, kq3, kq4⟩ := q_31
    refine W.eq (g2 := F0 m 54 ls [.int (nI 1)]) rfl ?_
    refine lv_pop hx hb dX2_addWand_54 rfl ?_
    refine lv_iload_n hx hb dX2_addWand_55 rfl (lv_at hl 0 rfl) ?_
    have hR := hF.addW (a := a) (b := b) hO hgE (ea := Λ 3 0) hq_14 (Or.inr ⟨rfl, fa, fa1⟩) kq3 kq2 (fun i hi => by rw [va_up_ne _ _ (by omega)]; exact fa2 i hi) (va_up_self _ _ _) (by rw [kq4 _ (kd_ne k1 kA rfl) (kd_ne k1 kL rfl)]; exact k1) (fun z n1 n2 n3 => by rw [kq4 z n2 n1, kh2 z n3])
    exact w_iret hx hb hr hlocks hX ⟨_, rfl, hR, by rw [up2_nf _ (by omega), up2_nf _ (by omega)], by rw [up2_nf _ (by omega), up2_nf _ (by omega)]⟩ ⟨Nat.le_of_ble_eq_true rfl, Nat.le_of_ble_eq_true rfl⟩ dX2_addWand_56

set_option maxHeartbeats 4000000 in
set_option maxRecDepth 100000 in
/-- a child more -/
theorem c_X2_addChild_g (l : Launch) (g : wG) (μ : wMu) (zz : Nat) {Λ σ : sSt} {xv : Option Int64} (hF : fD g Λ xv σ μ) (hO : sOk σ) {i b : Nat} (hi : i < σ 3 0) (hb2 : b ≤ 29) (h4 : σ 4 0 < 10) : wMet l yX2_addChild cX2_addChild 6 (some .int) 5 2 16 108 g [.ref (Λ 0 0), .int (nI i), .int (nI b)] μ zz (fun r μ' => ∃ Λ', r = some (.int (nI (σ 4 0))) ∧ fD g Λ' xv (nAddC σ i b) μ' ∧ Λ' 0 0 = Λ 0 0 ∧ Λ' 9 0 = Λ 9 0) := by
  refine wMet.of (by decide) (Nat.le_of_ble_eq_true rfl) ?_
  intro p e s m below meth c ls hx hb hr hml hown hlocks hin hl hsz hX
  have hl : lv_has ls 6 [(0, .ref (Λ 0 0)), (1, .int (nI i)), (2, .int (nI b))] := hl
  obtain ⟨f1, ⟨m1, f2⟩, ⟨m2, f3⟩, f4, f5, f6, f7, ⟨t1, t2, t3, t4, f8⟩, ⟨u1, u2, u3, u4, u5, f9⟩, f10, f11⟩ := id hF
  obtain ⟨o1, o2, o3, o4, o5, o6, o7⟩ := id hO
  have hgE := hX.nE
  refine lv_aload_n hx hb dX2_addChild_0 rfl (lv_at hl 0 rfl) ?_
  refine lv_iload_n hx hb dX2_addChild_1 rfl (lv_at hl 1 rfl) ?_
  refine w_call (w_runV (n := 1) (As := [.int (nI i)]) (rest := []) hx hb hml hown hX (c_X2_wandAt_g l g μ s.heap.size hF hO hi) kw337 kw1 kw334 kw336 kp13 wn_X2_wandAt rfl f1 rfl ⟨Nat.le_of_ble_eq_true rfl, Nat.le_of_ble_eq_true rfl⟩ hl.1 rfl (Nat.le_of_ble_eq_true rfl) dX2_addChild_2 ⟨Nat.le_of_ble_eq_true rfl, Nat.le_of_ble_eq_true rfl⟩) hX (fun r_3 μ_1 H locs q_2 hX hz => ?_)
  obtain ⟨rfl, e_4⟩ := q_2
  rw [e_4] at hX
  refine W.eq (g2 := F0 m 5 ls [.ref (Λ 7 i)]) rfl ?_
  refine lv_astore_n (lv' := [(3, .ref (Λ 7 i)), (0, .ref (Λ 0 0)), (1, .int (nI i)), (2, .int (nI b))]) hx hb dX2_addChild_5 rfl hl (by decide) rfl (fun ls hl => ?_)
  refine lv_iload_n hx hb dX2_addChild_6 rfl (lv_at hl 3 rfl) ?_
  refine lv_iconst (v := nI 0) hx hb dX2_addChild_7 (by decide) ?_
  refine lv_bipush (v := nI 29) hx hb dX2_addChild_8 (by decide) ?_
  refine w_call (w_runS (n := 3) (As := [.int (nI b), .int (nI 0), .int (nI 29)]) (rest := []) hx hb hml hown hX (c_X2_needWithin_g l g μ H.size (Nat.zero_le _) hb2 (by omega)) kw229 kw1 kw227 kw228 wn_X2_needWithin rfl ⟨Nat.le_of_ble_eq_true rfl, Nat.le_of_ble_eq_true rfl⟩ hl.1 rfl (Nat.le_of_ble_eq_true rfl) dX2_addChild_10 ⟨Nat.le_of_ble_eq_true rfl, Nat.le_of_ble_eq_true rfl⟩) hX (fun r_7 μ_5 H locs q_6 hX hz => ?_)
  obtain ⟨rfl, e_8⟩ := q_6
  rw [e_8] at hX
  refine W.eq (g2 := F0 m 13 ls []) rfl ?_
  refine lv_aload_n hx hb dX2_addChild_13 rfl (lv_at hl 1 rfl) ?_
  refine gX2_1 hx hb hX hown f1 kw109 dX2_addChild_14 ?_
  refine w_call (w_runV (n := 0) (As := []) (rest := []) hx hb hml hown hX (c_Jx4a65c_size_8abf5 l g μ H.size f3) kw141 kw4 kw138 kw139 kw140 wn_Jx4a65c_size_8abf5 rfl f3 rfl ⟨Nat.le_of_ble_eq_true rfl, Nat.le_of_ble_eq_true rfl⟩ hl.1 rfl (Nat.le_of_ble_eq_true rfl) dX2_addChild_17 ⟨Nat.le_of_ble_eq_true rfl, Nat.le_of_ble_eq_true rfl⟩) hX (fun r_11 μ_9 H locs q_10 hX hz => ?_)
  obtain ⟨rfl, e_12⟩ := q_10
  rw [e_12] at hX
  refine W.eq (g2 := F0 m 20 ls [.int (nI (σ 4 0))]) rfl ?_
  refine lv_istore (lv' := [(4, .int (nI (σ 4 0))), (3, .ref (Λ 7 i)), (0, .ref (Λ 0 0)), (1, .int (nI i)), (2, .int (nI b))]) hx hb dX2_addChild_20 hl (by decide) rfl (fun ls hl => ?_)
  refine lv_iload hx hb dX2_addChild_22 (lv_at hl 0 rfl) ?_
  refine lv_bipush (v := nI 10) hx hb dX2_addChild_24 (by decide) ?_
  refine n_lt (tgt := 39) hx hb (by omega) (by omega) dX2_addChild_26 (by decide) (fun _ => ?_) (fun h => absurd h (by omega))
  refine w_new (ci := 1) hx hb inX0 tyX0 tyX0_ok rfl hX hown kw77 kw78 kw6 dfX0 (Nat.le_of_ble_eq_true rfl) (Nat.le_of_ble_eq_true rfl) dX2_addChild_39 (fun q_13 H hq_14 hX => ?_)
  have ne_15 : (Λ 0 0) ≠ q_13 := fun z => by have h9 := f1; rw [z, hq_14] at h9; cases h9
  have ne_16 : (Λ 1 0) ≠ q_13 := fun z => by have h9 := f2; rw [z, hq_14] at h9; cases h9
  have ne_17 : (Λ 2 0) ≠ q_13 := fun z => by have h9 := f3; rw [z, hq_14] at h9; cases h9
  obtain ⟨μ_18, e_19⟩ : ∃ z, z = va_up μ q_13 (some (.inr (1, [.null, .int 0, .int 0, .int 0, .int 0, .int 0]))) := ⟨_, rfl⟩
  rw [← e_19] at hX
  have k_20 : μ_18 q_13 = some (.inr (1, [.null, .int 0, .int 0, .int 0, .int 0, .int 0])) := by rw [e_19]; exact va_up_self _ _ _
  have k_21 := (congrFun e_19 (Λ 0 0)).trans ((va_up_ne _ _ ne_15).trans f1)
  have k_22 := (congrFun e_19 (Λ 1 0)).trans ((va_up_ne _ _ ne_16).trans f2)
  have k_23 := (congrFun e_19 (Λ 2 0)).trans ((va_up_ne _ _ ne_17).trans f3)
  refine W.eq (g2 := F0 m 42 ls [.ref q_13]) rfl ?_
  refine lv_dup hx hb dX2_addChild_42 rfl ?_
  refine lv_aload_n hx hb dX2_addChild_43 rfl (lv_at hl 1 rfl) ?_
  refine lv_iload_n hx hb dX2_addChild_44 rfl (lv_at hl 4 rfl) ?_
  refine w_call (w_runIN (n := 2) (As := [.ref (Λ 7 i), .int (nI b)]) (rest := [.ref q_13]) hx hb hml hown hX (c_X0_init l g μ_18 H.size k_20) kw81 kw6 kw79 kw80 rfl wn_X0_init rfl ⟨Nat.le_of_ble_eq_true rfl, Nat.le_of_ble_eq_true rfl⟩ hl.1 rfl (Nat.le_of_ble_eq_true rfl) dX2_addChild_45 ⟨Nat.le_of_ble_eq_true rfl, Nat.le_of_ble_eq_true rfl⟩) hX (fun r_26 μ_24 H locs q_25 hX hz => ?_)
  obtain ⟨rfl, k1, k2⟩ := q_25
  have knew : ∀ z e, μ z = some e → z ≠ q_13 := fun z e h c => by rw [c, hq_14] at h; cases h
  have kh : ∀ z e, μ z = some e → μ_24 z = some e := fun z e h => (k2 z (knew z e h)).trans ((congrFun e_19 z).trans ((va_up_ne _ _ (knew z e h)).trans h))
  have kh2 : ∀ z, z ≠ q_13 → μ_24 z = μ z := fun z hn => by rw [k2 z hn, e_19, va_up_ne _ _ hn]
  have hF2 := hF.mono kh
  have k1n : μ_24 q_13 = some (.inr (1, [.ref (Λ 7 i), .int (nI b), .int (nI 0), .int (nI 0), .int (nI 0), .int (nI 4)])) := k1
  refine W.eq (g2 := F0 m 48 ls [.ref q_13]) rfl ?_
  refine lv_astore (lv' := [(5, .ref q_13), (4, .int (nI (σ 4 0))), (3, .ref (Λ 7 i)), (0, .ref (Λ 0 0)), (1, .int (nI i)), (2, .int (nI b))]) hx hb dX2_addChild_48 hl (by decide) rfl (fun ls hl => ?_)
  refine lv_aload hx hb dX2_addChild_50 (lv_at hl 0 rfl) ?_
  refine lv_aload_n hx hb dX2_addChild_52 rfl (lv_at hl 3 rfl) ?_
  refine w_call (w_runV (n := 0) (As := []) (rest := [.ref q_13]) hx hb hml hown hX (c_X2_day l g μ_24 H.size hF2 hO) kw308 kw1 kw367 kw306 kw307 wn_X2_day rfl (kh _ _ f1) rfl ⟨Nat.le_of_ble_eq_true rfl, Nat.le_of_ble_eq_true rfl⟩ hl.1 rfl (Nat.le_of_ble_eq_true rfl) dX2_addChild_53 ⟨Nat.le_of_ble_eq_true rfl, Nat.le_of_ble_eq_true rfl⟩) hX (fun r_29 μ_27 H locs q_28 hX hz => ?_)
  obtain ⟨rfl, e_30⟩ := q_28
  rw [e_30] at hX
  refine W.eq (g2 := F0 m 56 ls [.int (nI (σ 0 0 / 24)), .ref q_13]) rfl ?_
  refine w_call (w_runVN (n := 1) (As := [.int (nI (σ 0 0 / 24))]) (rest := []) hx hb hml hown hX (c_X0_beginDay l g μ_24 H.size k1n (by omega) (by omega)) kw300 kw6 kw601 kw299 kp12 wn_X0_beginDay rfl k1n rfl ⟨Nat.le_of_ble_eq_true rfl, Nat.le_of_ble_eq_true rfl⟩ hl.1 rfl (Nat.le_of_ble_eq_true rfl) dX2_addChild_56 ⟨Nat.le_of_ble_eq_true rfl, Nat.le_of_ble_eq_true rfl⟩) hX (fun r_33 μ_31 H locs q_32 hX hz => ?_)
  obtain ⟨rfl, k3, k4⟩ := q_32
  have kh3 : ∀ z e, μ z = some e → μ_31 z = some e := fun z e h => (k4 z (knew z e h)).trans (kh z e h)
  have kh4 : ∀ z, z ≠ q_13 → μ_31 z = μ z := fun z hn => (k4 z hn).trans (kh2 z hn)
  refine W.eq (g2 := F0 m 59 ls []) rfl ?_
  refine lv_aload_n hx hb dX2_addChild_59 rfl (lv_at hl 3 rfl) ?_
  refine gX2_1 hx hb hX hown (kh3 _ _ f1) kw109 dX2_addChild_60 ?_
  refine lv_aload hx hb dX2_addChild_63 (lv_at hl 0 rfl) ?_
  rcases f5 with ⟨hcz, he⟩ | ⟨fa, fa1, fa2⟩
  · skip
    have kL := (kh3 _ _ f3)
    rw [hcz, he] at kL
    refine w_call (w_runV (n := 1) (As := [.ref q_13]) (rest := []) hx hb hml hown hX (c_Jx4a65c_add_9ea2d_E l g μ_31 H.size kL k3 rfl kw650 (kd_ne k3 kL rfl)) kw547 kw4 kw544 kw545 kw546 wn_Jx4a65c_add_9ea2d rfl (kh3 _ _ f3) rfl ⟨Nat.le_of_ble_eq_true rfl, Nat.le_of_ble_eq_true rfl⟩ hl.1 rfl (Nat.le_of_ble_eq_true rfl) dX2_addChild_65 ⟨Nat.le_of_ble_eq_true rfl, Nat.le_of_ble_eq_true rfl⟩) hX (fun r_36 μ_34 H locs q_35 hX hz => ?_)
    obtain ⟨ea, rfl, kq0, kq1, kq2, kq3, kq4⟩ := q_35
    refine W.eq (g2 := F0 m 68 ls [.int (nI 1)]) rfl ?_
    refine lv_pop hx hb dX2_addChild_68 rfl ?_
    refine lv_iload hx hb dX2_addChild_69 (lv_at hl 1 rfl) ?_
    have keq : ea ≠ q_13 := fun c => by rw [c] at kq0; rw [kq0] at k3; cases k3
    have hea : μ ea = none := by rw [← kh4 ea keq]; exact kq0
    have hR := hF.addC (a := i) (b := b) hO hgE (ea := ea) hi hq_14 (Or.inl hea) (by rw [hcz]; exact kq3) kq2 (fun i hi => absurd hi (by omega)) (by rw [hcz]; exact va_up_self _ _ _) (by rw [kq4 _ (Ne.symm keq) (kd_ne k3 kL rfl)]; exact k3) (fun z n1 n2 n3 => by rw [kq4 z n2 n1, kh4 z n3])
    exact w_iret hx hb hr hlocks hX ⟨_, rfl, hR, by rw [up2_nf _ (by omega), up2_nf _ (by omega)], by rw [up2_nf _ (by omega), up2_nf _ (by omega)]⟩ ⟨Nat.le_of_ble_eq_true rfl, Nat.le_of_ble_eq_true rfl⟩ dX2_addChild_71
  · skip
    have kL := (kh3 _ _ f3)
    have kA := kh3 _ _ fa1
    refine w_call (w_runV (n := 1) (As := [.ref q_13]) (rest := []) hx hb hml hown hX (c_Jx4a65c_add_9ea2d_R l g μ_31 H.size kL kA (kd_ne kA kL rfl) (by omega) k3 rfl kw650 (kd_ne k3 kL rfl)) kw547 kw4 kw544 kw545 kw546 wn_Jx4a65c_add_9ea2d rfl (kh3 _ _ f3) rfl ⟨Nat.le_of_ble_eq_true rfl, Nat.le_of_ble_eq_true rfl⟩ hl.1 rfl (Nat.le_of_ble_eq_true rfl) dX2_addChild_65 ⟨Nat.le_of_ble_eq_true rfl, Nat.le_of_ble_eq_true rfl⟩) hX (fun r_39 μ_37 H locs q_38 hX hz => ?_)
    obtain ⟨rfl, kq2, kq3, kq4⟩ := q_38
    refine W.eq (g2 := F0 m 68 ls [.int (nI 1)]) rfl ?_
    refine lv_pop hx hb dX2_addChild_68 rfl ?_
    refine lv_iload hx hb dX2_addChild_69 (lv_at hl 1 rfl) ?_
    have hR := hF.addC (a := i) (b := b) hO hgE (ea := Λ 4 0) hi hq_14 (Or.inr ⟨rfl, fa, fa1⟩) kq3 kq2 (fun i hi => by rw [va_up_ne _ _ (by omega)]; exact fa2 i hi) (va_up_self _ _ _) (by rw [kq4 _ (kd_ne k3 kA rfl) (kd_ne k3 kL rfl)]; exact k3) (fun z n1 n2 n3 => by rw [kq4 z n2 n1, kh4 z n3])
    exact w_iret hx hb hr hlocks hX ⟨_, rfl, hR, by rw [up2_nf _ (by omega), up2_nf _ (by omega)], by rw [up2_nf _ (by omega), up2_nf _ (by omega)]⟩ ⟨Nat.le_of_ble_eq_true rfl, Nat.le_of_ble_eq_true rfl⟩ dX2_addChild_71

