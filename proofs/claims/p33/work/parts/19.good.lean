/-! THE SHARE -/
def shv (σ : sSt) : UInt64 := if σ 1 0 + σ 2 0 = 0 then FP.dconst0 else FP.ddiv (FP.i2d (nI (σ 1 0))) (FP.i2d (nI (σ 1 0 + σ 2 0)))
theorem shq_nn {a b : Nat} (h1 : 0 < b) (h2 : b < 2 ^ 31) : Jvm.FP.Core.dIsNaN (FP.ddiv (FP.i2d (nI a)) (FP.i2d (nI b))) = false := by
  have hne : nI b ≠ 0 := nI_ne0 h1 h2
  exact Jvm.FP.Core.ddiv_out ((Jvm.FP.Core.notNaN_iff _).mpr (Jvm.FP.Core.i2d_fin _).ne_nan) (Jvm.FP.Core.i2d_fin _) (fun z => Jvm.FP.Core.i2d_ne_zero hne ((Jvm.FP.Core.zero_bits2 _).mp z))
theorem shq_n {a b : Nat} (h1 : 0 < b) (h2 : b < 2 ^ 31) : vf_n64 (FP.ddiv (FP.i2d (nI a)) (FP.i2d (nI b))) := Jvm.Free.Fl.noNaN64_no.mpr (shq_nn h1 h2)
theorem shv_c {σ : sSt} (hO : sOk σ) : FP.dcmp (shv σ) (shv σ) = some .eq := by
  have := hO.2.2.2.2.2.2
  unfold shv
  by_cases h : σ 1 0 + σ 2 0 = 0
  · rw [if_pos h]; decide +kernel
  · rw [if_neg h]; exact Jvm.FP.Core.dcmp_refl (shq_nn (by omega) (by omega))
theorem w_dret {p : Program} {l : Launch} {e : Env} {R : Room} {s : State} {m : MethodId} {args : Array Value} {below : List Frame} {meth : Method} {c : Code} {H : Heap} {locs : List Loc} {cells slots mc ms sz : Nat} {cc : ByteArray} {pc : Nat} {ls : Array Slot} {g : wG} {μ μ' : wMu} {post : Option Value → wMu → Prop}
    (hexec : p.tables.exec = Jvm.exec) (hb : c.code = cc) (hr : meth.sig.returnType = some .double) (hlocks : meth.locks = false) (hX : wX g (wA μ sz) s H locs μ') {v : UInt64} (hp : post (some (.double v)) μ') (hC : cells ≤ mc ∧ slots ≤ ms) (hdg : decode cc pc = .ok (.dreturn, 1)) :
    W p l e R s m args below meth c H locs cells slots (MQ below (wQc g μ sz post) args s mc ms (wA μ sz)) (F0 m pc ls [.double v]) :=
  W.widen hC.1 hC.2 (W.dret hexec hb hr (fun t ht hW => ⟨_, μ', rfl, hp, by rw [ht]; exact hX.P, hX.dom, hX.S.F ht⟩) hX.S.2.2 hdg hlocks)
set_option maxHeartbeats 4000000 in
set_option maxRecDepth 100000 in
/-- the share -/
theorem c_X2_share (l : Launch) (g : wG) (μ : wMu) (zz : Nat) {Λ σ : sSt} {xv : Option Int64} (hF : fD g Λ xv σ μ) (hO : sOk σ)  : wMet l yX2_share cX2_share 2 (some .double) 0 0 0 0 g [.ref (Λ 0 0)] μ zz (fun r μ' => r = some (.double (shv σ)) ∧ μ' = μ) := by
  refine wMet.of (by decide) (Nat.le_of_ble_eq_true rfl) ?_
  intro p e s m below meth c ls hx hb hr hml hown hlocks hin hl hsz hX
  have hl : lv_has ls 2 [(0, .ref (Λ 0 0))] := hl
  obtain ⟨f1, ⟨m1, f2⟩, ⟨m2, f3⟩, f4, f5, f6, f7, ⟨t1, t2, t3, t4, f8⟩, ⟨u1, u2, u3, u4, u5, f9⟩, f10, f11⟩ := id hF
  obtain ⟨o1, o2, o3, o4, o5, o6, o7⟩ := id hO
  refine lv_aload_n hx hb dX2_share_0 rfl (lv_at hl 0 rfl) ?_
  refine gX2_5 hx hb hX hown f1 kw113 dX2_share_1 ?_
  refine lv_aload_n hx hb dX2_share_4 rfl (lv_at hl 0 rfl) ?_
  refine gX2_6 hx hb hX hown f1 kw114 dX2_share_5 ?_
  refine n_iadd hx hb dX2_share_8 (nI_add _ _) ?_
  refine lv_istore_n (lv' := [(1, .int (nI ((σ 1 0) + (σ 2 0)))), (0, .ref (Λ 0 0))]) hx hb dX2_share_9 rfl hl (by decide) rfl (fun ls hl => ?_)
  refine lv_iload_n hx hb dX2_share_10 rfl (lv_at hl 0 rfl) ?_
  refine n_if_ne (tgt := 16) hx hb (by omega) dX2_share_11 (by decide) (fun c_1 => ?_) (fun c_1 => ?_)
  · skip
    refine lv_aload_n hx hb dX2_share_16 rfl (lv_at hl 1 rfl) ?_
    refine gX2_5 hx hb hX hown f1 kw113 dX2_share_17 ?_
    refine lv_i2d hx hb dX2_share_20 ?_
    refine lv_iload_n hx hb dX2_share_21 rfl (lv_at hl 0 rfl) ?_
    refine lv_i2d hx hb dX2_share_22 ?_
    refine lv_ddiv hx hb dX2_share_23 (shq_n (by omega) (by omega)) ?_
    exact w_dret hx hb hr hlocks hX ⟨by unfold shv; rw [if_neg (by omega)], rfl⟩ ⟨Nat.le_of_ble_eq_true rfl, Nat.le_of_ble_eq_true rfl⟩ dX2_share_24
  · skip
    refine lv_dconst0 hx hb dX2_share_14 ?_
    exact w_dret hx hb hr hlocks hX ⟨by unfold shv; rw [if_pos (by omega)], rfl⟩ ⟨Nat.le_of_ble_eq_true rfl, Nat.le_of_ble_eq_true rfl⟩ dX2_share_15

set_option maxHeartbeats 4000000 in
set_option maxRecDepth 100000 in
/-- a wish -/
theorem c_X2_wish_g (l : Launch) (g : wG) (μ : wMu) (zz : Nat) {Λ σ : sSt} {xv : Option Int64} (hF : fD g Λ xv σ μ) (hO : sOk σ) {j sz : Nat} (hj : j < σ 4 0) (h1 : 1 ≤ sz) (h2 : sz ≤ 20) : wMet l yX2_wish cX2_wish 5 (some .boolean) 4 0 0 85 g [.ref (Λ 0 0), .int (nI j), .int (nI sz)] μ zz (fun r μ' => r = some (.int (nI (fwG sz (σ 7 (σ 8 j)) (σ 10 j) (σ 11 j)))) ∧ fD g Λ xv (nWis σ j sz) μ') := by
  refine wMet.of (by decide) (Nat.le_of_ble_eq_true rfl) ?_
  intro p e s m below meth c ls hx hb hr hml hown hlocks hin hl hsz hX
  have hl : lv_has ls 5 [(0, .ref (Λ 0 0)), (1, .int (nI j)), (2, .int (nI sz))] := hl
  obtain ⟨f1, ⟨m1, f2⟩, ⟨m2, f3⟩, f4, f5, f6, f7, ⟨t1, t2, t3, t4, f8⟩, ⟨u1, u2, u3, u4, u5, f9⟩, f10, f11⟩ := id hF
  obtain ⟨o1, o2, o3, o4, o5, o6, o7⟩ := id hO
  refine lv_aload_n hx hb dX2_wish_0 rfl (lv_at hl 0 rfl) ?_
  refine lv_iload_n hx hb dX2_wish_1 rfl (lv_at hl 1 rfl) ?_
  refine w_call (w_runV (n := 1) (As := [.int (nI j)]) (rest := []) hx hb hml hown hX (c_X2_childAt_g l g μ s.heap.size hF hO hj) kw137 kw1 kw134 kw136 kp0 wn_X2_childAt rfl f1 rfl ⟨Nat.le_of_ble_eq_true rfl, Nat.le_of_ble_eq_true rfl⟩ hl.1 rfl (Nat.le_of_ble_eq_true rfl) dX2_wish_2 ⟨Nat.le_of_ble_eq_true rfl, Nat.le_of_ble_eq_true rfl⟩) hX (fun r_3 μ_1 H locs q_2 hX hz => ?_)
  obtain ⟨rfl, e_4⟩ := q_2
  rw [e_4] at hX
  refine W.eq (g2 := F0 m 5 ls [.ref (Λ 8 j)]) rfl ?_
  have kc_5 := f7 j hj
  have kc_5b := o4 j hj
  have kw_6 := f6 (σ 8 j) kc_5b.1
  have kw_6b := o3 (σ 8 j) kc_5b.1
  refine lv_astore_n (lv' := [(3, .ref (Λ 8 j)), (0, .ref (Λ 0 0)), (1, .int (nI j)), (2, .int (nI sz))]) hx hb dX2_wish_5 rfl hl (by decide) rfl (fun ls hl => ?_)
  refine lv_iload_n hx hb dX2_wish_6 rfl (lv_at hl 3 rfl) ?_
  refine w_call (w_runS (n := 1) (As := [.int (nI sz)]) (rest := []) hx hb hml hown hX (c_X2_needSize_g l g μ H.size h1 h2) kw226 kw1 kw224 kw225 wn_X2_needSize rfl ⟨Nat.le_of_ble_eq_true rfl, Nat.le_of_ble_eq_true rfl⟩ hl.1 rfl (Nat.le_of_ble_eq_true rfl) dX2_wish_7 ⟨Nat.le_of_ble_eq_true rfl, Nat.le_of_ble_eq_true rfl⟩) hX (fun r_9 μ_7 H locs q_8 hX hz => ?_)
  obtain ⟨rfl, e_10⟩ := q_8
  rw [e_10] at hX
  refine W.eq (g2 := F0 m 10 ls []) rfl ?_
  refine lv_aload_n hx hb dX2_wish_10 rfl (lv_at hl 0 rfl) ?_
  refine lv_iload_n hx hb dX2_wish_11 rfl (lv_at hl 3 rfl) ?_
  refine w_call (w_runVN (n := 1) (As := [.int (nI sz)]) (rest := []) hx hb hml hown hX (c_X0_makeWish l g μ H.size kc_5 kw_6 (kd_ne kc_5 kw_6 rfl) (by omega) (by omega) (by omega) (by omega) (by omega) h1 h2) kw249 kw6 kw246 kw248 kp2 wn_X0_makeWish rfl kc_5 rfl ⟨Nat.le_of_ble_eq_true rfl, Nat.le_of_ble_eq_true rfl⟩ hl.1 rfl (Nat.le_of_ble_eq_true rfl) dX2_wish_12 ⟨Nat.le_of_ble_eq_true rfl, Nat.le_of_ble_eq_true rfl⟩) hX (fun r_13 μ_11 H locs q_12 hX hz => ?_)
  obtain ⟨rfl, k1, k2, k3⟩ := q_12
  have hF2 : fD g Λ xv (nWi0 σ j sz) μ_11 := hF.cw1 hj kc_5b.1 (by rw [k1]; simp [cC, nWi0, up2]) (by rw [k2]; simp [cW, nWi0, up2]) k3 (fun f k a b => nWi0_o σ j sz a b)
  have kx := (k3 _ (kd_ne f1 kc_5 rfl) (kd_ne f1 kw_6 rfl)).trans f1
  have hgb := fwG_le sz (σ 7 (σ 8 j)) (σ 10 j) (σ 11 j)
  refine W.eq (g2 := F0 m 15 ls [.int (nI (fwG sz (σ 7 (σ 8 j)) (σ 10 j) (σ 11 j)))]) rfl ?_
  refine lv_istore (lv' := [(4, .int (nI (fwG sz (σ 7 (σ 8 j)) (σ 10 j) (σ 11 j)))), (3, .ref (Λ 8 j)), (0, .ref (Λ 0 0)), (1, .int (nI j)), (2, .int (nI sz))]) hx hb dX2_wish_15 hl (by decide) rfl (fun ls hl => ?_)
  refine lv_iload hx hb dX2_wish_17 (lv_at hl 0 rfl) ?_
  refine n_if_eq (tgt := 35) hx hb (by omega) dX2_wish_19 (by decide) (fun c_14 => ?_) (fun c_14 => ?_)
  · skip
    refine lv_aload_n hx hb dX2_wish_35 rfl (lv_at hl 2 rfl) ?_
    refine lv_dup hx hb dX2_wish_36 rfl ?_
    refine gX2_6 hx hb hX hown kx kw114 dX2_wish_37 ?_
    refine lv_iconst (v := nI 1) hx hb dX2_wish_40 (by decide) ?_
    refine n_iadd hx hb dX2_wish_41 (nI_add _ _) ?_
    refine pX2_6 hx hb hX hown kx kw114 dX2_wish_42 (fun H locs hX => ?_)
    obtain ⟨μ_15, e_16⟩ : ∃ z, z = va_up μ_11 (Λ 0 0) (some (.inr (3, [.ref (Λ 1 0), .ref (Λ 2 0), .ref (Λ 5 0), .ref (Λ 6 0), .int (nI (σ 0 0)), .int (nI (σ 1 0)), .int (nI ((σ 2 0) + 1))]))) := ⟨_, rfl⟩
    rw [← e_16] at hX
    have k_17 : μ_15 (Λ 0 0) = some (.inr (3, [.ref (Λ 1 0), .ref (Λ 2 0), .ref (Λ 5 0), .ref (Λ 6 0), .int (nI (σ 0 0)), .int (nI (σ 1 0)), .int (nI ((σ 2 0) + 1))])) := by rw [e_16]; exact va_up_self _ _ _
    refine lv_iload hx hb dX2_wish_45 (lv_at hl 0 rfl) ?_
    exact w_zret hx hb hr hlocks hX (zret_fwG _ _ _ _) ⟨rfl, by rw [nWis_n (by omega)]; exact hF2.x1 (by rw [k_17]; simp [cF, nWi0, up2]) (fun q n => by rw [e_16, va_up_ne _ _ n]) (fun f k h => if_neg (fun z => h ⟨by omega, z.2⟩))⟩ ⟨Nat.le_of_ble_eq_true rfl, Nat.le_of_ble_eq_true rfl⟩ dX2_wish_47
  · skip
    refine lv_aload_n hx hb dX2_wish_22 rfl (lv_at hl 2 rfl) ?_
    refine lv_dup hx hb dX2_wish_23 rfl ?_
    refine gX2_5 hx hb hX hown kx kw113 dX2_wish_24 ?_
    refine lv_iconst (v := nI 1) hx hb dX2_wish_27 (by decide) ?_
    refine n_iadd hx hb dX2_wish_28 (nI_add _ _) ?_
    refine pX2_5 hx hb hX hown kx kw113 dX2_wish_29 (fun H locs hX => ?_)
    obtain ⟨μ_18, e_19⟩ : ∃ z, z = va_up μ_11 (Λ 0 0) (some (.inr (3, [.ref (Λ 1 0), .ref (Λ 2 0), .ref (Λ 5 0), .ref (Λ 6 0), .int (nI (σ 0 0)), .int (nI ((σ 1 0) + 1)), .int (nI (σ 2 0))]))) := ⟨_, rfl⟩
    rw [← e_19] at hX
    have k_20 : μ_18 (Λ 0 0) = some (.inr (3, [.ref (Λ 1 0), .ref (Λ 2 0), .ref (Λ 5 0), .ref (Λ 6 0), .int (nI (σ 0 0)), .int (nI ((σ 1 0) + 1)), .int (nI (σ 2 0))])) := by rw [e_19]; exact va_up_self _ _ _
    refine lv_goto (tgt := 45) hx hb dX2_wish_32 (by decide) ?_
    refine lv_iload hx hb dX2_wish_45 (lv_at hl 0 rfl) ?_
    exact w_zret hx hb hr hlocks hX (zret_fwG _ _ _ _) ⟨rfl, by rw [nWis_y (by omega)]; exact hF2.x1 (by rw [k_20]; simp [cF, nWi0, up2]) (fun q n => by rw [e_19, va_up_ne _ _ n]) (fun f k h => if_neg (fun z => h ⟨by omega, z.2⟩))⟩ ⟨Nat.le_of_ble_eq_true rfl, Nat.le_of_ble_eq_true rfl⟩ dX2_wish_47

set_option maxHeartbeats 4000000 in
set_option maxRecDepth 100000 in
/-- hours go by -/
theorem c_X2_pass_g (l : Launch) (g : wG) (μ : wMu) (zz : Nat) {Λ σ : sSt} {xv : Option Int64} (hF : fD g Λ xv σ μ) (hO : sOk σ) (h9 : σ 0 0 ≤ 51900) {b : Nat} (h1 : 1 ≤ b) (h2 : b ≤ 100) : wMet l yX2_pass cX2_pass 4 (some .int) 4 0 0 86 g [.ref (Λ 0 0), .int (nI b)] μ zz (fun r μ' => r = some (.int (nI (sFal σ b (σ 3 0)))) ∧ fD g Λ xv (nPas σ b) μ') := by
  refine wMet.of (by decide) (Nat.le_of_ble_eq_true rfl) ?_
  intro p e s m below meth c ls hx hb hr hml hown hlocks hin hl hsz hX
  have hl : lv_has ls 4 [(0, .ref (Λ 0 0)), (1, .int (nI b))] := hl
  obtain ⟨f1, ⟨m1, f2⟩, ⟨m2, f3⟩, f4, f5, f6, f7, ⟨t1, t2, t3, t4, f8⟩, ⟨u1, u2, u3, u4, u5, f9⟩, f10, f11⟩ := id hF
  obtain ⟨o1, o2, o3, o4, o5, o6, o7⟩ := id hO
  refine lv_iload_n hx hb dX2_pass_0 rfl (lv_at hl 1 rfl) ?_
  refine lv_iconst (v := nI 1) hx hb dX2_pass_1 (by decide) ?_
  refine lv_bipush (v := nI 100) hx hb dX2_pass_2 (by decide) ?_
  refine w_call (w_runS (n := 3) (As := [.int (nI b), .int (nI 1), .int (nI 100)]) (rest := []) hx hb hml hown hX (c_X2_needWithin_g l g μ s.heap.size h1 h2 (by omega)) kw229 kw1 kw227 kw228 wn_X2_needWithin rfl ⟨Nat.le_of_ble_eq_true rfl, Nat.le_of_ble_eq_true rfl⟩ hl.1 rfl (Nat.le_of_ble_eq_true rfl) dX2_pass_4 ⟨Nat.le_of_ble_eq_true rfl, Nat.le_of_ble_eq_true rfl⟩) hX (fun r_3 μ_1 H locs q_2 hX hz => ?_)
  obtain ⟨rfl, e_4⟩ := q_2
  rw [e_4] at hX
  refine W.eq (g2 := F0 m 7 ls []) rfl ?_
  refine lv_iconst (v := nI 0) hx hb dX2_pass_7 (by decide) ?_
  refine lv_istore_n (lv' := [(2, .int (nI 0)), (0, .ref (Λ 0 0)), (1, .int (nI b))]) hx hb dX2_pass_8 rfl hl (by decide) rfl (fun ls hl => ?_)
  refine lv_iconst (v := nI 0) hx hb dX2_pass_9 (by decide) ?_
  refine lv_istore_n (lv' := [(3, .int (nI 0)), (2, .int (nI 0)), (0, .ref (Λ 0 0)), (1, .int (nI b))]) hx hb dX2_pass_10 rfl hl (by decide) rfl (fun ls hl => ?_)
  have hloop : ∀ (n : Nat) (i : Nat) (ν : wMu) (H : Heap) (locs : List Loc) (ls : Array Slot), b < i + n → i ≤ b → fD g Λ xv (nPas σ i) ν → wX g (wA μ zz) s H locs ν → lv_has ls 4 [(3, .int (nI i)), (2, .int (nI (sFal σ i (σ 3 0)))), (0, .ref (Λ 0 0)), (1, .int (nI b))] → W p l e ({ frames := 4, cells := 0, slots := 0, locals := 86 } : Room) s m ([.ref (Λ 0 0), .int (nI b)] : List Value).toArray below meth c H locs 0 0 (MQ below (wQc g μ zz (fun r μ' => r = some (.int (nI (sFal σ b (σ 3 0)))) ∧ fD g Λ xv (nPas σ b) μ')) ([.ref (Λ 0 0), .int (nI b)] : List Value).toArray s 0 0 (wA μ zz)) (F0 m 11 ls []) := by
    intro n
    induction n with
    | zero => intro i ν H locs ls hn hi hF hX hl; exact absurd hn (by omega)
    | succ n ih =>
      intro i ν H locs ls hn hi hF hX hl
      refine lv_iload_n hx hb dX2_pass_11 rfl (lv_at hl 0 rfl) ?_
      refine lv_iload_n hx hb dX2_pass_12 rfl (lv_at hl 3 rfl) ?_
      refine n_ge (tgt := 29) hx hb (by omega) (by omega) dX2_pass_13 (by decide) (fun c_5 => ?_) (fun c_5 => ?_)
      · skip
        refine lv_iload_n hx hb dX2_pass_29 rfl (lv_at hl 1 rfl) ?_
        obtain rfl : i = b := by omega
        exact w_iret hx hb hr hlocks hX ⟨rfl, hF⟩ ⟨Nat.le_of_ble_eq_true rfl, Nat.le_of_ble_eq_true rfl⟩ dX2_pass_30
      · skip
        refine lv_iload_n hx hb dX2_pass_16 rfl (lv_at hl 1 rfl) ?_
        refine lv_aload_n hx hb dX2_pass_17 rfl (lv_at hl 2 rfl) ?_
        refine w_call (w_runV (n := 0) (As := []) (rest := [.int (nI (sFal σ i (σ 3 0)))]) hx hb hml hown hX (c_X2_passOneHour l g ν H.size hF (hO.pas (by omega))) kw287 kw1 kw284 kw286 kp9 wn_X2_passOneHour rfl hF.1 rfl ⟨Nat.le_of_ble_eq_true rfl, Nat.le_of_ble_eq_true rfl⟩ hl.1 rfl (Nat.le_of_ble_eq_true rfl) dX2_pass_18 ⟨Nat.le_of_ble_eq_true rfl, Nat.le_of_ble_eq_true rfl⟩) hX (fun r_8 μ_6 H locs q_7 hX hz => ?_)
        obtain ⟨rfl, hF2⟩ := q_7
        rw [nPas_s] at hF2
        refine W.eq (g2 := F0 m 21 ls [.int (nI (sFal (nPas σ i) 1 (nPas σ i 3 0))), .int (nI (sFal σ i (σ 3 0)))]) rfl ?_
        refine n_iadd hx hb dX2_pass_21 (nI_add _ _) ?_
        refine lv_istore_n (lv' := [(2, .int (nI ((sFal σ i (σ 3 0)) + (sFal (nPas σ i) 1 (nPas σ i 3 0))))), (3, .int (nI i)), (0, .ref (Λ 0 0)), (1, .int (nI b))]) hx hb dX2_pass_22 rfl hl (by decide) rfl (fun ls hl => ?_)
        refine lv_iinc (v := nI (i + 1)) (lv' := [(3, .int (nI (i + 1))), (2, .int (nI ((sFal σ i (σ 3 0)) + (sFal (nPas σ i) 1 (nPas σ i 3 0))))), (0, .ref (Λ 0 0)), (1, .int (nI b))]) hx hb dX2_pass_23 hl (k := 1) rfl (nI_inc _) (by decide) rfl (fun ls hl => ?_)
        refine lv_goto (tgt := 11) hx hb dX2_pass_26 (by decide) ?_
        rw [show sFal σ i (σ 3 0) + sFal (nPas σ i) 1 (nPas σ i 3 0) = sFal σ (i + 1) (σ 3 0) by rw [nPas_o σ (show _ by omega : ¬ ((3 : Nat) = 0 ∧ 0 = 0) ∧ _)]; exact sFal_s hO i _ (Nat.le_refl _)] at hl
        refine ih (i + 1) _ H locs ls (by omega) (by omega) hF2 hX ?_
        exact lv_sub hl [0, 1, 2, 3] rfl
  exact hloop (b + 1) 0 μ H _ ls (by omega) (by omega) (by rw [nPas_0 hO]; exact hF) hX (by rw [sFal_0 hO (σ 3 0) (Nat.le_refl _)]; exact hl)

set_option maxHeartbeats 4000000 in
set_option maxRecDepth 100000 in
/-- another wand -/
theorem c_X2_give_g (l : Launch) (g : wG) (μ : wMu) (zz : Nat) {Λ σ : sSt} {xv : Option Int64} (hF : fD g Λ xv σ μ) (hO : sOk σ) {j i : Nat} (hj : j < σ 4 0) (hi : i < σ 3 0) : wMet l yX2_give cX2_give 6 (some .int) 4 0 0 85 g [.ref (Λ 0 0), .int (nI j), .int (nI i)] μ zz (fun r μ' => r = some (.int (nI (σ 8 j))) ∧ fD g Λ xv (up2 σ 8 j i) μ') := by
  refine wMet.of (by decide) (Nat.le_of_ble_eq_true rfl) ?_
  intro p e s m below meth c ls hx hb hr hml hown hlocks hin hl hsz hX
  have hl : lv_has ls 6 [(0, .ref (Λ 0 0)), (1, .int (nI j)), (2, .int (nI i))] := hl
  obtain ⟨f1, ⟨m1, f2⟩, ⟨m2, f3⟩, f4, f5, f6, f7, ⟨t1, t2, t3, t4, f8⟩, ⟨u1, u2, u3, u4, u5, f9⟩, f10, f11⟩ := id hF
  obtain ⟨o1, o2, o3, o4, o5, o6, o7⟩ := id hO
  refine lv_aload_n hx hb dX2_give_0 rfl (lv_at hl 0 rfl) ?_
  refine lv_iload_n hx hb dX2_give_1 rfl (lv_at hl 1 rfl) ?_
  refine w_call (w_runV (n := 1) (As := [.int (nI j)]) (rest := []) hx hb hml hown hX (c_X2_childAt_g l g μ s.heap.size hF hO hj) kw137 kw1 kw134 kw136 kp0 wn_X2_childAt rfl f1 rfl ⟨Nat.le_of_ble_eq_true rfl, Nat.le_of_ble_eq_true rfl⟩ hl.1 rfl (Nat.le_of_ble_eq_true rfl) dX2_give_2 ⟨Nat.le_of_ble_eq_true rfl, Nat.le_of_ble_eq_true rfl⟩) hX (fun r_3 μ_1 H locs q_2 hX hz => ?_)
  obtain ⟨rfl, e_4⟩ := q_2
  rw [e_4] at hX
  refine W.eq (g2 := F0 m 5 ls [.ref (Λ 8 j)]) rfl ?_
  have kc_5 := f7 j hj
  have kc_5b := o4 j hj
  have kw_6 := f6 (σ 8 j) kc_5b.1
  have kw_6b := o3 (σ 8 j) kc_5b.1
  refine lv_astore_n (lv' := [(3, .ref (Λ 8 j)), (0, .ref (Λ 0 0)), (1, .int (nI j)), (2, .int (nI i))]) hx hb dX2_give_5 rfl hl (by decide) rfl (fun ls hl => ?_)
  refine lv_aload_n hx hb dX2_give_6 rfl (lv_at hl 1 rfl) ?_
  refine lv_iload_n hx hb dX2_give_7 rfl (lv_at hl 3 rfl) ?_
  refine w_call (w_runV (n := 1) (As := [.int (nI i)]) (rest := []) hx hb hml hown hX (c_X2_wandAt_g l g μ H.size hF hO hi) kw337 kw1 kw334 kw336 kp13 wn_X2_wandAt rfl f1 rfl ⟨Nat.le_of_ble_eq_true rfl, Nat.le_of_ble_eq_true rfl⟩ hl.1 rfl (Nat.le_of_ble_eq_true rfl) dX2_give_8 ⟨Nat.le_of_ble_eq_true rfl, Nat.le_of_ble_eq_true rfl⟩) hX (fun r_9 μ_7 H locs q_8 hX hz => ?_)
  obtain ⟨rfl, e_10⟩ := q_8
  rw [e_10] at hX
  refine W.eq (g2 := F0 m 11 ls [.ref (Λ 7 i)]) rfl ?_
  refine lv_astore (lv' := [(4, .ref (Λ 7 i)), (3, .ref (Λ 8 j)), (0, .ref (Λ 0 0)), (1, .int (nI j)), (2, .int (nI i))]) hx hb dX2_give_11 hl (by decide) rfl (fun ls hl => ?_)
  refine lv_aload_n hx hb dX2_give_13 rfl (lv_at hl 1 rfl) ?_
  refine gnX0_0 hx hb hX hown kc_5 kw84 dX2_give_14 ?_
  refine gnX1_0 hx hb hX hown kw_6 kw61 dX2_give_17 ?_
  refine lv_istore (lv' := [(5, .int (nI (σ 8 j))), (4, .ref (Λ 7 i)), (3, .ref (Λ 8 j)), (0, .ref (Λ 0 0)), (1, .int (nI j)), (2, .int (nI i))]) hx hb dX2_give_20 hl (by decide) rfl (fun ls hl => ?_)
  refine lv_aload_n hx hb dX2_give_22 rfl (lv_at hl 2 rfl) ?_
  refine lv_aload hx hb dX2_give_23 (lv_at hl 1 rfl) ?_
  refine pnX0_0 hx hb hX hown kc_5 kw84 dX2_give_25 (fun H locs hX => ?_)
  obtain ⟨μ_11, e_12⟩ : ∃ z, z = va_up μ (Λ 8 j) (some (.inr (1, [.ref (Λ 7 i), .int (nI (σ 9 j)), .int (nI (σ 10 j)), .int (nI (σ 11 j)), .int (nI (σ 12 j)), .int (nI (σ 13 j))]))) := ⟨_, rfl⟩
  rw [← e_12] at hX
  have k_13 : μ_11 (Λ 8 j) = some (.inr (1, [.ref (Λ 7 i), .int (nI (σ 9 j)), .int (nI (σ 10 j)), .int (nI (σ 11 j)), .int (nI (σ 12 j)), .int (nI (σ 13 j))])) := by rw [e_12]; exact va_up_self _ _ _
  refine lv_iload hx hb dX2_give_28 (lv_at hl 0 rfl) ?_
  exact w_iret hx hb hr hlocks hX ⟨rfl, hF.c1 hj (by rw [k_13]; simp [cC, up2]) (fun q n => by rw [e_12, va_up_ne _ _ n]) (fun f k h => if_neg (fun z => h ⟨by omega, by omega, z.2⟩))⟩ ⟨Nat.le_of_ble_eq_true rfl, Nat.le_of_ble_eq_true rfl⟩ dX2_give_30

set_option maxHeartbeats 4000000 in
set_option maxRecDepth 100000 in
/-- another fall -/
theorem c_X2_setFall_g (l : Launch) (g : wG) (μ : wMu) (zz : Nat) {Λ σ : sSt} {xv : Option Int64} (hF : fD g Λ xv σ μ) (hO : sOk σ) {i b : Nat} (hi : i < σ 3 0) (h2 : b ≤ 9) : wMet l yX2_setFall cX2_setFall 5 (some .int) 4 0 0 85 g [.ref (Λ 0 0), .int (nI i), .int (nI b)] μ zz (fun r μ' => r = some (.int (nI (σ 6 i))) ∧ fD g Λ xv (up2 σ 6 i b) μ') := by
  refine wMet.of (by decide) (Nat.le_of_ble_eq_true rfl) ?_
  intro p e s m below meth c ls hx hb hr hml hown hlocks hin hl hsz hX
  have hl : lv_has ls 5 [(0, .ref (Λ 0 0)), (1, .int (nI i)), (2, .int (nI b))] := hl
  obtain ⟨f1, ⟨m1, f2⟩, ⟨m2, f3⟩, f4, f5, f6, f7, ⟨t1, t2, t3, t4, f8⟩, ⟨u1, u2, u3, u4, u5, f9⟩, f10, f11⟩ := id hF
  obtain ⟨o1, o2, o3, o4, o5, o6, o7⟩ := id hO
  refine lv_aload_n hx hb dX2_setFall_0 rfl (lv_at hl 0 rfl) ?_
  refine lv_iload_n hx hb dX2_setFall_1 rfl (lv_at hl 1 rfl) ?_
  refine w_call (w_runV (n := 1) (As := [.int (nI i)]) (rest := []) hx hb hml hown hX (c_X2_wandAt_g l g μ s.heap.size hF hO hi) kw337 kw1 kw334 kw336 kp13 wn_X2_wandAt rfl f1 rfl ⟨Nat.le_of_ble_eq_true rfl, Nat.le_of_ble_eq_true rfl⟩ hl.1 rfl (Nat.le_of_ble_eq_true rfl) dX2_setFall_2 ⟨Nat.le_of_ble_eq_true rfl, Nat.le_of_ble_eq_true rfl⟩) hX (fun r_3 μ_1 H locs q_2 hX hz => ?_)
  obtain ⟨rfl, e_4⟩ := q_2
  rw [e_4] at hX
  refine W.eq (g2 := F0 m 5 ls [.ref (Λ 7 i)]) rfl ?_
  have kw_5 := f6 i hi
  have kw_5b := o3 i hi
  refine lv_astore_n (lv' := [(3, .ref (Λ 7 i)), (0, .ref (Λ 0 0)), (1, .int (nI i)), (2, .int (nI b))]) hx hb dX2_setFall_5 rfl hl (by decide) rfl (fun ls hl => ?_)
  refine lv_iload_n hx hb dX2_setFall_6 rfl (lv_at hl 3 rfl) ?_
  refine lv_iconst (v := nI 0) hx hb dX2_setFall_7 (by decide) ?_
  refine lv_bipush (v := nI 9) hx hb dX2_setFall_8 (by decide) ?_
  refine w_call (w_runS (n := 3) (As := [.int (nI b), .int (nI 0), .int (nI 9)]) (rest := []) hx hb hml hown hX (c_X2_needWithin_g l g μ H.size (Nat.zero_le _) h2 (by omega)) kw229 kw1 kw227 kw228 wn_X2_needWithin rfl ⟨Nat.le_of_ble_eq_true rfl, Nat.le_of_ble_eq_true rfl⟩ hl.1 rfl (Nat.le_of_ble_eq_true rfl) dX2_setFall_10 ⟨Nat.le_of_ble_eq_true rfl, Nat.le_of_ble_eq_true rfl⟩) hX (fun r_8 μ_6 H locs q_7 hX hz => ?_)
  obtain ⟨rfl, e_9⟩ := q_7
  rw [e_9] at hX
  refine W.eq (g2 := F0 m 13 ls []) rfl ?_
  refine lv_aload_n hx hb dX2_setFall_13 rfl (lv_at hl 0 rfl) ?_
  refine gnX1_2 hx hb hX hown kw_5 kw64 dX2_setFall_14 ?_
  refine lv_istore (lv' := [(4, .int (nI (σ 6 i))), (3, .ref (Λ 7 i)), (0, .ref (Λ 0 0)), (1, .int (nI i)), (2, .int (nI b))]) hx hb dX2_setFall_17 hl (by decide) rfl (fun ls hl => ?_)
  refine lv_aload_n hx hb dX2_setFall_19 rfl (lv_at hl 1 rfl) ?_
  refine lv_iload_n hx hb dX2_setFall_20 rfl (lv_at hl 4 rfl) ?_
  refine pnX1_2 hx hb hX hown kw_5 kw64 dX2_setFall_21 (fun H locs hX => ?_)
  obtain ⟨μ_10, e_11⟩ : ∃ z, z = va_up μ (Λ 7 i) (some (.inr (2, [.int (nI i), .int (nI (σ 5 i)), .int (nI b), .int (nI (σ 7 i))]))) := ⟨_, rfl⟩
  rw [← e_11] at hX
  have k_12 : μ_10 (Λ 7 i) = some (.inr (2, [.int (nI i), .int (nI (σ 5 i)), .int (nI b), .int (nI (σ 7 i))])) := by rw [e_11]; exact va_up_self _ _ _
  refine lv_iload hx hb dX2_setFall_24 (lv_at hl 0 rfl) ?_
  exact w_iret hx hb hr hlocks hX ⟨rfl, hF.w1 hi (by rw [k_12]; simp [cW, up2]) (fun q n => by rw [e_11, va_up_ne _ _ n]) (fun f k h => if_neg (fun z => h ⟨by omega, by omega, z.2⟩))⟩ ⟨Nat.le_of_ble_eq_true rfl, Nat.le_of_ble_eq_true rfl⟩ dX2_setFall_26

set_option maxHeartbeats 4000000 in
set_option maxRecDepth 100000 in
/-- forgiven -/
theorem c_X2_forgive_g (l : Launch) (g : wG) (μ : wMu) (zz : Nat) {Λ σ : sSt} {xv : Option Int64} (hF : fD g Λ xv σ μ) (hO : sOk σ) {j : Nat} (hj : j < σ 4 0) : wMet l yX2_forgive cX2_forgive 2 (some .int) 4 0 0 85 g [.ref (Λ 0 0), .int (nI j)] μ zz (fun r μ' => r = some (.int (nI (σ 11 j))) ∧ fD g Λ xv (nFor σ j) μ') := by
  refine wMet.of (by decide) (Nat.le_of_ble_eq_true rfl) ?_
  intro p e s m below meth c ls hx hb hr hml hown hlocks hin hl hsz hX
  have hl : lv_has ls 2 [(0, .ref (Λ 0 0)), (1, .int (nI j))] := hl
  obtain ⟨f1, ⟨m1, f2⟩, ⟨m2, f3⟩, f4, f5, f6, f7, ⟨t1, t2, t3, t4, f8⟩, ⟨u1, u2, u3, u4, u5, f9⟩, f10, f11⟩ := id hF
  obtain ⟨o1, o2, o3, o4, o5, o6, o7⟩ := id hO
  refine lv_aload_n hx hb dX2_forgive_0 rfl (lv_at hl 0 rfl) ?_
  refine lv_iload_n hx hb dX2_forgive_1 rfl (lv_at hl 1 rfl) ?_
  refine w_call (w_runV (n := 1) (As := [.int (nI j)]) (rest := []) hx hb hml hown hX (c_X2_childAt_g l g μ s.heap.size hF hO hj) kw137 kw1 kw134 kw136 kp0 wn_X2_childAt rfl f1 rfl ⟨Nat.le_of_ble_eq_true rfl, Nat.le_of_ble_eq_true rfl⟩ hl.1 rfl (Nat.le_of_ble_eq_true rfl) dX2_forgive_2 ⟨Nat.le_of_ble_eq_true rfl, Nat.le_of_ble_eq_true rfl⟩) hX (fun r_3 μ_1 H locs q_2 hX hz => ?_)
  obtain ⟨rfl, e_4⟩ := q_2
  rw [e_4] at hX
  refine W.eq (g2 := F0 m 5 ls [.ref (Λ 8 j)]) rfl ?_
  have kc_5 := f7 j hj
  have kc_5b := o4 j hj
  have kw_6 := f6 (σ 8 j) kc_5b.1
  have kw_6b := o3 (σ 8 j) kc_5b.1
  refine w_call (w_runVN (n := 0) (As := []) (rest := []) hx hb hml hown hX (c_X0_letOff l g μ H.size kc_5) kw617 kw6 kw614 kw616 kp25 wn_X0_letOff rfl kc_5 rfl ⟨Nat.le_of_ble_eq_true rfl, Nat.le_of_ble_eq_true rfl⟩ hl.1 rfl (Nat.le_of_ble_eq_true rfl) dX2_forgive_5 ⟨Nat.le_of_ble_eq_true rfl, Nat.le_of_ble_eq_true rfl⟩) hX (fun r_9 μ_7 H locs q_8 hX hz => ?_)
  obtain ⟨rfl, k1, k2⟩ := q_8
  refine W.eq (g2 := F0 m 8 ls [.int (nI (σ 11 j))]) rfl ?_
  exact w_iret hx hb hr hlocks hX ⟨rfl, hF.c1 hj (by rw [k1]; simp [cC, nFor, up2]) k2 (fun f k h => by simp only [nFor, up2]; rw [if_neg (fun z => h ⟨by omega, by omega, z.2⟩), if_neg (fun z => h ⟨by omega, by omega, z.2⟩)])⟩ ⟨Nat.le_of_ble_eq_true rfl, Nat.le_of_ble_eq_true rfl⟩ dX2_forgive_8

