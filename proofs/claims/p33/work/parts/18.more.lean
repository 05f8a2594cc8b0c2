set_option maxHeartbeats 4000000 in
set_option maxRecDepth 100000 in
/-- a wand more -/
theorem c_X2_addWand (l : Launch) (hlt : l.stackTraces = false) (g : wG) (μ : wMu) (zz : Nat) {Λ σ : sSt} {xv : Option Int64} (hF : fD g Λ xv σ μ) (hO : sOk σ) {x y : Int32} : wMetX l yX2_addWand cX2_addWand 4 (some .int) 7 4 26 112 g [.ref (Λ 0 0), .int x, .int y] μ zz (fun r μ' => ∃ a b Λ', 1 ≤ a ∧ a ≤ 60 ∧ b ≤ 9 ∧ σ 3 0 < 4 ∧ x = nI a ∧ y = nI b ∧ r = some (.int (nI (σ 3 0))) ∧ fD g Λ' xv (nAddW σ a b) μ' ∧ Λ' 0 0 = Λ 0 0 ∧ Λ' 9 0 = Λ 9 0) (fun E => (E = xIAE ∧ ¬ (isI x 1 60 ∧ isI y 0 9)) ∨ (E = xISE ∧ (isI x 1 60 ∧ isI y 0 9) ∧ 4 ≤ σ 3 0)) := by
  refine wMetX.of (by decide) (Nat.le_of_ble_eq_true rfl) ?_
  intro p e s m below meth c ls hx hb hr hml hown hlocks hin hl hsz hX hxt
  have hl : lv_has ls 4 [(0, .ref (Λ 0 0)), (1, .int x), (2, .int y)] := hl
  obtain ⟨f1, ⟨m1, f2⟩, ⟨m2, f3⟩, f4, f5, f6, f7, ⟨t1, t2, t3, t4, f8⟩, ⟨u1, u2, u3, u4, u5, f9⟩, f10, f11⟩ := id hF
  obtain ⟨o1, o2, o3, o4, o5, o6, o7⟩ := id hO
  have hgE := hX.nE
  refine lv_iload_n hx hb dX2_addWand_0 rfl (lv_at hl 1 rfl) ?_
  refine lv_iconst (v := nI 1) hx hb dX2_addWand_1 (by decide) ?_
  refine lv_bipush (v := nI 60) hx hb dX2_addWand_2 (by decide) ?_
  refine w_callX (w_runSX (n := 3) (As := [.int x, .int (nI 1), .int (nI 60)]) (rest := []) hx hb hml hown hX (c_X2_needWithin l hlt g μ s.heap.size (by omega) (by omega)) kw229 kw1 kw227 kw228 wn_X2_needWithin rfl ⟨Nat.le_of_ble_eq_true rfl, Nat.le_of_ble_eq_true rfl⟩ hl.1 rfl (Nat.le_of_ble_eq_true rfl) dX2_addWand_4 ⟨Nat.le_of_ble_eq_true rfl, Nat.le_of_ble_eq_true rfl⟩) hX (fun E ce q9 H locs hE hX hce hcv hcl => ?_) (fun r_3 μ_1 H locs q_2 hX hz => ?_)
  · skip
    exact w_out hxt hlocks hX (Or.inl ⟨hE.1, fun z => hE.2 z.1⟩) hce hcv hcl ⟨Nat.le_of_ble_eq_true rfl, Nat.le_of_ble_eq_true rfl⟩
  obtain ⟨a, ha1, ha2, hxe, rfl, e_4⟩ := q_2
  rw [e_4] at hX
  refine W.eq (g2 := F0 m 7 ls []) rfl ?_
  rw [hxe] at hl
  refine lv_iload_n hx hb dX2_addWand_7 rfl (lv_at hl 2 rfl) ?_
  refine lv_iconst (v := nI 0) hx hb dX2_addWand_8 (by decide) ?_
  refine lv_bipush (v := nI 9) hx hb dX2_addWand_9 (by decide) ?_
  refine w_callX (w_runSX (n := 3) (As := [.int y, .int (nI 0), .int (nI 9)]) (rest := []) hx hb hml hown hX (c_X2_needWithin l hlt g μ H.size (by omega) (by omega)) kw229 kw1 kw227 kw228 wn_X2_needWithin rfl ⟨Nat.le_of_ble_eq_true rfl, Nat.le_of_ble_eq_true rfl⟩ hl.1 rfl (Nat.le_of_ble_eq_true rfl) dX2_addWand_11 ⟨Nat.le_of_ble_eq_true rfl, Nat.le_of_ble_eq_true rfl⟩) hX (fun E ce q9 H locs hE hX hce hcv hcl => ?_) (fun r_7 μ_5 H locs q_6 hX hz => ?_)
  · skip
    exact w_out hxt hlocks hX (Or.inl ⟨hE.1, fun z => hE.2 z.2⟩) hce hcv hcl ⟨Nat.le_of_ble_eq_true rfl, Nat.le_of_ble_eq_true rfl⟩
  obtain ⟨b, hb1, hb2, hye, rfl, e_8⟩ := q_6
  rw [e_8] at hX
  refine W.eq (g2 := F0 m 14 ls []) rfl ?_
  rw [hye] at hl
  refine lv_aload_n hx hb dX2_addWand_14 rfl (lv_at hl 0 rfl) ?_
  refine gX2_0 hx hb hX hown f1 kw108 dX2_addWand_15 ?_
  refine w_call (w_runV (n := 0) (As := []) (rest := []) hx hb hml hown hX (c_Jx4a65c_size_8abf5 l g μ H.size f2) kw141 kw4 kw138 kw139 kw140 wn_Jx4a65c_size_8abf5 rfl f2 rfl ⟨Nat.le_of_ble_eq_true rfl, Nat.le_of_ble_eq_true rfl⟩ hl.1 rfl (Nat.le_of_ble_eq_true rfl) dX2_addWand_18 ⟨Nat.le_of_ble_eq_true rfl, Nat.le_of_ble_eq_true rfl⟩) hX (fun r_11 μ_9 H locs q_10 hX hz => ?_)
  obtain ⟨rfl, e_12⟩ := q_10
  rw [e_12] at hX
  refine W.eq (g2 := F0 m 21 ls [.int (nI (σ 3 0))]) rfl ?_
  refine lv_istore_n (lv' := [(3, .int (nI (σ 3 0))), (0, .ref (Λ 0 0)), (1, .int (nI a)), (2, .int (nI b))]) hx hb dX2_addWand_21 rfl hl (by decide) rfl (fun ls hl => ?_)
  refine lv_iload_n hx hb dX2_addWand_22 rfl (lv_at hl 0 rfl) ?_
  refine lv_iconst (v := nI 4) hx hb dX2_addWand_23 (by decide) ?_
  refine n_lt (tgt := 37) hx hb (by omega) (by omega) dX2_addWand_24 (by decide) (fun c_13 => ?_) (fun c_13 => ?_)
  · skip
    refine lv_aload_n hx hb dX2_addWand_37 rfl (lv_at hl 1 rfl) ?_
    refine gX2_0 hx hb hX hown f1 kw108 dX2_addWand_38 ?_
    refine w_new (ci := 2) hx hb inX1 tyX1 tyX1_ok rfl hX hown kw54 kw55 kw5 dfX1 (Nat.le_of_ble_eq_true rfl) (Nat.le_of_ble_eq_true rfl) dX2_addWand_41 (fun q_14 H hq_15 hX => ?_)
    have ne_16 : (Λ 0 0) ≠ q_14 := fun z => by have h9 := f1; rw [z, hq_15] at h9; cases h9
    have ne_17 : (Λ 1 0) ≠ q_14 := fun z => by have h9 := f2; rw [z, hq_15] at h9; cases h9
    have ne_18 : (Λ 2 0) ≠ q_14 := fun z => by have h9 := f3; rw [z, hq_15] at h9; cases h9
    obtain ⟨μ_19, e_20⟩ : ∃ z, z = va_up μ q_14 (some (.inr (2, [.int 0, .int 0, .int 0, .int 0]))) := ⟨_, rfl⟩
    rw [← e_20] at hX
    have k_21 : μ_19 q_14 = some (.inr (2, [.int 0, .int 0, .int 0, .int 0])) := by rw [e_20]; exact va_up_self _ _ _
    have k_22 := (congrFun e_20 (Λ 0 0)).trans ((va_up_ne _ _ ne_16).trans f1)
    have k_23 := (congrFun e_20 (Λ 1 0)).trans ((va_up_ne _ _ ne_17).trans f2)
    have k_24 := (congrFun e_20 (Λ 2 0)).trans ((va_up_ne _ _ ne_18).trans f3)
    refine W.eq (g2 := F0 m 44 ls [.ref q_14, .ref (Λ 1 0)]) rfl ?_
    refine lv_dup hx hb dX2_addWand_44 rfl ?_
    refine lv_iload_n hx hb dX2_addWand_45 rfl (lv_at hl 0 rfl) ?_
    refine lv_iload_n hx hb dX2_addWand_46 rfl (lv_at hl 2 rfl) ?_
    refine lv_iload_n hx hb dX2_addWand_47 rfl (lv_at hl 3 rfl) ?_
    refine w_call (w_runIN (n := 3) (As := [.int (nI (σ 3 0)), .int (nI a), .int (nI b)]) (rest := [.ref q_14, .ref (Λ 1 0)]) hx hb hml hown hX (c_X1_init l g μ_19 H.size k_21) kw58 kw5 kw56 kw57 rfl wn_X1_init rfl ⟨Nat.le_of_ble_eq_true rfl, Nat.le_of_ble_eq_true rfl⟩ hl.1 rfl (Nat.le_of_ble_eq_true rfl) dX2_addWand_48 ⟨Nat.le_of_ble_eq_true rfl, Nat.le_of_ble_eq_true rfl⟩) hX (fun r_27 μ_25 H locs q_26 hX hz => ?_)
    obtain ⟨rfl, k1, k2⟩ := q_26
    have knew : ∀ z e, μ z = some e → z ≠ q_14 := fun z e h c => by rw [c, hq_15] at h; cases h
    have kh : ∀ z e, μ z = some e → μ_25 z = some e := fun z e h => (k2 z (knew z e h)).trans ((congrFun e_20 z).trans ((va_up_ne _ _ (knew z e h)).trans h))
    have kh2 : ∀ z, z ≠ q_14 → μ_25 z = μ z := fun z hn => by rw [k2 z hn, e_20, va_up_ne _ _ hn]
    refine W.eq (g2 := F0 m 51 ls [.ref q_14, .ref (Λ 1 0)]) rfl ?_
    rcases f4 with ⟨hcz, he⟩ | ⟨fa, fa1, fa2⟩
    · skip
      have kL := (kh _ _ f2)
      rw [hcz, he] at kL
      refine w_call (w_runV (n := 1) (As := [.ref q_14]) (rest := []) hx hb hml hown hX (c_Jx4a65c_add_9ea2d_E l g μ_25 H.size kL k1 rfl kw649 (kd_ne k1 kL rfl)) kw547 kw4 kw544 kw545 kw546 wn_Jx4a65c_add_9ea2d rfl (kh _ _ f2) rfl ⟨Nat.le_of_ble_eq_true rfl, Nat.le_of_ble_eq_true rfl⟩ hl.1 rfl (Nat.le_of_ble_eq_true rfl) dX2_addWand_51 ⟨Nat.le_of_ble_eq_true rfl, Nat.le_of_ble_eq_true rfl⟩) hX (fun r_30 μ_28 H locs q_29 hX hz => ?_)
      obtain ⟨ea, rfl, kq0, kq1, kq2, kq3, kq4⟩ := q_29
      refine W.eq (g2 := F0 m 54 ls [.int (nI 1)]) rfl ?_
      refine lv_pop hx hb dX2_addWand_54 rfl ?_
      refine lv_iload_n hx hb dX2_addWand_55 rfl (lv_at hl 0 rfl) ?_
      have keq : ea ≠ q_14 := fun c => by rw [c] at kq0; rw [kq0] at k1; cases k1
      have hea : μ ea = none := by rw [← kh2 ea keq]; exact kq0
      have hR := hF.addW (a := a) (b := b) hO hgE (ea := ea) hq_15 (Or.inl hea) (by rw [hcz]; exact kq3) kq2 (fun i hi => absurd hi (by omega)) (by rw [hcz]; exact va_up_self _ _ _) (by rw [kq4 _ (Ne.symm keq) (kd_ne k1 kL rfl)]; exact k1) (fun z n1 n2 n3 => by rw [kq4 z n2 n1, kh2 z n3])
      exact vx_ret (w_iret hx hb hr hlocks hX ⟨a, b, _, ha1, ha2, hb2, by omega, hxe, hye, rfl, hR, by rw [up2_nf _ (by omega), up2_nf _ (by omega)], by rw [up2_nf _ (by omega), up2_nf _ (by omega)]⟩ ⟨Nat.le_of_ble_eq_true rfl, Nat.le_of_ble_eq_true rfl⟩ dX2_addWand_56)
    · skip
      have kL := (kh _ _ f2)
      have kA := kh _ _ fa1
      refine w_call (w_runV (n := 1) (As := [.ref q_14]) (rest := []) hx hb hml hown hX (c_Jx4a65c_add_9ea2d_R l g μ_25 H.size kL kA (kd_ne kA kL rfl) (by omega) k1 rfl kw649 (kd_ne k1 kL rfl)) kw547 kw4 kw544 kw545 kw546 wn_Jx4a65c_add_9ea2d rfl (kh _ _ f2) rfl ⟨Nat.le_of_ble_eq_true rfl, Nat.le_of_ble_eq_true rfl⟩ hl.1 rfl (Nat.le_of_ble_eq_true rfl) dX2_addWand_51 ⟨Nat.le_of_ble_eq_true rfl, Nat.le_of_ble_eq_true rfl⟩) hX (fun r_33 μ_31 H locs q_32 hX hz => ?_)
      obtain ⟨rfl, kq2, kq3, kq4⟩ := q_32
      refine W.eq (g2 := F0 m 54 ls [.int (nI 1)]) rfl ?_
      refine lv_pop hx hb dX2_addWand_54 rfl ?_
      refine lv_iload_n hx hb dX2_addWand_55 rfl (lv_at hl 0 rfl) ?_
      have hR := hF.addW (a := a) (b := b) hO hgE (ea := Λ 3 0) hq_15 (Or.inr ⟨rfl, fa, fa1⟩) kq3 kq2 (fun i hi => by rw [va_up_ne _ _ (by omega)]; exact fa2 i hi) (va_up_self _ _ _) (by rw [kq4 _ (kd_ne k1 kA rfl) (kd_ne k1 kL rfl)]; exact k1) (fun z n1 n2 n3 => by rw [kq4 z n2 n1, kh2 z n3])
      exact vx_ret (w_iret hx hb hr hlocks hX ⟨a, b, _, ha1, ha2, hb2, by omega, hxe, hye, rfl, hR, by rw [up2_nf _ (by omega), up2_nf _ (by omega)], by rw [up2_nf _ (by omega), up2_nf _ (by omega)]⟩ ⟨Nat.le_of_ble_eq_true rfl, Nat.le_of_ble_eq_true rfl⟩ dX2_addWand_56)
  · skip
    exact w_throw hx hb hlt hown (by decide +kernel) kw527 kw12 hX.1.2.2.1.2.2.2.1 hat_ISE hgd_ISE hX (hl.1.trans hml.symm) dX2_addWand_27 dX2_addWand_30 dX2_addWand_31 dX2_addWand_33 dX2_addWand_36 hxt (by decide) (Nat.le_of_ble_eq_true rfl) ⟨Nat.le_of_ble_eq_true rfl, Nat.le_of_ble_eq_true rfl⟩ hlocks (Or.inr ⟨rfl, ⟨by rw [hxe]; exact (isI_nI (by omega)).mpr ⟨ha1, ha2⟩, by rw [hye]; exact (isI_nI (by omega)).mpr ⟨hb1, hb2⟩⟩, by omega⟩) ⟨Nat.le_of_ble_eq_true rfl, Nat.le_of_ble_eq_true rfl⟩

set_option maxHeartbeats 4000000 in
set_option maxRecDepth 100000 in
/-- a child more -/
theorem c_X2_addChild (l : Launch) (hlt : l.stackTraces = false) (g : wG) (μ : wMu) (zz : Nat) {Λ σ : sSt} {xv : Option Int64} (hF : fD g Λ xv σ μ) (hO : sOk σ) {x y : Int32} : wMetX l yX2_addChild cX2_addChild 6 (some .int) 7 4 28 112 g [.ref (Λ 0 0), .int x, .int y] μ zz (fun r μ' => ∃ i b Λ', i < σ 3 0 ∧ b ≤ 29 ∧ σ 4 0 < 10 ∧ x = nI i ∧ y = nI b ∧ r = some (.int (nI (σ 4 0))) ∧ fD g Λ' xv (nAddC σ i b) μ' ∧ Λ' 0 0 = Λ 0 0 ∧ Λ' 9 0 = Λ 9 0) (fun E => (E = xIOB ∧ ¬ isX x (σ 3 0)) ∨ (E = xIAE ∧ isX x (σ 3 0) ∧ ¬ isI y 0 29) ∨ (E = xISE ∧ isX x (σ 3 0) ∧ isI y 0 29 ∧ 10 ≤ σ 4 0)) := by
  refine wMetX.of (by decide) (Nat.le_of_ble_eq_true rfl) ?_
  intro p e s m below meth c ls hx hb hr hml hown hlocks hin hl hsz hX hxt
  have hl : lv_has ls 6 [(0, .ref (Λ 0 0)), (1, .int x), (2, .int y)] := hl
  obtain ⟨f1, ⟨m1, f2⟩, ⟨m2, f3⟩, f4, f5, f6, f7, ⟨t1, t2, t3, t4, f8⟩, ⟨u1, u2, u3, u4, u5, f9⟩, f10, f11⟩ := id hF
  obtain ⟨o1, o2, o3, o4, o5, o6, o7⟩ := id hO
  have hgE := hX.nE
  refine lv_aload_n hx hb dX2_addChild_0 rfl (lv_at hl 0 rfl) ?_
  refine lv_iload_n hx hb dX2_addChild_1 rfl (lv_at hl 1 rfl) ?_
  refine w_callX (w_runVX (n := 1) (As := [.int x]) (rest := []) hx hb hml hown hX (c_X2_wandAt l hlt g μ s.heap.size hF hO) kw337 kw1 kw334 kw336 kp13 wn_X2_wandAt rfl f1 rfl ⟨Nat.le_of_ble_eq_true rfl, Nat.le_of_ble_eq_true rfl⟩ hl.1 rfl (Nat.le_of_ble_eq_true rfl) dX2_addChild_2 ⟨Nat.le_of_ble_eq_true rfl, Nat.le_of_ble_eq_true rfl⟩) hX (fun E ce q9 H locs hE hX hce hcv hcl => ?_) (fun r_3 μ_1 H locs q_2 hX hz => ?_)
  · skip
    exact w_out hxt hlocks hX (Or.inl hE) hce hcv hcl ⟨Nat.le_of_ble_eq_true rfl, Nat.le_of_ble_eq_true rfl⟩
  obtain ⟨i, hi, hxe, rfl, e_4⟩ := q_2
  rw [e_4] at hX
  refine W.eq (g2 := F0 m 5 ls [.ref (Λ 7 i)]) rfl ?_
  refine lv_astore_n (lv' := [(3, .ref (Λ 7 i)), (0, .ref (Λ 0 0)), (1, .int x), (2, .int y)]) hx hb dX2_addChild_5 rfl hl (by decide) rfl (fun ls hl => ?_)
  refine lv_iload_n hx hb dX2_addChild_6 rfl (lv_at hl 3 rfl) ?_
  refine lv_iconst (v := nI 0) hx hb dX2_addChild_7 (by decide) ?_
  refine lv_bipush (v := nI 29) hx hb dX2_addChild_8 (by decide) ?_
  refine w_callX (w_runSX (n := 3) (As := [.int y, .int (nI 0), .int (nI 29)]) (rest := []) hx hb hml hown hX (c_X2_needWithin l hlt g μ H.size (by omega) (by omega)) kw229 kw1 kw227 kw228 wn_X2_needWithin rfl ⟨Nat.le_of_ble_eq_true rfl, Nat.le_of_ble_eq_true rfl⟩ hl.1 rfl (Nat.le_of_ble_eq_true rfl) dX2_addChild_10 ⟨Nat.le_of_ble_eq_true rfl, Nat.le_of_ble_eq_true rfl⟩) hX (fun E ce q9 H locs hE hX hce hcv hcl => ?_) (fun r_7 μ_5 H locs q_6 hX hz => ?_)
  · skip
    exact w_out hxt hlocks hX (Or.inr (Or.inl ⟨hE.1, (by rw [hxe]; exact (isX_nI (by omega)).mpr hi), hE.2⟩)) hce hcv hcl ⟨Nat.le_of_ble_eq_true rfl, Nat.le_of_ble_eq_true rfl⟩
  obtain ⟨b, hb1, hb2, hye, rfl, e_8⟩ := q_6
  rw [e_8] at hX
  refine W.eq (g2 := F0 m 13 ls []) rfl ?_
  rw [hye] at hl
  refine lv_aload_n hx hb dX2_addChild_13 rfl (lv_at hl 1 rfl) ?_
  refine gX2_1 hx hb hX hown f1 kw109 dX2_addChild_14 ?_
  refine w_call (w_runV (n := 0) (As := []) (rest := []) hx hb hml hown hX (c_Jx4a65c_size_8abf5 l g μ H.size f3) kw141 kw4 kw138 kw139 kw140 wn_Jx4a65c_size_8abf5 rfl f3 rfl ⟨Nat.le_of_ble_eq_true rfl, Nat.le_of_ble_eq_true rfl⟩ hl.1 rfl (Nat.le_of_ble_eq_true rfl) dX2_addChild_17 ⟨Nat.le_of_ble_eq_true rfl, Nat.le_of_ble_eq_true rfl⟩) hX (fun r_11 μ_9 H locs q_10 hX hz => ?_)
  obtain ⟨rfl, e_12⟩ := q_10
  rw [e_12] at hX
  refine W.eq (g2 := F0 m 20 ls [.int (nI (σ 4 0))]) rfl ?_
  refine lv_istore (lv' := [(4, .int (nI (σ 4 0))), (3, .ref (Λ 7 i)), (0, .ref (Λ 0 0)), (1, .int x), (2, .int (nI b))]) hx hb dX2_addChild_20 hl (by decide) rfl (fun ls hl => ?_)
  refine lv_iload hx hb dX2_addChild_22 (lv_at hl 0 rfl) ?_
  refine lv_bipush (v := nI 10) hx hb dX2_addChild_24 (by decide) ?_
  refine n_lt (tgt := 39) hx hb (by omega) (by omega) dX2_addChild_26 (by decide) (fun c_13 => ?_) (fun c_13 => ?_)
  · skip
    refine w_new (ci := 1) hx hb inX0 tyX0 tyX0_ok rfl hX hown kw77 kw78 kw6 dfX0 (Nat.le_of_ble_eq_true rfl) (Nat.le_of_ble_eq_true rfl) dX2_addChild_39 (fun q_14 H hq_15 hX => ?_)
    have ne_16 : (Λ 0 0) ≠ q_14 := fun z => by have h9 := f1; rw [z, hq_15] at h9; cases h9
    have ne_17 : (Λ 1 0) ≠ q_14 := fun z => by have h9 := f2; rw [z, hq_15] at h9; cases h9
    have ne_18 : (Λ 2 0) ≠ q_14 := fun z => by have h9 := f3; rw [z, hq_15] at h9; cases h9
    obtain ⟨μ_19, e_20⟩ : ∃ z, z = va_up μ q_14 (some (.inr (1, [.null, .int 0, .int 0, .int 0, .int 0, .int 0]))) := ⟨_, rfl⟩
    rw [← e_20] at hX
    have k_21 : μ_19 q_14 = some (.inr (1, [.null, .int 0, .int 0, .int 0, .int 0, .int 0])) := by rw [e_20]; exact va_up_self _ _ _
    have k_22 := (congrFun e_20 (Λ 0 0)).trans ((va_up_ne _ _ ne_16).trans f1)
    have k_23 := (congrFun e_20 (Λ 1 0)).trans ((va_up_ne _ _ ne_17).trans f2)
    have k_24 := (congrFun e_20 (Λ 2 0)).trans ((va_up_ne _ _ ne_18).trans f3)
    refine W.eq (g2 := F0 m 42 ls [.ref q_14]) rfl ?_
    refine lv_dup hx hb dX2_addChild_42 rfl ?_
    refine lv_aload_n hx hb dX2_addChild_43 rfl (lv_at hl 1 rfl) ?_
    refine lv_iload_n hx hb dX2_addChild_44 rfl (lv_at hl 4 rfl) ?_
    refine w_call (w_runIN (n := 2) (As := [.ref (Λ 7 i), .int (nI b)]) (rest := [.ref q_14]) hx hb hml hown hX (c_X0_init l g μ_19 H.size k_21) kw81 kw6 kw79 kw80 rfl wn_X0_init rfl ⟨Nat.le_of_ble_eq_true rfl, Nat.le_of_ble_eq_true rfl⟩ hl.1 rfl (Nat.le_of_ble_eq_true rfl) dX2_addChild_45 ⟨Nat.le_of_ble_eq_true rfl, Nat.le_of_ble_eq_true rfl⟩) hX (fun r_27 μ_25 H locs q_26 hX hz => ?_)
    obtain ⟨rfl, k1, k2⟩ := q_26
    have knew : ∀ z e, μ z = some e → z ≠ q_14 := fun z e h c => by rw [c, hq_15] at h; cases h
    have kh : ∀ z e, μ z = some e → μ_25 z = some e := fun z e h => (k2 z (knew z e h)).trans ((congrFun e_20 z).trans ((va_up_ne _ _ (knew z e h)).trans h))
    have kh2 : ∀ z, z ≠ q_14 → μ_25 z = μ z := fun z hn => by rw [k2 z hn, e_20, va_up_ne _ _ hn]
    have hF2 := hF.mono kh
    have k1n : μ_25 q_14 = some (.inr (1, [.ref (Λ 7 i), .int (nI b), .int (nI 0), .int (nI 0), .int (nI 0), .int (nI 4)])) := k1
    refine W.eq (g2 := F0 m 48 ls [.ref q_14]) rfl ?_
    refine lv_astore (lv' := [(5, .ref q_14), (4, .int (nI (σ 4 0))), (3, .ref (Λ 7 i)), (0, .ref (Λ 0 0)), (1, .int x), (2, .int (nI b))]) hx hb dX2_addChild_48 hl (by decide) rfl (fun ls hl => ?_)
    refine lv_aload hx hb dX2_addChild_50 (lv_at hl 0 rfl) ?_
    refine lv_aload_n hx hb dX2_addChild_52 rfl (lv_at hl 3 rfl) ?_
    refine w_call (w_runV (n := 0) (As := []) (rest := [.ref q_14]) hx hb hml hown hX (c_X2_day l g μ_25 H.size hF2 hO) kw308 kw1 kw367 kw306 kw307 wn_X2_day rfl (kh _ _ f1) rfl ⟨Nat.le_of_ble_eq_true rfl, Nat.le_of_ble_eq_true rfl⟩ hl.1 rfl (Nat.le_of_ble_eq_true rfl) dX2_addChild_53 ⟨Nat.le_of_ble_eq_true rfl, Nat.le_of_ble_eq_true rfl⟩) hX (fun r_30 μ_28 H locs q_29 hX hz => ?_)
    obtain ⟨rfl, e_31⟩ := q_29
    rw [e_31] at hX
    refine W.eq (g2 := F0 m 56 ls [.int (nI (σ 0 0 / 24)), .ref q_14]) rfl ?_
    refine w_call (w_runVN (n := 1) (As := [.int (nI (σ 0 0 / 24))]) (rest := []) hx hb hml hown hX (c_X0_beginDay l g μ_25 H.size k1n (by omega) (by omega)) kw300 kw6 kw601 kw299 kp12 wn_X0_beginDay rfl k1n rfl ⟨Nat.le_of_ble_eq_true rfl, Nat.le_of_ble_eq_true rfl⟩ hl.1 rfl (Nat.le_of_ble_eq_true rfl) dX2_addChild_56 ⟨Nat.le_of_ble_eq_true rfl, Nat.le_of_ble_eq_true rfl⟩) hX (fun r_34 μ_32 H locs q_33 hX hz => ?_)
    obtain ⟨rfl, k3, k4⟩ := q_33
    have kh3 : ∀ z e, μ z = some e → μ_32 z = some e := fun z e h => (k4 z (knew z e h)).trans (kh z e h)
    have kh4 : ∀ z, z ≠ q_14 → μ_32 z = μ z := fun z hn => (k4 z hn).trans (kh2 z hn)
    refine W.eq (g2 := F0 m 59 ls []) rfl ?_
    refine lv_aload_n hx hb dX2_addChild_59 rfl (lv_at hl 3 rfl) ?_
    refine gX2_1 hx hb hX hown (kh3 _ _ f1) kw109 dX2_addChild_60 ?_
    refine lv_aload hx hb dX2_addChild_63 (lv_at hl 0 rfl) ?_
    rcases f5 with ⟨hcz, he⟩ | ⟨fa, fa1, fa2⟩
    · skip
      have kL := (kh3 _ _ f3)
      rw [hcz, he] at kL
      refine w_call (w_runV (n := 1) (As := [.ref q_14]) (rest := []) hx hb hml hown hX (c_Jx4a65c_add_9ea2d_E l g μ_32 H.size kL k3 rfl kw650 (kd_ne k3 kL rfl)) kw547 kw4 kw544 kw545 kw546 wn_Jx4a65c_add_9ea2d rfl (kh3 _ _ f3) rfl ⟨Nat.le_of_ble_eq_true rfl, Nat.le_of_ble_eq_true rfl⟩ hl.1 rfl (Nat.le_of_ble_eq_true rfl) dX2_addChild_65 ⟨Nat.le_of_ble_eq_true rfl, Nat.le_of_ble_eq_true rfl⟩) hX (fun r_37 μ_35 H locs q_36 hX hz => ?_)
      obtain ⟨ea, rfl, kq0, kq1, kq2, kq3, kq4⟩ := q_36
      refine W.eq (g2 := F0 m 68 ls [.int (nI 1)]) rfl ?_
      refine lv_pop hx hb dX2_addChild_68 rfl ?_
      refine lv_iload hx hb dX2_addChild_69 (lv_at hl 1 rfl) ?_
      have keq : ea ≠ q_14 := fun c => by rw [c] at kq0; rw [kq0] at k3; cases k3
      have hea : μ ea = none := by rw [← kh4 ea keq]; exact kq0
      have hR := hF.addC (a := i) (b := b) hO hgE (ea := ea) hi hq_15 (Or.inl hea) (by rw [hcz]; exact kq3) kq2 (fun i hi => absurd hi (by omega)) (by rw [hcz]; exact va_up_self _ _ _) (by rw [kq4 _ (Ne.symm keq) (kd_ne k3 kL rfl)]; exact k3) (fun z n1 n2 n3 => by rw [kq4 z n2 n1, kh4 z n3])
      exact vx_ret (w_iret hx hb hr hlocks hX ⟨i, b, _, hi, hb2, by omega, hxe, hye, rfl, hR, by rw [up2_nf _ (by omega), up2_nf _ (by omega)], by rw [up2_nf _ (by omega), up2_nf _ (by omega)]⟩ ⟨Nat.le_of_ble_eq_true rfl, Nat.le_of_ble_eq_true rfl⟩ dX2_addChild_71)
    · skip
      have kL := (kh3 _ _ f3)
      have kA := kh3 _ _ fa1
      refine w_call (w_runV (n := 1) (As := [.ref q_14]) (rest := []) hx hb hml hown hX (c_Jx4a65c_add_9ea2d_R l g μ_32 H.size kL kA (kd_ne kA kL rfl) (by omega) k3 rfl kw650 (kd_ne k3 kL rfl)) kw547 kw4 kw544 kw545 kw546 wn_Jx4a65c_add_9ea2d rfl (kh3 _ _ f3) rfl ⟨Nat.le_of_ble_eq_true rfl, Nat.le_of_ble_eq_true rfl⟩ hl.1 rfl (Nat.le_of_ble_eq_true rfl) dX2_addChild_65 ⟨Nat.le_of_ble_eq_true rfl, Nat.le_of_ble_eq_true rfl⟩) hX (fun r_40 μ_38 H locs q_39 hX hz => ?_)
      obtain ⟨rfl, kq2, kq3, kq4⟩ := q_39
      refine W.eq (g2 := F0 m 68 ls [.int (nI 1)]) rfl ?_
      refine lv_pop hx hb dX2_addChild_68 rfl ?_
      refine lv_iload hx hb dX2_addChild_69 (lv_at hl 1 rfl) ?_
      have hR := hF.addC (a := i) (b := b) hO hgE (ea := Λ 4 0) hi hq_15 (Or.inr ⟨rfl, fa, fa1⟩) kq3 kq2 (fun i hi => by rw [va_up_ne _ _ (by omega)]; exact fa2 i hi) (va_up_self _ _ _) (by rw [kq4 _ (kd_ne k3 kA rfl) (kd_ne k3 kL rfl)]; exact k3) (fun z n1 n2 n3 => by rw [kq4 z n2 n1, kh4 z n3])
      exact vx_ret (w_iret hx hb hr hlocks hX ⟨i, b, _, hi, hb2, by omega, hxe, hye, rfl, hR, by rw [up2_nf _ (by omega), up2_nf _ (by omega)], by rw [up2_nf _ (by omega), up2_nf _ (by omega)]⟩ ⟨Nat.le_of_ble_eq_true rfl, Nat.le_of_ble_eq_true rfl⟩ dX2_addChild_71)
  · skip
    exact w_throw hx hb hlt hown (by decide +kernel) kw527 kw12 hX.1.2.2.1.2.2.2.2 hat_ISE hgd_ISE hX (hl.1.trans hml.symm) dX2_addChild_29 dX2_addChild_32 dX2_addChild_33 dX2_addChild_35 dX2_addChild_38 hxt (by decide) (Nat.le_of_ble_eq_true rfl) ⟨Nat.le_of_ble_eq_true rfl, Nat.le_of_ble_eq_true rfl⟩ hlocks (Or.inr (Or.inr ⟨rfl, (by rw [hxe]; exact (isX_nI (by omega)).mpr hi), by rw [hye]; exact (isI_nI (by omega)).mpr ⟨hb1, hb2⟩, by omega⟩)) ⟨Nat.le_of_ble_eq_true rfl, Nat.le_of_ble_eq_true rfl⟩

def Λi (o q1 q2 q3 q4 e : Nat) : sSt := fun f _ => match f with
  | 0 => o
  | 1 => q1
  | 2 => q2
  | 3 => e
  | 4 => e
  | 5 => q3
  | 6 => q4
  | _ => 0
set_option maxHeartbeats 4000000 in
set_option maxRecDepth 100000 in
/-- a new one -/
theorem c_X2_init (l : Launch) (g : wG) (μ : wMu) (zz : Nat) {o : Nat} (h0 : μ o = some (.inr (3, [.null, .null, .null, .null, .int 0, .int 0, .int 0]))) : wMet l yX2_init cX2_init 1 none 4 4 16 72 g [.ref o] μ zz (fun r μ' => r = none ∧ (∃ Λ : sSt, Λ 0 0 = o ∧ fD g Λ none (fun _ _ => 0) μ') ∧ ∀ z e, z ≠ o → μ z = some e → μ' z = some e) := by
  refine wMet.of (by decide) (Nat.le_of_ble_eq_true rfl) ?_
  intro p e s m below meth c ls hx hb hr hml hown hlocks hin hl hsz hX
  have hl : lv_has ls 1 [(0, .ref o)] := hl
  refine lv_aload_n hx hb dX2_init_0 rfl (lv_at hl 0 rfl) ?_
  refine W.objInit hx hb hown (hX.w kw25) (hX.w kInsObj) (hX.w kCdObj) rfl (by rw [hml]; exact hl.1) rfl dX2_init_1 (Nat.le_of_ble_eq_true rfl) (Nat.le_of_ble_eq_true rfl) ?_
  refine W.eq (g2 := F0 m 4 ls []) rfl ?_
  refine lv_aload_n hx hb dX2_init_4 rfl (lv_at hl 0 rfl) ?_
  refine w_new (ci := 0) hx hb inJx4a65c tyJx4a65c tyJx4a65c_ok rfl hX hown kw28 kw29 kw4 dfJx4a65c (Nat.le_of_ble_eq_true rfl) (Nat.le_of_ble_eq_true rfl) dX2_init_5 (fun q_1 H hq_2 hX => ?_)
  have ne_3 : o ≠ q_1 := fun z => by have h9 := h0; rw [z, hq_2] at h9; cases h9
  obtain ⟨μ_4, e_5⟩ : ∃ z, z = va_up μ q_1 (some (.inr (0, [.int 0, .null, .int 0]))) := ⟨_, rfl⟩
  rw [← e_5] at hX
  have k_6 : μ_4 q_1 = some (.inr (0, [.int 0, .null, .int 0])) := by rw [e_5]; exact va_up_self _ _ _
  have k_7 := (congrFun e_5 o).trans ((va_up_ne _ _ ne_3).trans h0)
  refine W.eq (g2 := F0 m 8 ls [.ref q_1, .ref o]) rfl ?_
  refine lv_dup hx hb dX2_init_8 rfl ?_
  refine w_call (w_runI (n := 0) (As := []) (rest := [.ref q_1, .ref o]) hx hb hml hown hX (c_Jx4a65c_init_da8c8 l g μ_4 H.size k_6) kw32 kw4 kw30 kw31 rfl wn_Jx4a65c_init_da8c8 rfl ⟨Nat.le_of_ble_eq_true rfl, Nat.le_of_ble_eq_true rfl⟩ hl.1 rfl (Nat.le_of_ble_eq_true rfl) dX2_init_9 ⟨Nat.le_of_ble_eq_true rfl, Nat.le_of_ble_eq_true rfl⟩) hX (fun r_12 μ_10 H locs q_11 hX hz => ?_)
  obtain ⟨rfl, ka_8, kb_9⟩ := q_11
  have k_13 := (kb_9 _ ne_3).trans k_7
  refine W.eq (g2 := F0 m 12 ls [.ref q_1, .ref o]) rfl ?_
  refine pX2_0 hx hb hin hX hown k_13 kw108 dX2_init_12 (fun H locs hX => ?_)
  obtain ⟨μ_14, e_15⟩ : ∃ z, z = va_up μ_10 o (some (.inr (3, [.ref q_1, .null, .null, .null, .int 0, .int 0, .int 0]))) := ⟨_, rfl⟩
  rw [← e_15] at hX
  have k_16 : μ_14 o = some (.inr (3, [.ref q_1, .null, .null, .null, .int 0, .int 0, .int 0])) := by rw [e_15]; exact va_up_self _ _ _
  have k_17 := (congrFun e_15 q_1).trans ((va_up_ne _ _ (Ne.symm ne_3)).trans ka_8)
  refine lv_aload_n hx hb dX2_init_15 rfl (lv_at hl 0 rfl) ?_
  refine w_new (ci := 0) hx hb inJx4a65c tyJx4a65c tyJx4a65c_ok rfl hX hown kw28 kw29 kw4 dfJx4a65c (Nat.le_of_ble_eq_true rfl) (Nat.le_of_ble_eq_true rfl) dX2_init_16 (fun q_18 H hq_19 hX => ?_)
  have ne_20 : o ≠ q_18 := fun z => by have h9 := k_16; rw [z, hq_19] at h9; cases h9
  have ne_21 : q_1 ≠ q_18 := fun z => by have h9 := k_17; rw [z, hq_19] at h9; cases h9
  obtain ⟨μ_22, e_23⟩ : ∃ z, z = va_up μ_14 q_18 (some (.inr (0, [.int 0, .null, .int 0]))) := ⟨_, rfl⟩
  rw [← e_23] at hX
  have k_24 : μ_22 q_18 = some (.inr (0, [.int 0, .null, .int 0])) := by rw [e_23]; exact va_up_self _ _ _
  have k_25 := (congrFun e_23 o).trans ((va_up_ne _ _ ne_20).trans k_16)
  have k_26 := (congrFun e_23 q_1).trans ((va_up_ne _ _ ne_21).trans k_17)
  refine W.eq (g2 := F0 m 19 ls [.ref q_18, .ref o]) rfl ?_
  refine lv_dup hx hb dX2_init_19 rfl ?_
  refine w_call (w_runI (n := 0) (As := []) (rest := [.ref q_18, .ref o]) hx hb hml hown hX (c_Jx4a65c_init_da8c8 l g μ_22 H.size k_24) kw32 kw4 kw30 kw31 rfl wn_Jx4a65c_init_da8c8 rfl ⟨Nat.le_of_ble_eq_true rfl, Nat.le_of_ble_eq_true rfl⟩ hl.1 rfl (Nat.le_of_ble_eq_true rfl) dX2_init_20 ⟨Nat.le_of_ble_eq_true rfl, Nat.le_of_ble_eq_true rfl⟩) hX (fun r_31 μ_29 H locs q_30 hX hz => ?_)
  obtain ⟨rfl, ka_27, kb_28⟩ := q_30
  have k_32 := (kb_28 _ ne_20).trans k_25
  have k_33 := (kb_28 _ ne_21).trans k_26
  refine W.eq (g2 := F0 m 23 ls [.ref q_18, .ref o]) rfl ?_
  refine pX2_1 hx hb hin hX hown k_32 kw109 dX2_init_23 (fun H locs hX => ?_)
  obtain ⟨μ_34, e_35⟩ : ∃ z, z = va_up μ_29 o (some (.inr (3, [.ref q_1, .ref q_18, .null, .null, .int 0, .int 0, .int 0]))) := ⟨_, rfl⟩
  rw [← e_35] at hX
  have k_36 : μ_34 o = some (.inr (3, [.ref q_1, .ref q_18, .null, .null, .int 0, .int 0, .int 0])) := by rw [e_35]; exact va_up_self _ _ _
  have k_37 := (congrFun e_35 q_1).trans ((va_up_ne _ _ (Ne.symm ne_3)).trans k_33)
  have k_38 := (congrFun e_35 q_18).trans ((va_up_ne _ _ (Ne.symm ne_20)).trans ka_27)
  refine lv_aload_n hx hb dX2_init_26 rfl (lv_at hl 0 rfl) ?_
  refine w_new (ci := 2) hx hb inX1 tyX1 tyX1_ok rfl hX hown kw54 kw55 kw5 dfX1 (Nat.le_of_ble_eq_true rfl) (Nat.le_of_ble_eq_true rfl) dX2_init_27 (fun q_39 H hq_40 hX => ?_)
  have ne_41 : o ≠ q_39 := fun z => by have h9 := k_36; rw [z, hq_40] at h9; cases h9
  have ne_42 : q_1 ≠ q_39 := fun z => by have h9 := k_37; rw [z, hq_40] at h9; cases h9
  have ne_43 : q_18 ≠ q_39 := fun z => by have h9 := k_38; rw [z, hq_40] at h9; cases h9
  obtain ⟨μ_44, e_45⟩ : ∃ z, z = va_up μ_34 q_39 (some (.inr (2, [.int 0, .int 0, .int 0, .int 0]))) := ⟨_, rfl⟩
  rw [← e_45] at hX
  have k_46 : μ_44 q_39 = some (.inr (2, [.int 0, .int 0, .int 0, .int 0])) := by rw [e_45]; exact va_up_self _ _ _
  have k_47 := (congrFun e_45 o).trans ((va_up_ne _ _ ne_41).trans k_36)
  have k_48 := (congrFun e_45 q_1).trans ((va_up_ne _ _ ne_42).trans k_37)
  have k_49 := (congrFun e_45 q_18).trans ((va_up_ne _ _ ne_43).trans k_38)
  refine W.eq (g2 := F0 m 30 ls [.ref q_39, .ref o]) rfl ?_
  refine lv_dup hx hb dX2_init_30 rfl ?_
  refine lv_iconst (v := nI 0) hx hb dX2_init_31 (by decide) ?_
  refine lv_iconst (v := nI 0) hx hb dX2_init_32 (by decide) ?_
  refine lv_iconst (v := nI 0) hx hb dX2_init_33 (by decide) ?_
  refine w_call (w_runIN (n := 3) (As := [.int (nI 0), .int (nI 0), .int (nI 0)]) (rest := [.ref q_39, .ref o]) hx hb hml hown hX (c_X1_init l g μ_44 H.size k_46) kw58 kw5 kw56 kw57 rfl wn_X1_init rfl ⟨Nat.le_of_ble_eq_true rfl, Nat.le_of_ble_eq_true rfl⟩ hl.1 rfl (Nat.le_of_ble_eq_true rfl) dX2_init_34 ⟨Nat.le_of_ble_eq_true rfl, Nat.le_of_ble_eq_true rfl⟩) hX (fun r_54 μ_52 H locs q_53 hX hz => ?_)
  obtain ⟨rfl, ka_50, kb_51⟩ := q_53
  have k_55 := (kb_51 _ ne_41).trans k_47
  have k_56 := (kb_51 _ ne_42).trans k_48
  have k_57 := (kb_51 _ ne_43).trans k_49
  refine W.eq (g2 := F0 m 37 ls [.ref q_39, .ref o]) rfl ?_
  refine pX2_2 hx hb hin hX hown k_55 kw110 dX2_init_37 (fun H locs hX => ?_)
  obtain ⟨μ_58, e_59⟩ : ∃ z, z = va_up μ_52 o (some (.inr (3, [.ref q_1, .ref q_18, .ref q_39, .null, .int 0, .int 0, .int 0]))) := ⟨_, rfl⟩
  rw [← e_59] at hX
  have k_60 : μ_58 o = some (.inr (3, [.ref q_1, .ref q_18, .ref q_39, .null, .int 0, .int 0, .int 0])) := by rw [e_59]; exact va_up_self _ _ _
  have k_61 := (congrFun e_59 q_1).trans ((va_up_ne _ _ (Ne.symm ne_3)).trans k_56)
  have k_62 := (congrFun e_59 q_18).trans ((va_up_ne _ _ (Ne.symm ne_20)).trans k_57)
  have k_63 := (congrFun e_59 q_39).trans ((va_up_ne _ _ (Ne.symm ne_41)).trans ka_50)
  refine lv_aload_n hx hb dX2_init_40 rfl (lv_at hl 0 rfl) ?_
  refine w_new (ci := 1) hx hb inX0 tyX0 tyX0_ok rfl hX hown kw77 kw78 kw6 dfX0 (Nat.le_of_ble_eq_true rfl) (Nat.le_of_ble_eq_true rfl) dX2_init_41 (fun q_64 H hq_65 hX => ?_)
  have ne_66 : o ≠ q_64 := fun z => by have h9 := k_60; rw [z, hq_65] at h9; cases h9
  have ne_67 : q_1 ≠ q_64 := fun z => by have h9 := k_61; rw [z, hq_65] at h9; cases h9
  have ne_68 : q_18 ≠ q_64 := fun z => by have h9 := k_62; rw [z, hq_65] at h9; cases h9
  have ne_69 : q_39 ≠ q_64 := fun z => by have h9 := k_63; rw [z, hq_65] at h9; cases h9
  obtain ⟨μ_70, e_71⟩ : ∃ z, z = va_up μ_58 q_64 (some (.inr (1, [.null, .int 0, .int 0, .int 0, .int 0, .int 0]))) := ⟨_, rfl⟩
  rw [← e_71] at hX
  have k_72 : μ_70 q_64 = some (.inr (1, [.null, .int 0, .int 0, .int 0, .int 0, .int 0])) := by rw [e_71]; exact va_up_self _ _ _
  have k_73 := (congrFun e_71 o).trans ((va_up_ne _ _ ne_66).trans k_60)
  have k_74 := (congrFun e_71 q_1).trans ((va_up_ne _ _ ne_67).trans k_61)
  have k_75 := (congrFun e_71 q_18).trans ((va_up_ne _ _ ne_68).trans k_62)
  have k_76 := (congrFun e_71 q_39).trans ((va_up_ne _ _ ne_69).trans k_63)
  refine W.eq (g2 := F0 m 44 ls [.ref q_64, .ref o]) rfl ?_
  refine lv_dup hx hb dX2_init_44 rfl ?_
  refine lv_aload_n hx hb dX2_init_45 rfl (lv_at hl 0 rfl) ?_
  refine gX2_2 hx hb hX hown k_73 kw110 dX2_init_46 ?_
  refine lv_iconst (v := nI 0) hx hb dX2_init_49 (by decide) ?_
  refine w_call (w_runIN (n := 2) (As := [.ref q_39, .int (nI 0)]) (rest := [.ref q_64, .ref o]) hx hb hml hown hX (c_X0_init l g μ_70 H.size k_72) kw81 kw6 kw79 kw80 rfl wn_X0_init rfl ⟨Nat.le_of_ble_eq_true rfl, Nat.le_of_ble_eq_true rfl⟩ hl.1 rfl (Nat.le_of_ble_eq_true rfl) dX2_init_50 ⟨Nat.le_of_ble_eq_true rfl, Nat.le_of_ble_eq_true rfl⟩) hX (fun r_81 μ_79 H locs q_80 hX hz => ?_)
  obtain ⟨rfl, ka_77, kb_78⟩ := q_80
  have k_82 := (kb_78 _ ne_66).trans k_73
  have k_83 := (kb_78 _ ne_67).trans k_74
  have k_84 := (kb_78 _ ne_68).trans k_75
  have k_85 := (kb_78 _ ne_69).trans k_76
  refine W.eq (g2 := F0 m 53 ls [.ref q_64, .ref o]) rfl ?_
  refine pX2_3 hx hb hin hX hown k_82 kw111 dX2_init_53 (fun H locs hX => ?_)
  obtain ⟨μ_86, e_87⟩ : ∃ z, z = va_up μ_79 o (some (.inr (3, [.ref q_1, .ref q_18, .ref q_39, .ref q_64, .int 0, .int 0, .int 0]))) := ⟨_, rfl⟩
  rw [← e_87] at hX
  have k_88 : μ_86 o = some (.inr (3, [.ref q_1, .ref q_18, .ref q_39, .ref q_64, .int 0, .int 0, .int 0])) := by rw [e_87]; exact va_up_self _ _ _
  have k_89 := (congrFun e_87 q_1).trans ((va_up_ne _ _ (Ne.symm ne_3)).trans k_83)
  have k_90 := (congrFun e_87 q_18).trans ((va_up_ne _ _ (Ne.symm ne_20)).trans k_84)
  have k_91 := (congrFun e_87 q_39).trans ((va_up_ne _ _ (Ne.symm ne_41)).trans k_85)
  have k_92 := (congrFun e_87 q_64).trans ((va_up_ne _ _ (Ne.symm ne_66)).trans ka_77)
  have kz0 : ∀ z e, z ≠ o → μ z = some e → μ z = some e := fun _ _ _ h => h
  have hn_93 : ∀ z e, z ≠ o → μ z = some e → z ≠ q_1 := fun z e n h c => by have h9 := kz0 z e n h; rw [c, hq_2] at h9; cases h9
  have kz_94 : ∀ z e, z ≠ o → μ z = some e → μ_4 z = some e := fun z e n h => (congrFun e_5 z).trans ((va_up_ne _ _ (hn_93 z e n h)).trans (kz0 z e n h))
  have kz_95 : ∀ z e, z ≠ o → μ z = some e → μ_10 z = some e := fun z e n h => (kb_9 z (hn_93 z e n h)).trans (kz_94 z e n h)
  have kz_96 : ∀ z e, z ≠ o → μ z = some e → μ_14 z = some e := fun z e n h => (congrFun e_15 z).trans ((va_up_ne _ _ n).trans (kz_95 z e n h))
  have hn_97 : ∀ z e, z ≠ o → μ z = some e → z ≠ q_18 := fun z e n h c => by have h9 := kz_96 z e n h; rw [c, hq_19] at h9; cases h9
  have kz_98 : ∀ z e, z ≠ o → μ z = some e → μ_22 z = some e := fun z e n h => (congrFun e_23 z).trans ((va_up_ne _ _ (hn_97 z e n h)).trans (kz_96 z e n h))
  have kz_99 : ∀ z e, z ≠ o → μ z = some e → μ_29 z = some e := fun z e n h => (kb_28 z (hn_97 z e n h)).trans (kz_98 z e n h)
  have kz_100 : ∀ z e, z ≠ o → μ z = some e → μ_34 z = some e := fun z e n h => (congrFun e_35 z).trans ((va_up_ne _ _ n).trans (kz_99 z e n h))
  have hn_101 : ∀ z e, z ≠ o → μ z = some e → z ≠ q_39 := fun z e n h c => by have h9 := kz_100 z e n h; rw [c, hq_40] at h9; cases h9
  have kz_102 : ∀ z e, z ≠ o → μ z = some e → μ_44 z = some e := fun z e n h => (congrFun e_45 z).trans ((va_up_ne _ _ (hn_101 z e n h)).trans (kz_100 z e n h))
  have kz_103 : ∀ z e, z ≠ o → μ z = some e → μ_52 z = some e := fun z e n h => (kb_51 z (hn_101 z e n h)).trans (kz_102 z e n h)
  have kz_104 : ∀ z e, z ≠ o → μ z = some e → μ_58 z = some e := fun z e n h => (congrFun e_59 z).trans ((va_up_ne _ _ n).trans (kz_103 z e n h))
  have hn_105 : ∀ z e, z ≠ o → μ z = some e → z ≠ q_64 := fun z e n h c => by have h9 := kz_104 z e n h; rw [c, hq_65] at h9; cases h9
  have kz_106 : ∀ z e, z ≠ o → μ z = some e → μ_70 z = some e := fun z e n h => (congrFun e_71 z).trans ((va_up_ne _ _ (hn_105 z e n h)).trans (kz_104 z e n h))
  have kz_107 : ∀ z e, z ≠ o → μ z = some e → μ_79 z = some e := fun z e n h => (kb_78 z (hn_105 z e n h)).trans (kz_106 z e n h)
  have kz_108 : ∀ z e, z ≠ o → μ z = some e → μ_86 z = some e := fun z e n h => (congrFun e_87 z).trans ((va_up_ne _ _ n).trans (kz_107 z e n h))
  exact w_vret hx hb hr hlocks hX ⟨rfl, ⟨Λi o q_1 q_18 q_39 q_64 (gE g), rfl, ⟨k_88, ⟨_, k_89⟩, ⟨_, k_90⟩, Or.inl ⟨rfl, rfl⟩, Or.inl ⟨rfl, rfl⟩, fun i h => absurd h (Nat.not_lt_zero _), fun i h => absurd h (Nat.not_lt_zero _), ⟨_, _, _, _, k_91⟩, ⟨_, _, _, _, _, k_92⟩, ⟨ne_21, fun _ => rfl, fun i k h => absurd h (Nat.not_lt_zero _), fun i k h => absurd h (Nat.not_lt_zero _), fun i h => absurd h (Nat.not_lt_zero _), fun i h => absurd h (Nat.not_lt_zero _)⟩, fun v h => by cases h⟩⟩, kz_108⟩ ⟨Nat.le_of_ble_eq_true rfl, Nat.le_of_ble_eq_true rfl⟩ dX2_init_56

