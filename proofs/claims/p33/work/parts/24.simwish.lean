set_option maxHeartbeats 4000000 in
set_option maxRecDepth 100000 in
/-- hours -/
theorem c_X3_pass_ (l : Launch) (g : wG) (μ : wMu) (zz : Nat) {Ω σ : sSt} {τ : Nat → Nat} (hS : sD g Ω τ σ μ) (hO : sOk σ) (h9 : σ 0 0 ≤ 51900) {b : Nat} (h2 : b ≤ 100) : wMet l yX3_pass_ cX3_pass_ 4 (some .int) 2 0 0 47 g [.ref (Ω 0 0), .int (nI b)] μ zz (fun r μ' => r = some (.int (nI (sFal σ b (σ 3 0)))) ∧ sD g Ω τ (nPas σ b) μ') := by
  refine wMet.of (by decide) (Nat.le_of_ble_eq_true rfl) ?_
  intro p e s m below meth c ls hx hb hr hml hown hlocks hin hl hsz hX
  have hl : lv_has ls 4 [(0, .ref (Ω 0 0)), (1, .int (nI b))] := hl
  obtain ⟨s1, ⟨fw, s2, s2'⟩, ⟨fc, s3, s3'⟩, s4, s5, s6, s7⟩ := id hS
  obtain ⟨o1, o2, o3, o4, o5, o6, o7⟩ := id hO
  refine lv_iconst (v := nI 0) hx hb dX3_pass__0 (by decide) ?_
  refine lv_istore_n (lv' := [(2, .int (nI 0)), (0, .ref (Ω 0 0)), (1, .int (nI b))]) hx hb dX3_pass__1 rfl hl (by decide) rfl (fun ls hl => ?_)
  refine lv_iconst (v := nI 0) hx hb dX3_pass__2 (by decide) ?_
  refine lv_istore_n (lv' := [(3, .int (nI 0)), (2, .int (nI 0)), (0, .ref (Ω 0 0)), (1, .int (nI b))]) hx hb dX3_pass__3 rfl hl (by decide) rfl (fun ls hl => ?_)
  have hloop : ∀ (n : Nat) (i : Nat) (ν : wMu) (H : Heap) (locs : List Loc) (ls : Array Slot), b < i + n → i ≤ b → sD g Ω τ (nPas σ i) ν → wX g (wA μ zz) s H locs ν → lv_has ls 4 [(3, .int (nI i)), (2, .int (nI (sFal σ i (σ 3 0)))), (0, .ref (Ω 0 0)), (1, .int (nI b))] → W p l e ({ frames := 2, cells := 0, slots := 0, locals := 47 } : Room) s m ([.ref (Ω 0 0), .int (nI b)] : List Value).toArray below meth c H locs 0 0 (MQ below (wQc g μ zz (fun r μ' => r = some (.int (nI (sFal σ b (σ 3 0)))) ∧ sD g Ω τ (nPas σ b) μ')) ([.ref (Ω 0 0), .int (nI b)] : List Value).toArray s 0 0 (wA μ zz)) (F0 m 4 ls []) := by
    intro n
    induction n with
    | zero => intro i ν H locs ls hn hi hS hX hl; exact absurd hn (by omega)
    | succ n ih =>
      intro i ν H locs ls hn hi hS hX hl
      refine lv_iload_n hx hb dX3_pass__4 rfl (lv_at hl 0 rfl) ?_
      refine lv_iload_n hx hb dX3_pass__5 rfl (lv_at hl 3 rfl) ?_
      refine n_ge (tgt := 22) hx hb (by omega) (by omega) dX3_pass__6 (by decide) (fun c_1 => ?_) (fun c_1 => ?_)
      · skip
        refine lv_iload_n hx hb dX3_pass__22 rfl (lv_at hl 1 rfl) ?_
        obtain rfl : i = b := by omega
        exact w_iret hx hb hr hlocks hX ⟨rfl, hS⟩ ⟨Nat.le_of_ble_eq_true rfl, Nat.le_of_ble_eq_true rfl⟩ dX3_pass__23
      · skip
        refine lv_iload_n hx hb dX3_pass__9 rfl (lv_at hl 1 rfl) ?_
        refine lv_aload_n hx hb dX3_pass__10 rfl (lv_at hl 2 rfl) ?_
        have hO2 := hO.pas (k := i) (by omega)
        refine w_call (w_runV (n := 0) (As := []) (rest := [.int (nI (sFal σ i (σ 3 0)))]) hx hb hml hown hX (c_X3_pass l g ν H.size hS hO2 (by rw [nPas_00]; omega)) kw466 kw7 kw463 kw464 kw465 wn_X3_pass rfl hS.1 rfl ⟨Nat.le_of_ble_eq_true rfl, Nat.le_of_ble_eq_true rfl⟩ hl.1 rfl (Nat.le_of_ble_eq_true rfl) dX3_pass__11 ⟨Nat.le_of_ble_eq_true rfl, Nat.le_of_ble_eq_true rfl⟩) hX (fun r_4 μ_2 H locs q_3 hX hz => ?_)
        obtain ⟨rfl, hS2⟩ := q_3
        rw [nPas_s] at hS2
        refine W.eq (g2 := F0 m 14 ls [.int (nI (sFal (nPas σ i) 1 (nPas σ i 3 0))), .int (nI (sFal σ i (σ 3 0)))]) rfl ?_
        refine n_iadd hx hb dX3_pass__14 (nI_add _ _) ?_
        refine lv_istore_n (lv' := [(2, .int (nI ((sFal σ i (σ 3 0)) + (sFal (nPas σ i) 1 (nPas σ i 3 0))))), (3, .int (nI i)), (0, .ref (Ω 0 0)), (1, .int (nI b))]) hx hb dX3_pass__15 rfl hl (by decide) rfl (fun ls hl => ?_)
        refine lv_iinc (v := nI (i + 1)) (lv' := [(3, .int (nI (i + 1))), (2, .int (nI ((sFal σ i (σ 3 0)) + (sFal (nPas σ i) 1 (nPas σ i 3 0))))), (0, .ref (Ω 0 0)), (1, .int (nI b))]) hx hb dX3_pass__16 hl (k := 1) rfl (nI_inc _) (by decide) rfl (fun ls hl => ?_)
        refine lv_goto (tgt := 4) hx hb dX3_pass__19 (by decide) ?_
        rw [show sFal σ i (σ 3 0) + sFal (nPas σ i) 1 (nPas σ i 3 0) = sFal σ (i + 1) (σ 3 0) by rw [nPas_o σ (show _ by omega : ¬ ((3 : Nat) = 0 ∧ 0 = 0) ∧ _)]; exact sFal_s hO i _ (Nat.le_refl _)] at hl
        refine ih (i + 1) _ H locs ls (by omega) (by omega) hS2 hX ?_
        exact lv_sub hl [0, 1, 2, 3] rfl
  exact hloop (b + 1) 0 μ s.heap [] ls (by omega) (by omega) (by rw [nPas_0 hO]; exact hS) hX (by rw [sFal_0 hO (σ 3 0) (Nat.le_refl _)]; exact hl)

def tWi (σ : sSt) (τ : Nat → Nat) (j sz : Nat) : Nat → Nat := fun k => if k = j ∧ ¬ okW σ j sz ∧ σ 11 j = 0 ∧ 2 ≤ σ 12 j then τ j + 1 else τ k
theorem tWi_n (σ : sSt) (τ : Nat → Nat) (j sz : Nat) {k : Nat} (h : k ≠ j) : tWi σ τ j sz k = τ k := if_neg (fun z => h z.1)
theorem nWis_o (σ : sSt) (j sz : Nat) {f k : Nat} (h0 : ¬ (f ≤ 2 ∧ k = 0)) (h1 : ¬ (8 ≤ f ∧ f ≤ 13 ∧ k = j)) (h2 : ¬ (5 ≤ f ∧ f ≤ 7 ∧ k = σ 8 j)) : nWis σ j sz f k = σ f k := by
  by_cases h : fwG sz (σ 7 (σ 8 j)) (σ 10 j) (σ 11 j) = 0
  · rw [nWis_n h, ← nWi0_o σ j sz h1 h2]; exact if_neg (by omega)
  · rw [nWis_y h, ← nWi0_o σ j sz h1 h2]; exact if_neg (by omega)
theorem nWis_at (σ : sSt) (j sz : Nat) : nWis σ j sz 5 (σ 8 j) = σ 5 (σ 8 j) ∧ nWis σ j sz 6 (σ 8 j) = σ 6 (σ 8 j) ∧ nWis σ j sz 7 (σ 8 j) = fwD sz (σ 7 (σ 8 j)) (σ 10 j) (σ 11 j) ∧ nWis σ j sz 8 j = σ 8 j ∧ nWis σ j sz 9 j = σ 9 j ∧ nWis σ j sz 10 j = fwB sz (σ 7 (σ 8 j)) (σ 10 j) (σ 11 j) ∧ nWis σ j sz 11 j = fwH sz (σ 7 (σ 8 j)) (σ 10 j) (σ 11 j) (σ 12 j) (σ 13 j) ∧ nWis σ j sz 12 j = fwM sz (σ 7 (σ 8 j)) (σ 10 j) (σ 11 j) (σ 12 j) ∧ nWis σ j sz 13 j = fwN sz (σ 7 (σ 8 j)) (σ 10 j) (σ 11 j) (σ 12 j) (σ 13 j) ∧ nWis σ j sz 0 0 = σ 0 0 ∧ nWis σ j sz 1 0 = σ 1 0 + fwG sz (σ 7 (σ 8 j)) (σ 10 j) (σ 11 j) ∧ nWis σ j sz 2 0 = σ 2 0 + (1 - fwG sz (σ 7 (σ 8 j)) (σ 10 j) (σ 11 j)) := by
  have hg := fwG_le sz (σ 7 (σ 8 j)) (σ 10 j) (σ 11 j)
  by_cases h : fwG sz (σ 7 (σ 8 j)) (σ 10 j) (σ 11 j) = 0
  · rw [nWis_n h, h]; simp [nWi0, up2]
  · rw [nWis_y h, show fwG sz (σ 7 (σ 8 j)) (σ 10 j) (σ 11 j) = 1 by omega]; simp [nWi0, up2]
theorem fw_y {sz du bu he mk nx : Nat} (h : he = 0 ∧ sz ≤ bu + du) : fwG sz du bu he = 1 ∧ fwD sz du bu he = du - (sz - bu) ∧ fwB sz du bu he = bu - sz ∧ fwH sz du bu he mk nx = he ∧ fwM sz du bu he mk = mk - 1 ∧ fwN sz du bu he mk nx = nx := by
  simp only [fwG, fwD, fwB, fwH, fwM, fwN, if_pos h, and_self]
theorem fw_h {sz du bu he mk nx : Nat} (h : 0 < he) : fwG sz du bu he = 0 ∧ fwD sz du bu he = du ∧ fwB sz du bu he = bu ∧ fwH sz du bu he mk nx = min 48 (he + 1) ∧ fwM sz du bu he mk = mk ∧ fwN sz du bu he mk nx = nx := by
  have h1 : ¬ (he = 0 ∧ sz ≤ bu + du) := by omega
  simp only [fwG, fwD, fwB, fwH, fwM, fwN, if_neg h1, if_pos h, and_self]
theorem fw_m {sz du bu he mk nx : Nat} (h : he = 0 ∧ ¬ sz ≤ bu + du) (h2 : ¬ 2 ≤ mk) : fwG sz du bu he = 0 ∧ fwD sz du bu he = du ∧ fwB sz du bu he = bu ∧ fwH sz du bu he mk nx = he ∧ fwM sz du bu he mk = mk + 1 ∧ fwN sz du bu he mk nx = nx := by
  have h1 : ¬ (he = 0 ∧ sz ≤ bu + du) := by omega
  have h3 : ¬ 0 < he := by omega
  simp only [fwG, fwD, fwB, fwH, fwM, fwN, if_neg h1, if_neg h2, if_neg h3, and_self]
theorem fw_p {sz du bu he mk nx : Nat} (h : he = 0 ∧ ¬ sz ≤ bu + du) (h2 : 2 ≤ mk) : fwG sz du bu he = 0 ∧ fwD sz du bu he = du ∧ fwB sz du bu he = bu ∧ fwH sz du bu he mk nx = nx ∧ fwM sz du bu he mk = 0 ∧ fwN sz du bu he mk nx = min 32 (nx * 2) := by
  have h1 : ¬ (he = 0 ∧ sz ≤ bu + du) := by omega
  have h3 : ¬ 0 < he := by omega
  simp only [fwG, fwD, fwB, fwH, fwM, fwN, if_neg h1, if_pos h2, if_neg h3, and_self]
set_option maxHeartbeats 4000000 in
set_option maxRecDepth 100000 in
/-- a wish -/
theorem c_X3_wish (l : Launch) (g : wG) (μ : wMu) (zz : Nat) {Ω σ : sSt} {τ : Nat → Nat} (hS : sD g Ω τ σ μ) (hO : sOk σ) (hT : sT τ σ) (h9 : σ 1 0 + σ 2 0 < 1000) {j sz : Nat} (hj : j < σ 4 0) (h1 : 1 ≤ sz) (h2 : sz ≤ 20) : wMet l yX3_wish cX3_wish 5 (some .boolean) 1 0 0 23 g [.ref (Ω 0 0), .int (nI j), .int (nI sz)] μ zz (fun r μ' => r = some (.int (nI (fwG sz (σ 7 (σ 8 j)) (σ 10 j) (σ 11 j)))) ∧ sD g Ω (tWi σ τ j sz) (nWis σ j sz) μ') := by
  refine wMet.of (by decide) (Nat.le_of_ble_eq_true rfl) ?_
  intro p e s m below meth c ls hx hb hr hml hown hlocks hin hl hsz hX
  have hl : lv_has ls 5 [(0, .ref (Ω 0 0)), (1, .int (nI j)), (2, .int (nI sz))] := hl
  obtain ⟨s1, ⟨fw, s2, s2'⟩, ⟨fc, s3, s3'⟩, s4, s5, s6, s7⟩ := id hS
  obtain ⟨o1, o2, o3, o4, o5, o6, o7⟩ := id hO
  refine lv_aload_n hx hb dX3_wish_0 rfl (lv_at hl 0 rfl) ?_
  have ocb := o4 j hj
  have owb := o3 _ ocb.1
  have htb := hT j hj
  refine gX3_1 hx hb hX hown s1 kw629 dX3_wish_1 ?_
  refine lv_iload_n hx hb dX3_wish_4 rfl (lv_at hl 1 rfl) ?_
  refine n_aaldRv hx hb hX s3 (by omega) (by omega) dX3_wish_5 (s3' j (by omega)) ?_
  obtain ⟨h_2, kr_1, r_3⟩ := s5 j (by omega)
  refine lv_astore_n (lv' := [(3, .ref (Ω 4 j)), (0, .ref (Ω 0 0)), (1, .int (nI j)), (2, .int (nI sz))]) hx hb dX3_wish_6 rfl hl (by decide) rfl (fun ls hl => ?_)
  refine lv_aload_n hx hb dX3_wish_7 rfl (lv_at hl 1 rfl) ?_
  refine lv_iload_n hx hb dX3_wish_8 rfl (lv_at hl 2 rfl) ?_
  refine lv_iload_n hx hb dX3_wish_9 rfl (lv_at hl 3 rfl) ?_
  refine w_call (w_runV (n := 2) (As := [.int (nI j), .int (nI sz)]) (rest := []) hx hb hml hown hX (c_X3_can l g μ s.heap.size hS hO hj (by omega)) kw478 kw7 kw475 kw476 kw477 wn_X3_can rfl s1 rfl ⟨Nat.le_of_ble_eq_true rfl, Nat.le_of_ble_eq_true rfl⟩ hl.1 rfl (Nat.le_of_ble_eq_true rfl) dX3_wish_10 ⟨Nat.le_of_ble_eq_true rfl, Nat.le_of_ble_eq_true rfl⟩) hX (fun r_6 μ_4 H locs q_5 hX hz => ?_)
  obtain ⟨q_8, e_7⟩ := q_5
  rw [e_7] at hX
  obtain ⟨rfl, hp⟩ | ⟨rfl, hp⟩ := q_8
  · skip
    refine W.eq (g2 := F0 m 13 ls [.int (nI 1)]) rfl ?_
    refine n_if_eq (tgt := 86) hx hb (by omega) dX3_wish_13 (by decide) (fun h => absurd h (by omega)) (fun _ => ?_)
    refine lv_iconst (v := nI 0) hx hb dX3_wish_16 (by decide) ?_
    refine lv_istore (lv' := [(4, .int (nI 0)), (3, .ref (Ω 4 j)), (0, .ref (Ω 0 0)), (1, .int (nI j)), (2, .int (nI sz))]) hx hb dX3_wish_17 hl (by decide) rfl (fun ls hl => ?_)
    obtain ⟨h_10, kr_9, r_11⟩ := s4 (σ 8 j) (by omega)
    have hloop : ∀ (n : Nat) (k bk dk : Nat) (h hh : Nat → Int32) (ν : wMu) (H : Heap) (locs : List Loc) (ls : Array Slot), sz < k + n → k ≤ sz → bk = σ 10 j - k → dk = σ 7 (σ 8 j) - (k - σ 10 j) → rC (σ 8 j) (σ 9 j) bk (σ 11 j) (σ 12 j) (τ j) h → ν (Ω 4 j) = some (sR g 6 h) → rW (σ 5 (σ 8 j)) (σ 6 (σ 8 j)) dk hh → ν (Ω 3 (σ 8 j)) = some (sR g 3 hh) → (∀ q, q ≠ Ω 4 j → q ≠ Ω 3 (σ 8 j) → ν q = μ q) → wX g (wA μ zz) s H locs ν → lv_has ls 5 [(4, .int (nI k)), (3, .ref (Ω 4 j)), (0, .ref (Ω 0 0)), (1, .int (nI j)), (2, .int (nI sz))] → W p l e ({ frames := 1, cells := 0, slots := 0, locals := 23 } : Room) s m ([.ref (Ω 0 0), .int (nI j), .int (nI sz)] : List Value).toArray below meth c H locs 0 0 (MQ below (wQc g μ zz (fun r μ' => r = some (.int (nI (fwG sz (σ 7 (σ 8 j)) (σ 10 j) (σ 11 j)))) ∧ sD g Ω (tWi σ τ j sz) (nWis σ j sz) μ')) ([.ref (Ω 0 0), .int (nI j), .int (nI sz)] : List Value).toArray s 0 0 (wA μ zz)) (F0 m 19 ls []) := by
      intro n
      induction n with
      | zero => intro k bk dk h hh ν H locs ls hn hk hbk hdk hrc hkr hrw hkw hfr hX hl; exact absurd hn (by omega)
      | succ n ih =>
        intro k bk dk h hh ν H locs ls hn hk hbk hdk hrc hkr hrw hkw hfr hX hl
        have s1k := (hfr _ (kd_ne s1 kr_1 rfl) (kd_ne s1 kr_9 rfl)).trans s1
        have s2k := (hfr _ (kd_ne s2 kr_1 rfl) (kd_ne s2 kr_9 rfl)).trans s2
        have s3k := (hfr _ (kd_ne s3 kr_1 rfl) (kd_ne s3 kr_9 rfl)).trans s3
        refine lv_iload hx hb dX3_wish_19 (lv_at hl 0 rfl) ?_
        refine lv_iload_n hx hb dX3_wish_21 rfl (lv_at hl 4 rfl) ?_
        refine n_ge (tgt := 61) hx hb (by omega) (by omega) dX3_wish_22 (by decide) (fun c_12 => ?_) (fun c_12 => ?_)
        · skip
          refine lv_aload_n hx hb dX3_wish_61 rfl (lv_at hl 1 rfl) ?_
          refine lv_iconst (v := nI 4) hx hb dX3_wish_62 (by decide) ?_
          refine n_ialdv hx hb hX hkr (by omega) (by omega) dX3_wish_63 hrc.2.2.2.2.1 ?_
          refine n_if_le (tgt := 74) hx hb (by omega) dX3_wish_64 (by decide) (fun c_13 => ?_) (fun c_13 => ?_)
          · skip
            refine lv_aload_n hx hb dX3_wish_74 rfl (lv_at hl 2 rfl) ?_
            refine lv_dup hx hb dX3_wish_75 rfl ?_
            refine gX3_3 hx hb hX hown s1k kw632 dX3_wish_76 ?_
            refine lv_iconst (v := nI 1) hx hb dX3_wish_79 (by decide) ?_
            refine n_iadd hx hb dX3_wish_80 (nI_add _ _) ?_
            refine pX3_3 hx hb hX hown s1k kw632 dX3_wish_81 (fun H locs hX => ?_)
            obtain ⟨μ_14, e_15⟩ : ∃ z, z = va_up ν (Ω 0 0) (some (.inr (4, [.ref (Ω 1 0), .ref (Ω 2 0), .int (nI (σ 0 0)), .int (nI ((σ 1 0) + 1)), .int (nI (σ 2 0))]))) := ⟨_, rfl⟩
            rw [← e_15] at hX
            have k_16 : μ_14 (Ω 0 0) = some (.inr (4, [.ref (Ω 1 0), .ref (Ω 2 0), .int (nI (σ 0 0)), .int (nI ((σ 1 0) + 1)), .int (nI (σ 2 0))])) := by rw [e_15]; exact va_up_self _ _ _
            have k_17 := (congrFun e_15 (Ω 1 0)).trans ((va_up_ne _ _ (kd_ne s2k s1k rfl)).trans s2k)
            have k_18 := (congrFun e_15 (Ω 2 0)).trans ((va_up_ne _ _ (kd_ne s3k s1k rfl)).trans s3k)
            have k_19 := (congrFun e_15 (Ω 4 j)).trans ((va_up_ne _ _ (kd_ne hkr s1k rfl)).trans hkr)
            have k_20 := (congrFun e_15 (Ω 3 (σ 8 j))).trans ((va_up_ne _ _ (kd_ne hkw s1k rfl)).trans hkw)
            refine lv_iconst (v := nI 1) hx hb dX3_wish_84 (by decide) ?_
            obtain ⟨f1, f2, f3, f4, f5, f6⟩ := fw_y (sz := sz) (du := σ 7 (σ 8 j)) (bu := σ 10 j) (he := σ 11 j) (mk := σ 12 j) (nx := σ 13 j) hp
            obtain ⟨a1, a2, a3, a4, a5, a6, a7, a8, a9, a10, a11, a12⟩ := nWis_at σ j sz
            have a13 : tWi σ τ j sz j = τ j := if_neg (by omega)
            have hS9 : sD g Ω (tWi σ τ j sz) (nWis σ j sz) μ_14 := by
              refine hS.cwx hj ocb.1 ?_ k_19 ?_ k_20 ?_ ?_ (fun f k a b c => nWis_o σ j sz a b c) (fun k h => tWi_n σ τ j sz h)
              · rw [k_16]; simp only [sS]; rw [a10, a11, a12, f1]; try rfl
              · show rC _ _ _ _ _ _ _; rw [a4, a5, a6, a7, a8, a13, f3, f4, f5]
                rw [show σ 10 j - sz = bk by omega]
                rw [show σ 12 j - 1 = σ 12 j by omega]
                exact hrc
              · show rW _ _ _ _; rw [a1, a2, a3, f2]
                rw [show σ 7 (σ 8 j) - (sz - σ 10 j) = dk by omega]
                exact hrw
              · intro q n1 n2 n3; rw [e_15, va_up_ne _ _ n1]; exact hfr q n2 n3
            exact w_zret hx hb hr hlocks hX (by first | rfl | decide) ⟨by rw [f1], hS9⟩ ⟨Nat.le_of_ble_eq_true rfl, Nat.le_of_ble_eq_true rfl⟩ dX3_wish_85
          · skip
            refine lv_aload_n hx hb dX3_wish_67 rfl (lv_at hl 1 rfl) ?_
            refine lv_iconst (v := nI 4) hx hb dX3_wish_68 (by decide) ?_
            refine lv_dup2_11 hx hb dX3_wish_69 rfl rfl ?_
            refine n_ialdv hx hb hX hkr (by omega) (by omega) dX3_wish_70 hrc.2.2.2.2.1 ?_
            refine lv_iconst (v := nI 1) hx hb dX3_wish_71 (by decide) ?_
            refine n_isub hx hb dX3_wish_72 (pk_sub (by omega)) ?_
            refine n_iast hx hb hX hkr (by omega) (by omega) dX3_wish_73 (fun H locs hX => ?_)
            obtain ⟨h_21, eh_22⟩ : ∃ z, z = upd h 4 (nI ((σ 12 j) - 1)) := ⟨_, rfl⟩
            rw [← eh_22] at hX
            have r_23 : rC (σ 8 j) (σ 9 j) bk (σ 11 j) ((σ 12 j) - 1) (τ j) h_21 := by rw [eh_22]; exact hrc.s4 _
            obtain ⟨μ_24, e_25⟩ : ∃ z, z = va_up ν (Ω 4 j) (some (sR g 6 h_21)) := ⟨_, rfl⟩
            rw [← e_25] at hX
            have k_26 : μ_24 (Ω 4 j) = some (sR g 6 h_21) := by rw [e_25]; exact va_up_self _ _ _
            have k_27 := (congrFun e_25 (Ω 0 0)).trans ((va_up_ne _ _ (kd_ne s1k hkr rfl)).trans s1k)
            have k_28 := (congrFun e_25 (Ω 1 0)).trans ((va_up_ne _ _ (kd_ne s2k hkr rfl)).trans s2k)
            have k_29 := (congrFun e_25 (Ω 2 0)).trans ((va_up_ne _ _ (kd_ne s3k hkr rfl)).trans s3k)
            have k_30 := (congrFun e_25 (Ω 3 (σ 8 j))).trans ((va_up_ne _ _ (rw_ne hkw hkr rfl)).trans hkw)
            refine lv_aload_n hx hb dX3_wish_74 rfl (lv_at hl 2 rfl) ?_
            refine lv_dup hx hb dX3_wish_75 rfl ?_
            refine gX3_3 hx hb hX hown k_27 kw632 dX3_wish_76 ?_
            refine lv_iconst (v := nI 1) hx hb dX3_wish_79 (by decide) ?_
            refine n_iadd hx hb dX3_wish_80 (nI_add _ _) ?_
            refine pX3_3 hx hb hX hown k_27 kw632 dX3_wish_81 (fun H locs hX => ?_)
            obtain ⟨μ_31, e_32⟩ : ∃ z, z = va_up μ_24 (Ω 0 0) (some (.inr (4, [.ref (Ω 1 0), .ref (Ω 2 0), .int (nI (σ 0 0)), .int (nI ((σ 1 0) + 1)), .int (nI (σ 2 0))]))) := ⟨_, rfl⟩
            rw [← e_32] at hX
            have k_33 : μ_31 (Ω 0 0) = some (.inr (4, [.ref (Ω 1 0), .ref (Ω 2 0), .int (nI (σ 0 0)), .int (nI ((σ 1 0) + 1)), .int (nI (σ 2 0))])) := by rw [e_32]; exact va_up_self _ _ _
            have k_34 := (congrFun e_32 (Ω 1 0)).trans ((va_up_ne _ _ (kd_ne k_28 k_27 rfl)).trans k_28)
            have k_35 := (congrFun e_32 (Ω 2 0)).trans ((va_up_ne _ _ (kd_ne k_29 k_27 rfl)).trans k_29)
            have k_36 := (congrFun e_32 (Ω 4 j)).trans ((va_up_ne _ _ (kd_ne k_26 k_27 rfl)).trans k_26)
            have k_37 := (congrFun e_32 (Ω 3 (σ 8 j))).trans ((va_up_ne _ _ (kd_ne k_30 k_27 rfl)).trans k_30)
            refine lv_iconst (v := nI 1) hx hb dX3_wish_84 (by decide) ?_
            obtain ⟨f1, f2, f3, f4, f5, f6⟩ := fw_y (sz := sz) (du := σ 7 (σ 8 j)) (bu := σ 10 j) (he := σ 11 j) (mk := σ 12 j) (nx := σ 13 j) hp
            obtain ⟨a1, a2, a3, a4, a5, a6, a7, a8, a9, a10, a11, a12⟩ := nWis_at σ j sz
            have a13 : tWi σ τ j sz j = τ j := if_neg (by omega)
            have hS9 : sD g Ω (tWi σ τ j sz) (nWis σ j sz) μ_31 := by
              refine hS.cwx hj ocb.1 ?_ k_36 ?_ k_37 ?_ ?_ (fun f k a b c => nWis_o σ j sz a b c) (fun k h => tWi_n σ τ j sz h)
              · rw [k_33]; simp only [sS]; rw [a10, a11, a12, f1]; try rfl
              · show rC _ _ _ _ _ _ _; rw [a4, a5, a6, a7, a8, a13, f3, f4, f5]
                rw [show σ 10 j - sz = bk by omega]
                exact r_23
              · show rW _ _ _ _; rw [a1, a2, a3, f2]
                rw [show σ 7 (σ 8 j) - (sz - σ 10 j) = dk by omega]
                exact hrw
              · intro q n1 n2 n3; rw [e_32, va_up_ne _ _ n1, e_25, va_up_ne _ _ n2]; exact hfr q n2 n3
            exact w_zret hx hb hr hlocks hX (by first | rfl | decide) ⟨by rw [f1], hS9⟩ ⟨Nat.le_of_ble_eq_true rfl, Nat.le_of_ble_eq_true rfl⟩ dX3_wish_85
        · skip
          refine lv_aload_n hx hb dX3_wish_25 rfl (lv_at hl 1 rfl) ?_
          refine lv_iconst (v := nI 2) hx hb dX3_wish_26 (by decide) ?_
          refine n_ialdv hx hb hX hkr (by omega) (by omega) dX3_wish_27 hrc.2.2.1 ?_
          refine n_if_le (tgt := 41) hx hb (by omega) dX3_wish_28 (by decide) (fun c_38 => ?_) (fun c_38 => ?_)
          · skip
            refine lv_aload_n hx hb dX3_wish_41 rfl (lv_at hl 2 rfl) ?_
            refine gX3_0 hx hb hX hown s1k kw627 dX3_wish_42 ?_
            refine lv_aload_n hx hb dX3_wish_45 rfl (lv_at hl 1 rfl) ?_
            refine lv_iconst (v := nI 0) hx hb dX3_wish_46 (by decide) ?_
            refine n_ialdv hx hb hX hkr (by omega) (by omega) dX3_wish_47 hrc.1 ?_
            refine n_aaldRv hx hb hX s2k (by omega) (by omega) dX3_wish_48 (s2' (σ 8 j) (by omega)) ?_
            refine lv_iconst (v := nI 2) hx hb dX3_wish_49 (by decide) ?_
            refine lv_dup2_11 hx hb dX3_wish_50 rfl rfl ?_
            refine n_ialdv hx hb hX hkw (by omega) (by omega) dX3_wish_51 hrw.2.2 ?_
            refine lv_iconst (v := nI 1) hx hb dX3_wish_52 (by decide) ?_
            refine n_isub hx hb dX3_wish_53 (pk_sub (by omega)) ?_
            refine n_iast hx hb hX hkw (by omega) (by omega) dX3_wish_54 (fun H locs hX => ?_)
            obtain ⟨h_39, eh_40⟩ : ∃ z, z = upd hh 2 (nI (dk - 1)) := ⟨_, rfl⟩
            rw [← eh_40] at hX
            have r_41 : rW (σ 5 (σ 8 j)) (σ 6 (σ 8 j)) (dk - 1) h_39 := by rw [eh_40]; exact hrw.s2 _
            obtain ⟨μ_42, e_43⟩ : ∃ z, z = va_up ν (Ω 3 (σ 8 j)) (some (sR g 3 h_39)) := ⟨_, rfl⟩
            rw [← e_43] at hX
            have k_44 : μ_42 (Ω 3 (σ 8 j)) = some (sR g 3 h_39) := by rw [e_43]; exact va_up_self _ _ _
            have k_45 := (congrFun e_43 (Ω 0 0)).trans ((va_up_ne _ _ (kd_ne s1k hkw rfl)).trans s1k)
            have k_46 := (congrFun e_43 (Ω 1 0)).trans ((va_up_ne _ _ (kd_ne s2k hkw rfl)).trans s2k)
            have k_47 := (congrFun e_43 (Ω 2 0)).trans ((va_up_ne _ _ (kd_ne s3k hkw rfl)).trans s3k)
            have k_48 := (congrFun e_43 (Ω 4 j)).trans ((va_up_ne _ _ (rw_ne hkr hkw rfl)).trans hkr)
            refine lv_iinc (v := nI (k + 1)) (lv' := [(4, .int (nI (k + 1))), (3, .ref (Ω 4 j)), (0, .ref (Ω 0 0)), (1, .int (nI j)), (2, .int (nI sz))]) hx hb dX3_wish_55 hl (k := 0) rfl (nI_inc _) (by decide) rfl (fun ls hl => ?_)
            refine lv_goto (tgt := 19) hx hb dX3_wish_58 (by decide) ?_
            refine ih (k + 1) _ _ _ _ _ H locs ls (by omega) (by omega) (show bk = _ by omega) (show dk - 1 = _ by omega) hrc k_48 r_41 k_44 (fun q n1 n2 => by rw [e_43, va_up_ne _ _ n2]; exact hfr q n1 n2) hX ?_
            exact lv_sub hl [0, 1, 2, 3, 4] rfl
          · skip
            refine lv_aload_n hx hb dX3_wish_31 rfl (lv_at hl 1 rfl) ?_
            refine lv_iconst (v := nI 2) hx hb dX3_wish_32 (by decide) ?_
            refine lv_dup2_11 hx hb dX3_wish_33 rfl rfl ?_
            refine n_ialdv hx hb hX hkr (by omega) (by omega) dX3_wish_34 hrc.2.2.1 ?_
            refine lv_iconst (v := nI 1) hx hb dX3_wish_35 (by decide) ?_
            refine n_isub hx hb dX3_wish_36 (pk_sub (by omega)) ?_
            refine n_iast hx hb hX hkr (by omega) (by omega) dX3_wish_37 (fun H locs hX => ?_)
            obtain ⟨h_49, eh_50⟩ : ∃ z, z = upd h 2 (nI (bk - 1)) := ⟨_, rfl⟩
            rw [← eh_50] at hX
            have r_51 : rC (σ 8 j) (σ 9 j) (bk - 1) (σ 11 j) (σ 12 j) (τ j) h_49 := by rw [eh_50]; exact hrc.s2 _
            obtain ⟨μ_52, e_53⟩ : ∃ z, z = va_up ν (Ω 4 j) (some (sR g 6 h_49)) := ⟨_, rfl⟩
            rw [← e_53] at hX
            have k_54 : μ_52 (Ω 4 j) = some (sR g 6 h_49) := by rw [e_53]; exact va_up_self _ _ _
            have k_55 := (congrFun e_53 (Ω 0 0)).trans ((va_up_ne _ _ (kd_ne s1k hkr rfl)).trans s1k)
            have k_56 := (congrFun e_53 (Ω 1 0)).trans ((va_up_ne _ _ (kd_ne s2k hkr rfl)).trans s2k)
            have k_57 := (congrFun e_53 (Ω 2 0)).trans ((va_up_ne _ _ (kd_ne s3k hkr rfl)).trans s3k)
            have k_58 := (congrFun e_53 (Ω 3 (σ 8 j))).trans ((va_up_ne _ _ (rw_ne hkw hkr rfl)).trans hkw)
            refine lv_goto (tgt := 55) hx hb dX3_wish_38 (by decide) ?_
            refine lv_iinc (v := nI (k + 1)) (lv' := [(4, .int (nI (k + 1))), (3, .ref (Ω 4 j)), (0, .ref (Ω 0 0)), (1, .int (nI j)), (2, .int (nI sz))]) hx hb dX3_wish_55 hl (k := 0) rfl (nI_inc _) (by decide) rfl (fun ls hl => ?_)
            refine lv_goto (tgt := 19) hx hb dX3_wish_58 (by decide) ?_
            refine ih (k + 1) _ _ _ _ _ H locs ls (by omega) (by omega) (show bk - 1 = _ by omega) (show dk = _ by omega) r_51 k_54 hrw k_58 (fun q n1 n2 => by rw [e_53, va_up_ne _ _ n1]; exact hfr q n1 n2) hX ?_
            exact lv_sub hl [0, 1, 2, 3, 4] rfl
    exact hloop (sz + 1) 0 _ _ _ _ _ H _ _ (by omega) (by omega) (Nat.sub_zero _).symm (by omega) r_3 kr_1 r_11 kr_9 (fun q _ _ => rfl) hX hl
  · skip
    refine W.eq (g2 := F0 m 13 ls [.int (nI 0)]) rfl ?_
    refine n_if_eq (tgt := 86) hx hb (by omega) dX3_wish_13 (by decide) (fun _ => ?_) (fun h => absurd h (by omega))
    obtain ⟨h_60, kr_59, r_61⟩ := s4 (σ 8 j) (by omega)
    obtain ⟨hw9, khw⟩ : ∃ z, z = h_60 := ⟨_, rfl⟩
    have rw9 : rW (σ 5 (σ 8 j)) (σ 6 (σ 8 j)) (σ 7 (σ 8 j)) hw9 := by rw [khw]; exact r_61
    have kw9 := kr_59
    rw [← khw] at kw9
    refine lv_aload_n hx hb dX3_wish_86 rfl (lv_at hl 1 rfl) ?_
    refine lv_dup hx hb dX3_wish_87 rfl ?_
    refine gX3_4 hx hb hX hown s1 kw633 dX3_wish_88 ?_
    refine lv_iconst (v := nI 1) hx hb dX3_wish_91 (by decide) ?_
    refine n_iadd hx hb dX3_wish_92 (nI_add _ _) ?_
    refine pX3_4 hx hb hX hown s1 kw633 dX3_wish_93 (fun H locs hX => ?_)
    obtain ⟨μ_62, e_63⟩ : ∃ z, z = va_up μ (Ω 0 0) (some (.inr (4, [.ref (Ω 1 0), .ref (Ω 2 0), .int (nI (σ 0 0)), .int (nI (σ 1 0)), .int (nI ((σ 2 0) + 1))]))) := ⟨_, rfl⟩
    rw [← e_63] at hX
    have k_64 : μ_62 (Ω 0 0) = some (.inr (4, [.ref (Ω 1 0), .ref (Ω 2 0), .int (nI (σ 0 0)), .int (nI (σ 1 0)), .int (nI ((σ 2 0) + 1))])) := by rw [e_63]; exact va_up_self _ _ _
    have k_65 := (congrFun e_63 (Ω 1 0)).trans ((va_up_ne _ _ (kd_ne s2 s1 rfl)).trans s2)
    have k_66 := (congrFun e_63 (Ω 2 0)).trans ((va_up_ne _ _ (kd_ne s3 s1 rfl)).trans s3)
    have k_67 := (congrFun e_63 (Ω 4 j)).trans ((va_up_ne _ _ (kd_ne kr_1 s1 rfl)).trans kr_1)
    have k_68 := (congrFun e_63 (Ω 3 (σ 8 j))).trans ((va_up_ne _ _ (kd_ne kw9 s1 rfl)).trans kw9)
    refine lv_aload_n hx hb dX3_wish_96 rfl (lv_at hl 0 rfl) ?_
    refine lv_iconst (v := nI 3) hx hb dX3_wish_97 (by decide) ?_
    refine n_ialdv hx hb hX k_67 (by omega) (by omega) dX3_wish_98 r_3.2.2.2.1 ?_
    refine n_if_le (tgt := 120) hx hb (by omega) dX3_wish_99 (by decide) (fun c_69 => ?_) (fun c_69 => ?_)
    · skip
      refine lv_aload_n hx hb dX3_wish_120 rfl (lv_at hl 0 rfl) ?_
      refine lv_iconst (v := nI 4) hx hb dX3_wish_121 (by decide) ?_
      refine lv_dup2_11 hx hb dX3_wish_122 rfl rfl ?_
      refine n_ialdv hx hb hX k_67 (by omega) (by omega) dX3_wish_123 r_3.2.2.2.2.1 ?_
      refine lv_iconst (v := nI 1) hx hb dX3_wish_124 (by decide) ?_
      refine n_iadd hx hb dX3_wish_125 (nI_add _ _) ?_
      refine n_iast hx hb hX k_67 (by omega) (by omega) dX3_wish_126 (fun H locs hX => ?_)
      obtain ⟨h_70, eh_71⟩ : ∃ z, z = upd h_2 4 (nI ((σ 12 j) + 1)) := ⟨_, rfl⟩
      rw [← eh_71] at hX
      have r_72 : rC (σ 8 j) (σ 9 j) (σ 10 j) (σ 11 j) ((σ 12 j) + 1) (τ j) h_70 := by rw [eh_71]; exact r_3.s4 _
      obtain ⟨μ_73, e_74⟩ : ∃ z, z = va_up μ_62 (Ω 4 j) (some (sR g 6 h_70)) := ⟨_, rfl⟩
      rw [← e_74] at hX
      have k_75 : μ_73 (Ω 4 j) = some (sR g 6 h_70) := by rw [e_74]; exact va_up_self _ _ _
      have k_76 := (congrFun e_74 (Ω 0 0)).trans ((va_up_ne _ _ (kd_ne k_64 k_67 rfl)).trans k_64)
      have k_77 := (congrFun e_74 (Ω 1 0)).trans ((va_up_ne _ _ (kd_ne k_65 k_67 rfl)).trans k_65)
      have k_78 := (congrFun e_74 (Ω 2 0)).trans ((va_up_ne _ _ (kd_ne k_66 k_67 rfl)).trans k_66)
      have k_79 := (congrFun e_74 (Ω 3 (σ 8 j))).trans ((va_up_ne _ _ (rw_ne k_68 k_67 rfl)).trans k_68)
      refine lv_aload_n hx hb dX3_wish_127 rfl (lv_at hl 0 rfl) ?_
      refine lv_iconst (v := nI 4) hx hb dX3_wish_128 (by decide) ?_
      refine n_ialdv hx hb hX k_75 (by omega) (by omega) dX3_wish_129 r_72.2.2.2.2.1 ?_
      refine lv_iconst (v := nI 3) hx hb dX3_wish_130 (by decide) ?_
      refine n_ne (tgt := 153) hx hb (by omega) (by omega) dX3_wish_131 (by decide) (fun c_80 => ?_) (fun c_80 => ?_)
      · skip
        refine lv_iconst (v := nI 0) hx hb dX3_wish_153 (by decide) ?_
        obtain ⟨f1, f2, f3, f4, f5, f6⟩ := fw_m (sz := sz) (du := σ 7 (σ 8 j)) (bu := σ 10 j) (he := σ 11 j) (mk := σ 12 j) (nx := σ 13 j) (by omega) (by omega)
        obtain ⟨a1, a2, a3, a4, a5, a6, a7, a8, a9, a10, a11, a12⟩ := nWis_at σ j sz
        have a13 : tWi σ τ j sz j = τ j := if_neg (by omega)
        have hS9 : sD g Ω (tWi σ τ j sz) (nWis σ j sz) μ_73 := by
          refine hS.cwx hj ocb.1 ?_ k_75 ?_ k_79 ?_ ?_ (fun f k a b c => nWis_o σ j sz a b c) (fun k h => tWi_n σ τ j sz h)
          · rw [k_76]; simp only [sS]; rw [a10, a11, a12, f1]; try rfl
          · show rC _ _ _ _ _ _ _; rw [a4, a5, a6, a7, a8, a13, f3, f4, f5]
            exact r_72
          · show rW _ _ _ _; rw [a1, a2, a3, f2]
            exact rw9
          · intro q n1 n2 n3; rw [e_74, va_up_ne _ _ n2, e_63, va_up_ne _ _ n1]
        exact w_zret hx hb hr hlocks hX (by first | rfl | decide) ⟨by rw [f1], hS9⟩ ⟨Nat.le_of_ble_eq_true rfl, Nat.le_of_ble_eq_true rfl⟩ dX3_wish_154
      · skip
        refine lv_aload_n hx hb dX3_wish_134 rfl (lv_at hl 0 rfl) ?_
        refine lv_iconst (v := nI 4) hx hb dX3_wish_135 (by decide) ?_
        refine lv_iconst (v := nI 0) hx hb dX3_wish_136 (by decide) ?_
        refine n_iast hx hb hX k_75 (by omega) (by omega) dX3_wish_137 (fun H locs hX => ?_)
        obtain ⟨h_81, eh_82⟩ : ∃ z, z = upd h_70 4 (nI 0) := ⟨_, rfl⟩
        rw [← eh_82] at hX
        have r_83 : rC (σ 8 j) (σ 9 j) (σ 10 j) (σ 11 j) 0 (τ j) h_81 := by rw [eh_82]; exact r_72.s4 _
        obtain ⟨μ_84, e_85⟩ : ∃ z, z = va_up μ_73 (Ω 4 j) (some (sR g 6 h_81)) := ⟨_, rfl⟩
        rw [← e_85] at hX
        have k_86 : μ_84 (Ω 4 j) = some (sR g 6 h_81) := by rw [e_85]; exact va_up_self _ _ _
        have k_87 := (congrFun e_85 (Ω 0 0)).trans ((va_up_ne _ _ (kd_ne k_76 k_75 rfl)).trans k_76)
        have k_88 := (congrFun e_85 (Ω 1 0)).trans ((va_up_ne _ _ (kd_ne k_77 k_75 rfl)).trans k_77)
        have k_89 := (congrFun e_85 (Ω 2 0)).trans ((va_up_ne _ _ (kd_ne k_78 k_75 rfl)).trans k_78)
        have k_90 := (congrFun e_85 (Ω 3 (σ 8 j))).trans ((va_up_ne _ _ (rw_ne k_79 k_75 rfl)).trans k_79)
        refine lv_aload_n hx hb dX3_wish_138 rfl (lv_at hl 0 rfl) ?_
        refine lv_iconst (v := nI 3) hx hb dX3_wish_139 (by decide) ?_
        refine lv_aload_n hx hb dX3_wish_140 rfl (lv_at hl 1 rfl) ?_
        refine lv_iload_n hx hb dX3_wish_141 rfl (lv_at hl 2 rfl) ?_
        have hS3 : sD g Ω τ (fun f k => if f = 2 ∧ k = 0 then σ 2 0 + 1 else if f = 12 ∧ k = j then 0 else σ f k) μ_84 := by
          refine hS.cwx (i := σ 8 j) (h2 := hw9) hj ocb.1 ?_ k_86 ?_ k_90 ?_ ?_ ?_ (fun _ _ => rfl)
          · rw [k_87]; simp [sS]
          · have h8 := r_83; simp only [rwC]; simpa using h8
          · have h8 := rw9; simp only [rwW]; simpa using h8
          · intro q n1 n2 n3; rw [e_85, va_up_ne _ _ n2, e_74, va_up_ne _ _ n2, e_63, va_up_ne _ _ n1]
          · intro f k a b _; rw [if_neg (by omega), if_neg (by omega)]
        have hO3 : sOk (fun f k => if f = 2 ∧ k = 0 then σ 2 0 + 1 else if f = 12 ∧ k = j then 0 else σ f k) := by
          refine ⟨by simpa using o1, by simpa using o2, fun i hi => by simpa using o3 i (by simpa using hi), fun i hi => ?_, fun i hi => ?_, by simpa using o6, by simp; omega⟩
          · have h8 := o4 i (by simpa using hi); by_cases z : i = j <;> simp [z] <;> (first | (subst z; omega) | omega)
          · have h8 := o5 i (by simpa using hi); by_cases z : i = j <;> simp [z] <;> (first | (subst z; omega) | omega)
        have hT3 : sT τ (fun f k => if f = 2 ∧ k = 0 then σ 2 0 + 1 else if f = 12 ∧ k = j then 0 else σ f k) := fun i hi => by have h8 := hT i (by simpa using hi); simp; omega
        refine w_call (w_runV (n := 1) (As := [.int (nI j)]) (rest := [.int (nI 3), .ref (Ω 4 j)]) hx hb hml hown hX (c_X3_next l g μ_84 H.size hS3 hO3 hT3 (by simpa using hj)) kw482 kw7 kw479 kw480 kw481 wn_X3_next rfl k_87 rfl ⟨Nat.le_of_ble_eq_true rfl, Nat.le_of_ble_eq_true rfl⟩ hl.1 rfl (Nat.le_of_ble_eq_true rfl) dX3_wish_142 ⟨Nat.le_of_ble_eq_true rfl, Nat.le_of_ble_eq_true rfl⟩) hX (fun r_93 μ_91 H locs q_92 hX hz => ?_)
        obtain ⟨rfl, e_94⟩ := q_92
        rw [e_94] at hX
        refine W.eq (g2 := F0 m 145 ls [.int (nI (σ 13 j)), .int (nI 3), .ref (Ω 4 j)]) rfl ?_
        refine n_iast hx hb hX k_86 (by omega) (by omega) dX3_wish_145 (fun H locs hX => ?_)
        obtain ⟨h_95, eh_96⟩ : ∃ z, z = upd h_81 3 (nI (σ 13 j)) := ⟨_, rfl⟩
        rw [← eh_96] at hX
        have r_97 : rC (σ 8 j) (σ 9 j) (σ 10 j) (σ 13 j) 0 (τ j) h_95 := by rw [eh_96]; exact r_83.s3 _
        obtain ⟨μ_98, e_99⟩ : ∃ z, z = va_up μ_84 (Ω 4 j) (some (sR g 6 h_95)) := ⟨_, rfl⟩
        rw [← e_99] at hX
        have k_100 : μ_98 (Ω 4 j) = some (sR g 6 h_95) := by rw [e_99]; exact va_up_self _ _ _
        have k_101 := (congrFun e_99 (Ω 0 0)).trans ((va_up_ne _ _ (kd_ne k_87 k_86 rfl)).trans k_87)
        have k_102 := (congrFun e_99 (Ω 1 0)).trans ((va_up_ne _ _ (kd_ne k_88 k_86 rfl)).trans k_88)
        have k_103 := (congrFun e_99 (Ω 2 0)).trans ((va_up_ne _ _ (kd_ne k_89 k_86 rfl)).trans k_89)
        have k_104 := (congrFun e_99 (Ω 3 (σ 8 j))).trans ((va_up_ne _ _ (rw_ne k_90 k_86 rfl)).trans k_90)
        refine lv_aload_n hx hb dX3_wish_146 rfl (lv_at hl 0 rfl) ?_
        refine lv_iconst (v := nI 5) hx hb dX3_wish_147 (by decide) ?_
        refine lv_dup2_11 hx hb dX3_wish_148 rfl rfl ?_
        refine n_ialdv hx hb hX k_100 (by omega) (by omega) dX3_wish_149 r_97.2.2.2.2.2 ?_
        refine lv_iconst (v := nI 1) hx hb dX3_wish_150 (by decide) ?_
        refine n_iadd hx hb dX3_wish_151 (nI_add _ _) ?_
        refine n_iast hx hb hX k_100 (by omega) (by omega) dX3_wish_152 (fun H locs hX => ?_)
        obtain ⟨h_105, eh_106⟩ : ∃ z, z = upd h_95 5 (nI ((τ j) + 1)) := ⟨_, rfl⟩
        rw [← eh_106] at hX
        have r_107 : rC (σ 8 j) (σ 9 j) (σ 10 j) (σ 13 j) 0 ((τ j) + 1) h_105 := by rw [eh_106]; exact r_97.s5 _
        obtain ⟨μ_108, e_109⟩ : ∃ z, z = va_up μ_98 (Ω 4 j) (some (sR g 6 h_105)) := ⟨_, rfl⟩
        rw [← e_109] at hX
        have k_110 : μ_108 (Ω 4 j) = some (sR g 6 h_105) := by rw [e_109]; exact va_up_self _ _ _
        have k_111 := (congrFun e_109 (Ω 0 0)).trans ((va_up_ne _ _ (kd_ne k_101 k_100 rfl)).trans k_101)
        have k_112 := (congrFun e_109 (Ω 1 0)).trans ((va_up_ne _ _ (kd_ne k_102 k_100 rfl)).trans k_102)
        have k_113 := (congrFun e_109 (Ω 2 0)).trans ((va_up_ne _ _ (kd_ne k_103 k_100 rfl)).trans k_103)
        have k_114 := (congrFun e_109 (Ω 3 (σ 8 j))).trans ((va_up_ne _ _ (rw_ne k_104 k_100 rfl)).trans k_104)
        refine lv_iconst (v := nI 0) hx hb dX3_wish_153 (by decide) ?_
        obtain ⟨f1, f2, f3, f4, f5, f6⟩ := fw_p (sz := sz) (du := σ 7 (σ 8 j)) (bu := σ 10 j) (he := σ 11 j) (mk := σ 12 j) (nx := σ 13 j) (by omega) (by omega)
        obtain ⟨a1, a2, a3, a4, a5, a6, a7, a8, a9, a10, a11, a12⟩ := nWis_at σ j sz
        have a13 : tWi σ τ j sz j = (τ j) + 1 := if_pos (by omega)
        have hS9 : sD g Ω (tWi σ τ j sz) (nWis σ j sz) μ_108 := by
          refine hS.cwx hj ocb.1 ?_ k_110 ?_ k_114 ?_ ?_ (fun f k a b c => nWis_o σ j sz a b c) (fun k h => tWi_n σ τ j sz h)
          · rw [k_111]; simp only [sS]; rw [a10, a11, a12, f1]; try rfl
          · show rC _ _ _ _ _ _ _; rw [a4, a5, a6, a7, a8, a13, f3, f4, f5]
            exact r_107
          · show rW _ _ _ _; rw [a1, a2, a3, f2]
            exact rw9
          · intro q n1 n2 n3; rw [e_109, va_up_ne _ _ n2, e_99, va_up_ne _ _ n2, e_85, va_up_ne _ _ n2, e_74, va_up_ne _ _ n2, e_63, va_up_ne _ _ n1]
        exact w_zret hx hb hr hlocks hX (by first | rfl | decide) ⟨by rw [f1], hS9⟩ ⟨Nat.le_of_ble_eq_true rfl, Nat.le_of_ble_eq_true rfl⟩ dX3_wish_154
    · skip
      refine lv_aload_n hx hb dX3_wish_102 rfl (lv_at hl 0 rfl) ?_
      refine lv_iconst (v := nI 3) hx hb dX3_wish_103 (by decide) ?_
      refine n_ialdv hx hb hX k_67 (by omega) (by omega) dX3_wish_104 r_3.2.2.2.1 ?_
      refine lv_bipush (v := nI 48) hx hb dX3_wish_105 (by decide) ?_
      refine n_ge (tgt := 153) hx hb (by omega) (by omega) dX3_wish_107 (by decide) (fun c_115 => ?_) (fun c_115 => ?_)
      · skip
        refine lv_iconst (v := nI 0) hx hb dX3_wish_153 (by decide) ?_
        obtain ⟨f1, f2, f3, f4, f5, f6⟩ := fw_h (sz := sz) (du := σ 7 (σ 8 j)) (bu := σ 10 j) (he := σ 11 j) (mk := σ 12 j) (nx := σ 13 j) (by omega)
        obtain ⟨a1, a2, a3, a4, a5, a6, a7, a8, a9, a10, a11, a12⟩ := nWis_at σ j sz
        have a13 : tWi σ τ j sz j = τ j := if_neg (by omega)
        have hS9 : sD g Ω (tWi σ τ j sz) (nWis σ j sz) μ_62 := by
          refine hS.cwx hj ocb.1 ?_ k_67 ?_ k_68 ?_ ?_ (fun f k a b c => nWis_o σ j sz a b c) (fun k h => tWi_n σ τ j sz h)
          · rw [k_64]; simp only [sS]; rw [a10, a11, a12, f1]; try rfl
          · show rC _ _ _ _ _ _ _; rw [a4, a5, a6, a7, a8, a13, f3, f4, f5]
            rw [show min 48 (σ 11 j + 1) = σ 11 j by omega]
            exact r_3
          · show rW _ _ _ _; rw [a1, a2, a3, f2]
            exact rw9
          · intro q n1 n2 n3; rw [e_63, va_up_ne _ _ n1]
        exact w_zret hx hb hr hlocks hX (by first | rfl | decide) ⟨by rw [f1], hS9⟩ ⟨Nat.le_of_ble_eq_true rfl, Nat.le_of_ble_eq_true rfl⟩ dX3_wish_154
      · skip
        refine lv_aload_n hx hb dX3_wish_110 rfl (lv_at hl 0 rfl) ?_
        refine lv_iconst (v := nI 3) hx hb dX3_wish_111 (by decide) ?_
        refine lv_dup2_11 hx hb dX3_wish_112 rfl rfl ?_
        refine n_ialdv hx hb hX k_67 (by omega) (by omega) dX3_wish_113 r_3.2.2.2.1 ?_
        refine lv_iconst (v := nI 1) hx hb dX3_wish_114 (by decide) ?_
        refine n_iadd hx hb dX3_wish_115 (nI_add _ _) ?_
        refine n_iast hx hb hX k_67 (by omega) (by omega) dX3_wish_116 (fun H locs hX => ?_)
        obtain ⟨h_116, eh_117⟩ : ∃ z, z = upd h_2 3 (nI ((σ 11 j) + 1)) := ⟨_, rfl⟩
        rw [← eh_117] at hX
        have r_118 : rC (σ 8 j) (σ 9 j) (σ 10 j) ((σ 11 j) + 1) (σ 12 j) (τ j) h_116 := by rw [eh_117]; exact r_3.s3 _
        obtain ⟨μ_119, e_120⟩ : ∃ z, z = va_up μ_62 (Ω 4 j) (some (sR g 6 h_116)) := ⟨_, rfl⟩
        rw [← e_120] at hX
        have k_121 : μ_119 (Ω 4 j) = some (sR g 6 h_116) := by rw [e_120]; exact va_up_self _ _ _
        have k_122 := (congrFun e_120 (Ω 0 0)).trans ((va_up_ne _ _ (kd_ne k_64 k_67 rfl)).trans k_64)
        have k_123 := (congrFun e_120 (Ω 1 0)).trans ((va_up_ne _ _ (kd_ne k_65 k_67 rfl)).trans k_65)
        have k_124 := (congrFun e_120 (Ω 2 0)).trans ((va_up_ne _ _ (kd_ne k_66 k_67 rfl)).trans k_66)
        have k_125 := (congrFun e_120 (Ω 3 (σ 8 j))).trans ((va_up_ne _ _ (rw_ne k_68 k_67 rfl)).trans k_68)
        refine lv_goto (tgt := 153) hx hb dX3_wish_117 (by decide) ?_
        refine lv_iconst (v := nI 0) hx hb dX3_wish_153 (by decide) ?_
        obtain ⟨f1, f2, f3, f4, f5, f6⟩ := fw_h (sz := sz) (du := σ 7 (σ 8 j)) (bu := σ 10 j) (he := σ 11 j) (mk := σ 12 j) (nx := σ 13 j) (by omega)
        obtain ⟨a1, a2, a3, a4, a5, a6, a7, a8, a9, a10, a11, a12⟩ := nWis_at σ j sz
        have a13 : tWi σ τ j sz j = τ j := if_neg (by omega)
        have hS9 : sD g Ω (tWi σ τ j sz) (nWis σ j sz) μ_119 := by
          refine hS.cwx hj ocb.1 ?_ k_121 ?_ k_125 ?_ ?_ (fun f k a b c => nWis_o σ j sz a b c) (fun k h => tWi_n σ τ j sz h)
          · rw [k_122]; simp only [sS]; rw [a10, a11, a12, f1]; try rfl
          · show rC _ _ _ _ _ _ _; rw [a4, a5, a6, a7, a8, a13, f3, f4, f5]
            rw [show min 48 (σ 11 j + 1) = (σ 11 j) + 1 by omega]
            exact r_118
          · show rW _ _ _ _; rw [a1, a2, a3, f2]
            exact rw9
          · intro q n1 n2 n3; rw [e_120, va_up_ne _ _ n2, e_63, va_up_ne _ _ n1]
        exact w_zret hx hb hr hlocks hX (by first | rfl | decide) ⟨by rw [f1], hS9⟩ ⟨Nat.le_of_ble_eq_true rfl, Nat.le_of_ble_eq_true rfl⟩ dX3_wish_154

