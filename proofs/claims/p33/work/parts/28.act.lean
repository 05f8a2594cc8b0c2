/-! WHAT THE LAW DOES TO BOTH -/
def bW (g : wG) (o1 o2 i : Nat) (κ : wMu) : Prop := ∃ (Λ Ω σ : sSt) (τ : Nat → Nat) (μ ν : wMu), κ = mU μ ν ∧ dj μ ν ∧ fD g Λ none σ μ ∧ sD g Ω τ σ ν ∧ Λ 0 0 = o1 ∧ Ω 0 0 = o2 ∧ pG τ σ i
theorem wX.cast {g : wG} {A : Nat → Prop} {s : State} {H : Heap} {locs : List Loc} {κ κ' : wMu} (h : wX g A s H locs κ) (e : κ = κ') : wX g A s H locs κ' := by rw [← e]; exact h
theorem up2_same {τ : sSt} {f i v : Nat} (h : τ f i = v) : up2 τ f i v = τ := by
  funext f' i'
  by_cases e : f' = f ∧ i' = i
  · rw [e.1, e.2, up2_self, h]
  · exact if_neg e
theorem sFal_le {σ : sSt} (hO : sOk σ) (k : Nat) : ∀ n, n ≤ σ 3 0 → sFal σ k n ≤ 60 * n
  | 0, _ => Nat.le_refl _
  | n + 1, h => by
    have h1 := sFal_le hO k n (by omega)
    have h2 := dIn_le σ n k
    have h3 := hO.2.2.1 n (by omega)
    simp only [sFal]
    omega
section SDA
variable {g : wG} {Ω σ : sSt} {τ : Nat → Nat} {ν ν' : wMu}
theorem sD.addW (hS : sD g Ω τ σ ν) {q q2 a b : Nat} {F : Nat → Option Nat} {h : Nat → Int32} (hq : ν q = none) (hq2 : ν q2 = none) (hx : ν' (Ω 0 0) = some (.inr (4, [.ref q2, .ref (Ω 2 0), .int (nI (σ 0 0)), .int (nI (σ 1 0)), .int (nI (σ 2 0))]))) (h2 : ν' q2 = some (sA g (σ 3 0 + 1) F)) (hF : ∀ i, i < σ 3 0 → F i = some (Ω 3 i)) (hFn : F (σ 3 0) = some q) (hn : ν' q = some (sR g 3 h)) (hr : rW a b a h) (ho : ∀ z, z ≠ Ω 0 0 → z ≠ q → z ≠ q2 → ν' z = ν z) : sD g (up2 (up2 Ω 1 0 q2) 3 (σ 3 0) q) τ (nAddW σ a b) ν' := by
  obtain ⟨s1, ⟨fw, s2, s2'⟩, ⟨fc, s3, s3'⟩, s4, s5, s6, s7⟩ := id hS
  obtain ⟨q3, q5, q6, q7⟩ := nAddW_3 σ a b
  have nq : ∀ z e, ν z = some e → z ≠ q := fun z e h c => by rw [c, hq] at h; cases h
  have nq2 : ∀ z e, ν z = some e → z ≠ q2 := fun z e h c => by rw [c, hq2] at h; cases h
  have e0 : up2 (up2 Ω 1 0 q2) 3 (σ 3 0) q 0 0 = Ω 0 0 := by rw [up2_nf _ (by omega), up2_nf _ (by omega)]
  have e1 : up2 (up2 Ω 1 0 q2) 3 (σ 3 0) q 1 0 = q2 := by rw [up2_nf _ (by omega), up2_self]
  have e2 : up2 (up2 Ω 1 0 q2) 3 (σ 3 0) q 2 0 = Ω 2 0 := by rw [up2_nf _ (by omega), up2_nf _ (by omega)]
  have e3 : ∀ i, i ≠ σ 3 0 → up2 (up2 Ω 1 0 q2) 3 (σ 3 0) q 3 i = Ω 3 i := fun i hi => by rw [up2_ni _ hi, up2_nf _ (by omega)]
  have e3n : up2 (up2 Ω 1 0 q2) 3 (σ 3 0) q 3 (σ 3 0) = q := up2_self _ _ _ _
  have e4 : ∀ i, up2 (up2 Ω 1 0 q2) 3 (σ 3 0) q 4 i = Ω 4 i := fun i => by rw [up2_nf _ (by omega), up2_nf _ (by omega)]
  have n : ∀ f k, f ≠ 3 → ¬ (5 ≤ f ∧ f ≤ 7 ∧ k = σ 3 0) → nAddW σ a b f k = σ f k := fun f k h1 h2 => nAddW_o σ a b h1 h2
  refine ⟨?_, ⟨F, by rw [e1, q3]; exact h2, fun i hi => ?_⟩, ⟨fc, ?_, fun j hj => ?_⟩, fun i hi => ?_, fun j hj => ?_, fun i k hi hk he => ?_, fun i k hi hk he => ?_⟩
  · rw [e0, hx]; simp only [sS, e1, e2, n 0 0 (by omega) (by omega), n 1 0 (by omega) (by omega), n 2 0 (by omega) (by omega)]
  · rw [q3] at hi
    by_cases e : i = σ 3 0
    · rw [e, e3n]; exact hFn
    · rw [e3 i e]; exact hF i (by omega)
  · rw [e2, n 4 0 (by omega) (by omega), ho _ (kd_ne s3 s1 rfl) (nq _ _ s3) (nq2 _ _ s3)]; exact s3
  · rw [n 4 0 (by omega) (by omega)] at hj; rw [e4]; exact s3' j hj
  · rw [q3] at hi
    by_cases e : i = σ 3 0
    · subst e
      rw [e3n]
      exact ⟨h, hn, by unfold rwW; rw [q5, q6, q7]; exact hr⟩
    · obtain ⟨h6, k6, r6⟩ := s4 i (by omega)
      rw [e3 i e]
      exact ⟨h6, by rw [ho _ (kd_ne k6 s1 rfl) (nq _ _ k6) (nq2 _ _ k6)]; exact k6, by unfold rwW; rw [n 5 i (by omega) (by omega), n 6 i (by omega) (by omega), n 7 i (by omega) (by omega)]; exact r6⟩
  · rw [n 4 0 (by omega) (by omega)] at hj
    obtain ⟨h6, k6, r6⟩ := s5 j hj
    rw [e4]
    exact ⟨h6, by rw [ho _ (kd_ne k6 s1 rfl) (nq _ _ k6) (nq2 _ _ k6)]; exact k6, by unfold rwC; rw [n 8 j (by omega) (by omega), n 9 j (by omega) (by omega), n 10 j (by omega) (by omega), n 11 j (by omega) (by omega), n 12 j (by omega) (by omega)]; exact r6⟩
  · rw [q3] at hi hk
    by_cases e : i = σ 3 0
    · by_cases e' : k = σ 3 0
      · omega
      · rw [e, e3n, e3 k e'] at he
        obtain ⟨h6, k6, -⟩ := s4 k (by omega)
        exact absurd he.symm (nq _ _ k6)
    · by_cases e' : k = σ 3 0
      · rw [e', e3n, e3 i e] at he
        obtain ⟨h6, k6, -⟩ := s4 i (by omega)
        exact absurd he (nq _ _ k6)
      · rw [e3 i e, e3 k e'] at he; exact s6 i k (by omega) (by omega) he
  · rw [n 4 0 (by omega) (by omega)] at hi hk
    rw [e4, e4] at he
    exact s7 i k hi hk he
theorem sD.addC (hS : sD g Ω τ σ ν) (hO : sOk σ) {q q2 a b d : Nat} {F : Nat → Option Nat} {h : Nat → Int32} (hq : ν q = none) (hq2 : ν q2 = none) (hx : ν' (Ω 0 0) = some (.inr (4, [.ref (Ω 1 0), .ref q2, .int (nI (σ 0 0)), .int (nI (σ 1 0)), .int (nI (σ 2 0))]))) (h2 : ν' q2 = some (sA g (σ 4 0 + 1) F)) (hF : ∀ i, i < σ 4 0 → F i = some (Ω 4 i)) (hFn : F (σ 4 0) = some q) (hn : ν' q = some (sR g 6 h)) (hr : rC a b d 0 0 0 h) (ho : ∀ z, z ≠ Ω 0 0 → z ≠ q → z ≠ q2 → ν' z = ν z) : sD g (up2 (up2 Ω 2 0 q2) 4 (σ 4 0) q) (tAdd τ (σ 4 0)) (up2 (nAddC σ a b) 10 (σ 4 0) d) ν' := by
  obtain ⟨s1, ⟨fw, s2, s2'⟩, ⟨fc, s3, s3'⟩, s4, s5, s6, s7⟩ := id hS
  obtain ⟨p4, p8, p9, p10, p11, p12, p13⟩ := nAddC_4 σ a b
  have o5 := hO.2.2.2.2.1 (σ 4 0) (Nat.le_refl _)
  obtain ⟨σ', hσ⟩ : ∃ z, z = up2 (nAddC σ a b) 10 (σ 4 0) d := ⟨_, rfl⟩
  rw [← hσ]
  have q4 : σ' 4 0 = σ 4 0 + 1 := by rw [hσ, up2_nf _ (by omega)]; exact p4
  have q8 : σ' 8 (σ 4 0) = a := by rw [hσ, up2_nf _ (by omega)]; exact p8
  have q9 : σ' 9 (σ 4 0) = b := by rw [hσ, up2_nf _ (by omega)]; exact p9
  have q10 : σ' 10 (σ 4 0) = d := by rw [hσ, up2_self]
  have q11 : σ' 11 (σ 4 0) = 0 := by rw [hσ, up2_nf _ (by omega), p11]; exact o5.1
  have q12 : σ' 12 (σ 4 0) = 0 := by rw [hσ, up2_nf _ (by omega), p12]; exact o5.2
  have n : ∀ f k, f ≠ 4 → ¬ (8 ≤ f ∧ f ≤ 13 ∧ k = σ 4 0) → σ' f k = σ f k := fun f k h1 h2 => by
    rw [hσ, ← nAddC_o σ a b h1 h2]
    exact if_neg (by omega)
  have nq : ∀ z e, ν z = some e → z ≠ q := fun z e h c => by rw [c, hq] at h; cases h
  have nq2 : ∀ z e, ν z = some e → z ≠ q2 := fun z e h c => by rw [c, hq2] at h; cases h
  have e0 : up2 (up2 Ω 2 0 q2) 4 (σ 4 0) q 0 0 = Ω 0 0 := by rw [up2_nf _ (by omega), up2_nf _ (by omega)]
  have e1 : up2 (up2 Ω 2 0 q2) 4 (σ 4 0) q 1 0 = Ω 1 0 := by rw [up2_nf _ (by omega), up2_nf _ (by omega)]
  have e2 : up2 (up2 Ω 2 0 q2) 4 (σ 4 0) q 2 0 = q2 := by rw [up2_nf _ (by omega), up2_self]
  have e4 : ∀ i, i ≠ σ 4 0 → up2 (up2 Ω 2 0 q2) 4 (σ 4 0) q 4 i = Ω 4 i := fun i hi => by rw [up2_ni _ hi, up2_nf _ (by omega)]
  have e4n : up2 (up2 Ω 2 0 q2) 4 (σ 4 0) q 4 (σ 4 0) = q := up2_self _ _ _ _
  have e3 : ∀ i, up2 (up2 Ω 2 0 q2) 4 (σ 4 0) q 3 i = Ω 3 i := fun i => by rw [up2_nf _ (by omega), up2_nf _ (by omega)]
  refine ⟨?_, ⟨fw, ?_, fun i hi => ?_⟩, ⟨F, by rw [e2, q4]; exact h2, fun j hj => ?_⟩, fun i hi => ?_, fun j hj => ?_, fun i k hi hk he => ?_, fun i k hi hk he => ?_⟩
  · rw [e0, hx]; simp only [sS, e1, e2, n 0 0 (by omega) (by omega), n 1 0 (by omega) (by omega), n 2 0 (by omega) (by omega)]
  · rw [e1, n 3 0 (by omega) (by omega), ho _ (kd_ne s2 s1 rfl) (nq _ _ s2) (nq2 _ _ s2)]; exact s2
  · rw [n 3 0 (by omega) (by omega)] at hi; rw [e3]; exact s2' i hi
  · rw [q4] at hj
    by_cases e : j = σ 4 0
    · rw [e, e4n]; exact hFn
    · rw [e4 j e]; exact hF j (by omega)
  · rw [n 3 0 (by omega) (by omega)] at hi
    obtain ⟨h6, k6, r6⟩ := s4 i hi
    rw [e3]
    exact ⟨h6, by rw [ho _ (kd_ne k6 s1 rfl) (nq _ _ k6) (nq2 _ _ k6)]; exact k6, by unfold rwW; rw [n 5 i (by omega) (by omega), n 6 i (by omega) (by omega), n 7 i (by omega) (by omega)]; exact r6⟩
  · rw [q4] at hj
    by_cases e : j = σ 4 0
    · subst e
      rw [e4n]
      exact ⟨h, hn, by unfold rwC; rw [q8, q9, q10, q11, q12, tAdd, if_pos rfl]; exact hr⟩
    · obtain ⟨h6, k6, r6⟩ := s5 j (by omega)
      rw [e4 j e]
      exact ⟨h6, by rw [ho _ (kd_ne k6 s1 rfl) (nq _ _ k6) (nq2 _ _ k6)]; exact k6, by unfold rwC; rw [n 8 j (by omega) (by omega), n 9 j (by omega) (by omega), n 10 j (by omega) (by omega), n 11 j (by omega) (by omega), n 12 j (by omega) (by omega), tAdd, if_neg e]; exact r6⟩
  · rw [n 3 0 (by omega) (by omega)] at hi hk
    rw [e3, e3] at he
    exact s6 i k hi hk he
  · rw [q4] at hi hk
    by_cases e : i = σ 4 0
    · by_cases e' : k = σ 4 0
      · omega
      · rw [e, e4n, e4 k e'] at he
        obtain ⟨h6, k6, -⟩ := s5 k (by omega)
        exact absurd he.symm (nq _ _ k6)
    · by_cases e' : k = σ 4 0
      · rw [e', e4n, e4 i e] at he
        obtain ⟨h6, k6, -⟩ := s5 i (by omega)
        exact absurd he (nq _ _ k6)
      · rw [e4 i e, e4 k e'] at he; exact s7 i k (by omega) (by omega) he
end SDA
set_option maxHeartbeats 4000000 in
set_option maxRecDepth 100000 in
/-- a wand more, if there is room -/
theorem sg_addW (l : Launch) (g : wG) (κ : wMu) (zz : Nat) {μ ν : wMu} {Λ Ω σ : sSt} {τ : Nat → Nat} {i : Nat} {x : Int32} (hF : fD g Λ none σ μ) (hS : sD g Ω τ σ ν) (hd : dj μ ν) (hg : pG τ σ i) (hi : i ≤ 400)  {p : Program} {e : Env} {s : State} {m : MethodId} {below : List Frame} {meth : Method} {c : Code} {H : Heap} {locs : List Loc} {ls : Array Slot} (hx : p.tables.exec = Jvm.exec) (hb : c.code = cL_act) (hr : meth.sig.returnType = (some .boolean)) (hml : c.maxLocals = 8) (hown : s.vm.findClass yL_act.cls = some m.cls) (hlocks : meth.locks = false) (hX : wX g (wA κ zz) s H locs (mU μ ν)) (hl : lv_has ls 8 [(4, .int (nI (σ 4 0))), (3, .int (nI (σ 3 0))), (2, .int x), (1, .ref (Ω 0 0)), (0, .ref (Λ 0 0))]) : W p l e ({ frames := 9, cells := 8, slots := 80, locals := 200 } : Room) s m ([.ref (Λ 0 0), .ref (Ω 0 0), .int x] : List Value).toArray below meth c H locs 0 0 (MQ below (wQc g κ zz (fun r κ' => r = some (.int (nI 1)) ∧ bW g (Λ 0 0) (Ω 0 0) (i + 1) κ')) ([.ref (Λ 0 0), .ref (Ω 0 0), .int x] : List Value).toArray s 8 80 (wA κ zz)) (F0 m 26 ls []) := by
  have hO := hg.O
  have hT := hg.T
  obtain ⟨⟨-, gh, gc⟩, -⟩ := id hg
  obtain ⟨s1, ⟨fw, s2, s2'⟩, ⟨fc, s3, s3'⟩, s4, s5, s6, s7⟩ := id hS
  obtain ⟨o1, o2, o3, o4, o5, o6, o7⟩ := id hO
  refine lv_iload_n hx hb dL_act_26 rfl (lv_at hl 1 rfl) ?_
  refine lv_iconst (v := nI 4) hx hb dL_act_27 (by decide) ?_
  refine n_ne (tgt := 33) hx hb (by omega) (by omega) dL_act_28 (by decide) (fun c_1 => ?_) (fun c_1 => ?_)
  · skip
    refine lv_iconst (v := nI 1) hx hb dL_act_33 (by decide) ?_
    refine lv_iload_n hx hb dL_act_34 rfl (lv_at hl 2 rfl) ?_
    refine lv_iconst (v := nI 4) hx hb dL_act_35 (by decide) ?_
    refine lv_ishr hx hb dL_act_36 ?_
    refine lv_topi (fun y_2 _ => ?_)
    refine lv_bipush (v := nI 60) hx hb dL_act_37 (by decide) ?_
    refine w_call (w_runS (n := 2) (As := [.int y_2, .int (nI 60)]) (rest := [.int (nI 1)]) hx hb hml hown hX (c_L_below l g (mU μ ν) H.size (by omega) (by omega)) kw509 kw0 kw507 kw508 wn_L_below rfl ⟨Nat.le_of_ble_eq_true rfl, Nat.le_of_ble_eq_true rfl⟩ hl.1 rfl (Nat.le_of_ble_eq_true rfl) dL_act_39 ⟨Nat.le_of_ble_eq_true rfl, Nat.le_of_ble_eq_true rfl⟩) hX (fun r_6 μ_4 H locs q_5 hX hz => ?_)
    obtain ⟨b_3, hb_3, rfl, e_7⟩ := q_5
    rw [e_7] at hX
    refine W.eq (g2 := F0 m 42 ls [.int (nI b_3), .int (nI 1)]) rfl ?_
    refine n_iadd hx hb dL_act_42 (nI_add _ _) ?_
    refine lv_istore (lv' := [(5, .int (nI (1 + b_3))), (4, .int (nI (σ 4 0))), (3, .int (nI (σ 3 0))), (2, .int x), (1, .ref (Ω 0 0)), (0, .ref (Λ 0 0))]) hx hb dL_act_43 hl (by decide) rfl (fun ls hl => ?_)
    refine lv_aload_n hx hb dL_act_45 rfl (lv_at hl 4 rfl) ?_
    refine lv_aload_n hx hb dL_act_46 rfl (lv_at hl 4 rfl) ?_
    refine gX3_0 hx hb hX hown (mU_r s1) kw628 dL_act_47 ?_
    refine lv_iconst (v := nI 3) hx hb dL_act_50 (by decide) ?_
    refine n_newI hx hb hX kw543 (by omega) (Nat.le_of_ble_eq_true rfl) (Nat.le_of_ble_eq_true rfl) dL_act_51 (fun q_8 H hq_9 hX => ?_)
    have hq_9n := (mU_no hq_9).2
    have ne_10 : (Ω 0 0) ≠ q_8 := fun z => by have h9 := s1; rw [z, hq_9n] at h9; cases h9
    have ne_11 : (Ω 1 0) ≠ q_8 := fun z => by have h9 := s2; rw [z, hq_9n] at h9; cases h9
    have ne_12 : (Ω 2 0) ≠ q_8 := fun z => by have h9 := s3; rw [z, hq_9n] at h9; cases h9
    obtain ⟨h_13, eh_14⟩ : ∃ z : Nat → Int32, z = fun _ => 0 := ⟨_, rfl⟩
    rw [← eh_14] at hX
    have r_15 : rW 0 0 0 h_13 := by rw [eh_14]; exact ⟨rfl, rfl, rfl⟩
    obtain ⟨μ_16, e_17⟩ : ∃ z, z = va_up ν q_8 (some (sR g 3 h_13)) := ⟨_, rfl⟩
    rw [mU_up, ← e_17] at hX
    have hd : dj μ μ_16 := by rw [e_17]; exact hd.up (mU_no hq_9).1
    have k_18 : μ_16 q_8 = some (sR g 3 h_13) := by rw [e_17]; exact va_up_self _ _ _
    have k_19 := (congrFun e_17 (Ω 0 0)).trans ((va_up_ne _ _ ne_10).trans s1)
    have k_20 := (congrFun e_17 (Ω 1 0)).trans ((va_up_ne _ _ ne_11).trans s2)
    have k_21 := (congrFun e_17 (Ω 2 0)).trans ((va_up_ne _ _ ne_12).trans s3)
    refine W.eq (g2 := F0 m 53 ls [.ref q_8, .ref (Ω 1 0), .ref (Ω 0 0)]) rfl ?_
    refine lv_dup hx hb dL_act_53 rfl ?_
    refine lv_iconst (v := nI 0) hx hb dL_act_54 (by decide) ?_
    refine lv_iload hx hb dL_act_55 (lv_at hl 0 rfl) ?_
    refine n_iast hx hb hX (mU_r k_18) (by omega) (by omega) dL_act_57 (fun H locs hX => ?_)
    obtain ⟨h_22, eh_23⟩ : ∃ z, z = upd h_13 0 (nI (1 + b_3)) := ⟨_, rfl⟩
    rw [← eh_23] at hX
    have r_24 : rW (1 + b_3) 0 0 h_22 := by rw [eh_23]; exact r_15.s0 _
    obtain ⟨μ_25, e_26⟩ : ∃ z, z = va_up μ_16 q_8 (some (sR g 3 h_22)) := ⟨_, rfl⟩
    rw [mU_up, ← e_26] at hX
    have hd : dj μ μ_25 := by rw [e_26]; exact hd.up (hd.no k_18)
    have k_27 : μ_25 q_8 = some (sR g 3 h_22) := by rw [e_26]; exact va_up_self _ _ _
    have k_28 := (congrFun e_26 (Ω 0 0)).trans ((va_up_ne _ _ ne_10).trans k_19)
    have k_29 := (congrFun e_26 (Ω 1 0)).trans ((va_up_ne _ _ ne_11).trans k_20)
    have k_30 := (congrFun e_26 (Ω 2 0)).trans ((va_up_ne _ _ ne_12).trans k_21)
    refine lv_dup hx hb dL_act_58 rfl ?_
    refine lv_iconst (v := nI 1) hx hb dL_act_59 (by decide) ?_
    refine lv_iload_n hx hb dL_act_60 rfl (lv_at hl 3 rfl) ?_
    refine lv_bipush (v := nI 6) hx hb dL_act_61 (by decide) ?_
    refine lv_ishr hx hb dL_act_63 ?_
    refine lv_topi (fun y_31 _ => ?_)
    refine lv_bipush (v := nI 10) hx hb dL_act_64 (by decide) ?_
    refine w_call (w_runS (n := 2) (As := [.int y_31, .int (nI 10)]) (rest := [.int (nI 1), .ref q_8, .ref q_8, .ref (Ω 1 0), .ref (Ω 0 0)]) hx hb hml hown hX (c_L_below l g (mU μ μ_25) H.size (by omega) (by omega)) kw509 kw0 kw507 kw508 wn_L_below rfl ⟨Nat.le_of_ble_eq_true rfl, Nat.le_of_ble_eq_true rfl⟩ hl.1 rfl (Nat.le_of_ble_eq_true rfl) dL_act_66 ⟨Nat.le_of_ble_eq_true rfl, Nat.le_of_ble_eq_true rfl⟩) hX (fun r_35 μ_33 H locs q_34 hX hz => ?_)
    obtain ⟨b_32, hb_32, rfl, e_36⟩ := q_34
    rw [e_36] at hX
    refine W.eq (g2 := F0 m 69 ls [.int (nI b_32), .int (nI 1), .ref q_8, .ref q_8, .ref (Ω 1 0), .ref (Ω 0 0)]) rfl ?_
    refine n_iast hx hb hX (mU_r k_27) (by omega) (by omega) dL_act_69 (fun H locs hX => ?_)
    obtain ⟨h_37, eh_38⟩ : ∃ z, z = upd h_22 1 (nI b_32) := ⟨_, rfl⟩
    rw [← eh_38] at hX
    have r_39 : rW (1 + b_3) b_32 0 h_37 := by rw [eh_38]; exact r_24.s1 _
    obtain ⟨μ_40, e_41⟩ : ∃ z, z = va_up μ_25 q_8 (some (sR g 3 h_37)) := ⟨_, rfl⟩
    rw [mU_up, ← e_41] at hX
    have hd : dj μ μ_40 := by rw [e_41]; exact hd.up (hd.no k_27)
    have k_42 : μ_40 q_8 = some (sR g 3 h_37) := by rw [e_41]; exact va_up_self _ _ _
    have k_43 := (congrFun e_41 (Ω 0 0)).trans ((va_up_ne _ _ ne_10).trans k_28)
    have k_44 := (congrFun e_41 (Ω 1 0)).trans ((va_up_ne _ _ ne_11).trans k_29)
    have k_45 := (congrFun e_41 (Ω 2 0)).trans ((va_up_ne _ _ ne_12).trans k_30)
    refine lv_dup hx hb dL_act_70 rfl ?_
    refine lv_iconst (v := nI 2) hx hb dL_act_71 (by decide) ?_
    refine lv_iload hx hb dL_act_72 (lv_at hl 0 rfl) ?_
    refine n_iast hx hb hX (mU_r k_42) (by omega) (by omega) dL_act_74 (fun H locs hX => ?_)
    obtain ⟨h_46, eh_47⟩ : ∃ z, z = upd h_37 2 (nI (1 + b_3)) := ⟨_, rfl⟩
    rw [← eh_47] at hX
    have r_48 : rW (1 + b_3) b_32 (1 + b_3) h_46 := by rw [eh_47]; exact r_39.s2 _
    obtain ⟨μ_49, e_50⟩ : ∃ z, z = va_up μ_40 q_8 (some (sR g 3 h_46)) := ⟨_, rfl⟩
    rw [mU_up, ← e_50] at hX
    have hd : dj μ μ_49 := by rw [e_50]; exact hd.up (hd.no k_42)
    have k_51 : μ_49 q_8 = some (sR g 3 h_46) := by rw [e_50]; exact va_up_self _ _ _
    have k_52 := (congrFun e_50 (Ω 0 0)).trans ((va_up_ne _ _ ne_10).trans k_43)
    have k_53 := (congrFun e_50 (Ω 1 0)).trans ((va_up_ne _ _ ne_11).trans k_44)
    have k_54 := (congrFun e_50 (Ω 2 0)).trans ((va_up_ne _ _ ne_12).trans k_45)
    have hzr : ∀ z, z ≠ q_8 → μ_49 z = ν z := fun z hn => by rw [e_50, va_up_ne _ _ hn, e_41, va_up_ne _ _ hn, e_26, va_up_ne _ _ hn, e_17, va_up_ne _ _ hn]
    have hnq : ∀ z e, ν z = some e → z ≠ q_8 := fun z e h c => by rw [c, hq_9n] at h; cases h
    have hrow : ∀ k, k < σ 3 0 → ∃ r rk rh, fw k = some r ∧ μ_49 r = some (sR g rk rh) := fun k hk => by obtain ⟨h6, k6, -⟩ := s4 k hk; exact ⟨Ω 3 k, 3, h6, s2' k hk, (hzr _ (hnq _ _ k6)).trans k6⟩
    refine w_callR (w_runS (n := 2) (As := [.ref (Ω 1 0), .ref q_8]) (rest := [.ref (Ω 0 0)]) hx hb hml hown hX.r (c_X3_with l g μ_49 H.size k_53 k_51 hrow (by omega)) kw520 kw7 kw518 kw519 wn_X3_with rfl ⟨Nat.le_of_ble_eq_true rfl, Nat.le_of_ble_eq_true rfl⟩ hl.1 rfl (Nat.le_of_ble_eq_true rfl) dL_act_75 ⟨Nat.le_of_ble_eq_true rfl, Nat.le_of_ble_eq_true rfl⟩) hX hd (fun r_57 μ_55 H locs q_56 hd hX hz => ?_)
    obtain ⟨q2, F, rfl, hq2, hA, hFo, hFn, hz2⟩ := q_56
    refine W.eq (g2 := F0 m 78 ls [.ref q2, .ref (Ω 0 0)]) rfl ?_
    have nq2 : ∀ z e, μ_49 z = some e → z ≠ q2 := fun z e h c => by rw [c, hq2] at h; cases h
    have kx := (hz2 _ (nq2 _ _ k_52)).trans k_52
    have kr := (hz2 _ (nq2 _ _ k_51)).trans k_51
    refine pX3_0 hx hb hX hown (mU_r kx) kw628 dL_act_78 (fun H locs hX => ?_)
    obtain ⟨μ_58, e_59⟩ : ∃ z, z = va_up μ_55 (Ω 0 0) (some (.inr (4, [.ref q2, .ref (Ω 2 0), .int (nI (σ 0 0)), .int (nI (σ 1 0)), .int (nI (σ 2 0))]))) := ⟨_, rfl⟩
    rw [mU_up, ← e_59] at hX
    have hd : dj μ μ_58 := by rw [e_59]; exact hd.up (hd.no kx)
    have k_60 : μ_58 (Ω 0 0) = some (.inr (4, [.ref q2, .ref (Ω 2 0), .int (nI (σ 0 0)), .int (nI (σ 1 0)), .int (nI (σ 2 0))])) := by rw [e_59]; exact va_up_self _ _ _
    have k_61 := (congrFun e_59 q_8).trans ((va_up_ne _ _ (kd_ne kr kx rfl)).trans kr)
    have k_62 := (congrFun e_59 q2).trans ((va_up_ne _ _ (kd_ne hA kx rfl)).trans hA)
    refine lv_aload_n hx hb dL_act_81 rfl (lv_at hl 5 rfl) ?_
    refine lv_iload hx hb dL_act_82 (lv_at hl 0 rfl) ?_
    refine lv_aload_n hx hb dL_act_84 rfl (lv_at hl 4 rfl) ?_
    refine gX3_0 hx hb hX hown (mU_r k_60) kw628 dL_act_85 ?_
    refine lv_iload_n hx hb dL_act_88 rfl (lv_at hl 2 rfl) ?_
    refine n_aaldRv hx hb hX (mU_r k_62) (by omega) (by omega) dL_act_89 hFn ?_
    refine lv_iconst (v := nI 1) hx hb dL_act_90 (by decide) ?_
    refine n_ialdv hx hb hX (mU_r k_61) (by omega) (by omega) dL_act_91 r_48.2.1 ?_
    refine w_callL (w_runV (n := 2) (As := [.int (nI (1 + b_3)), .int (nI b_32)]) (rest := []) hx hb hml hown (hX.l hd) (c_X2_addWand_g l g μ H.size hF hO (by omega) (by omega) (by omega) (by omega)) kw526 kw1 kw523 kw524 kw525 wn_X2_addWand rfl hF.1 rfl ⟨Nat.le_of_ble_eq_true rfl, Nat.le_of_ble_eq_true rfl⟩ hl.1 rfl (Nat.le_of_ble_eq_true rfl) dL_act_92 ⟨Nat.le_of_ble_eq_true rfl, Nat.le_of_ble_eq_true rfl⟩) hX hd (fun r_65 μ_63 H locs q_64 hd hX hz => ?_)
    obtain ⟨Λ', rfl, hF2, hl0, -⟩ := q_64
    refine W.eq (g2 := F0 m 95 ls [.int (nI (σ 3 0))]) rfl ?_
    refine lv_iload_n hx hb dL_act_95 rfl (lv_at hl 2 rfl) ?_
    refine n_ne (tgt := 103) hx hb (by omega) (by omega) dL_act_96 (by decide) (fun h => absurd h (by omega)) (fun _ => ?_)
    refine lv_iconst (v := nI 1) hx hb dL_act_99 (by decide) ?_
    refine lv_goto (tgt := 104) hx hb dL_act_100 (by decide) ?_
    have hS2 := hS.addW (a := 1 + b_3) (b := b_32) hq_9n (by rw [← hzr _ (fun c => by rw [c, k_51] at hq2; cases hq2)]; exact hq2) k_60 k_62 (fun k hk => (hFo k hk).trans (s2' k hk)) hFn k_61 r_48 (fun z n1 n2 n3 => by rw [e_59, va_up_ne _ _ n1, hz2 z n3, hzr z n2])
    exact w_zret hx hb hr hlocks hX (by first | rfl | decide) ⟨rfl, Λ', _, _, τ, μ_63, μ_58, rfl, hd, hF2, hS2, hl0, by rw [up2_nf _ (by omega), up2_nf _ (by omega)], hg.addW (by omega) (by omega) (by omega) (by omega)⟩ ⟨Nat.le_of_ble_eq_true rfl, Nat.le_of_ble_eq_true rfl⟩ dL_act_104
  · skip
    refine lv_iconst (v := nI 1) hx hb dL_act_31 (by decide) ?_
    exact w_zret hx hb hr hlocks hX (by first | rfl | decide) ⟨rfl, Λ, Ω, σ, τ, μ, ν, rfl, hd, hF, hS, rfl, rfl, hg.up⟩ ⟨Nat.le_of_ble_eq_true rfl, Nat.le_of_ble_eq_true rfl⟩ dL_act_32

