/-! WHAT THE LAW DOES TO BOTH -/
def bW (g : wG) (o1 o2 i : Nat) (κ : wMu) : Prop := ∃ (Λ Ω σ : sSt) (τ : Nat → Nat) (μ ν : wMu), κ = mU μ ν ∧ dj μ ν ∧ fD g Λ none σ μ ∧ sD g Ω τ σ ν ∧ Λ 0 0 = o1 ∧ Ω 0 0 = o2 ∧ pG τ σ i
theorem wX.cast {g : wG} {A : Nat → Prop} {s : State} {H : Heap} {locs : List Loc} {κ κ' : wMu} (h : wX g A s H locs κ) (e : κ = κ') : wX g A s H locs κ' := by rw [← e]; exact h
theorem up2_same {τ : sSt} {f i v : Nat} (h : τ f i = v) : up2 τ f i v = τ := by
  funext f' i'
  by_cases e : f' = f ∧ i' = i
  · rw [e.1, e.2, up2_self, h]
  · exact if_neg e
theorem sFal_le {σ : sSt} (hO : sOk σ) (k : Nat) : ∀ n, n ≤ σ 3 0 → sFal σ k n ≤ 60 * n
  | 0, _ => Nat.le_refl _
  | n + 1, h => by
    have h1 := sFal_le hO k n (by omega)
    have h2 := dIn_le σ n k
    have h3 := hO.2.2.1 n (by omega)
    simp only [sFal]
    omega
section SDA
variable {g : wG} {Ω σ : sSt} {τ : Nat → Nat} {ν ν' : wMu}
theorem sD.addW (hS : sD g Ω τ σ ν) {q q2 a b : Nat} {F : Nat → Option Nat} {h : Nat → Int32} (hq : ν q = none) (hq2 : ν q2 = none) (hx : ν' (Ω 0 0) = some (.inr (4, [.ref q2, .ref (Ω 2 0), .int (nI (σ 0 0)), .int (nI (σ 1 0)), .int (nI (σ 2 0))]))) (h2 : ν' q2 = some (sA g (σ 3 0 + 1) F)) (hF : ∀ i, i < σ 3 0 → F i = some (Ω 3 i)) (hFn : F (σ 3 0) = some q) (hn : ν' q = some (sR g 3 h)) (hr : rW a b a h) (ho : ∀ z, z ≠ Ω 0 0 → z ≠ q → z ≠ q2 → ν' z = ν z) : sD g (up2 (up2 Ω 1 0 q2) 3 (σ 3 0) q) τ (nAddW σ a b) ν' := by
  obtain ⟨s1, ⟨fw, s2, s2'⟩, ⟨fc, s3, s3'⟩, s4, s5, s6, s7⟩ := id hS
  obtain ⟨q3, q5, q6, q7⟩ := nAddW_3 σ a b
  have nq : ∀ z e, ν z = some e → z ≠ q := fun z e h c => by rw [c, hq] at h; cases h
  have nq2 : ∀ z e, ν z = some e → z ≠ q2 := fun z e h c => by rw [c, hq2] at h; cases h
  have e0 : up2 (up2 Ω 1 0 q2) 3 (σ 3 0) q 0 0 = Ω 0 0 := by rw [up2_nf _ (by omega), up2_nf _ (by omega)]
  have e1 : up2 (up2 Ω 1 0 q2) 3 (σ 3 0) q 1 0 = q2 := by rw [up2_nf _ (by omega), up2_self]
  have e2 : up2 (up2 Ω 1 0 q2) 3 (σ 3 0) q 2 0 = Ω 2 0 := by rw [up2_nf _ (by omega), up2_nf _ (by omega)]
  have e3 : ∀ i, i ≠ σ 3 0 → up2 (up2 Ω 1 0 q2) 3 (σ 3 0) q 3 i = Ω 3 i := fun i hi => by rw [up2_ni _ hi, up2_nf _ (by omega)]
  have e3n : up2 (up2 Ω 1 0 q2) 3 (σ 3 0) q 3 (σ 3 0) = q := up2_self _ _ _ _
  have e4 : ∀ i, up2 (up2 Ω 1 0 q2) 3 (σ 3 0) q 4 i = Ω 4 i := fun i => by rw [up2_nf _ (by omega), up2_nf _ (by omega)]
  have n : ∀ f k, f ≠ 3 → ¬ (5 ≤ f ∧ f ≤ 7 ∧ k = σ 3 0) → nAddW σ a b f k = σ f k := fun f k h1 h2 => nAddW_o σ a b h1 h2
  refine ⟨?_, ⟨F, by rw [e1, q3]; exact h2, fun i hi => ?_⟩, ⟨fc, ?_, fun j hj => ?_⟩, fun i hi => ?_, fun j hj => ?_, fun i k hi hk he => ?_, fun i k hi hk he => ?_⟩
  · rw [e0, hx]; simp only [sS, e1, e2, n 0 0 (by omega) (by omega), n 1 0 (by omega) (by omega), n 2 0 (by omega) (by omega)]
  · rw [q3] at hi
    by_cases e : i = σ 3 0
    · rw [e, e3n]; exact hFn
    · rw [e3 i e]; exact hF i (by omega)
  · rw [e2, n 4 0 (by omega) (by omega), ho _ (kd_ne s3 s1 rfl) (nq _ _ s3) (nq2 _ _ s3)]; exact s3
  · rw [n 4 0 (by omega) (by omega)] at hj; rw [e4]; exact s3' j hj
  · rw [q3] at hi
    by_cases e : i = σ 3 0
    · subst e
      rw [e3n]
      exact ⟨h, hn, by unfold rwW; rw [q5, q6, q7]; exact hr⟩
    · obtain ⟨h6, k6, r6⟩ := s4 i (by omega)
      rw [e3 i e]
      exact ⟨h6, by rw [ho _ (kd_ne k6 s1 rfl) (nq _ _ k6) (nq2 _ _ k6)]; exact k6, by unfold rwW; rw [n 5 i (by omega) (by omega), n 6 i (by omega) (by omega), n 7 i (by omega) (by omega)]; exact r6⟩
  · rw [n 4 0 (by omega) (by omega)] at hj
    obtain ⟨h6, k6, r6⟩ := s5 j hj
    rw [e4]
    exact ⟨h6, by rw [ho _ (kd_ne k6 s1 rfl) (nq _ _ k6) (nq2 _ _ k6)]; exact k6, by unfold rwC; rw [n 8 j (by omega) (by omega), n 9 j (by omega) (by omega), n 10 j (by omega) (by omega), n 11 j (by omega) (by omega), n 12 j (by omega) (by omega)]; exact r6⟩
  · rw [q3] at hi hk
    by_cases e : i = σ 3 0
    · by_cases e' : k = σ 3 0
      · omega
      · rw [e, e3n, e3 k e'] at he
        obtain ⟨h6, k6, -⟩ := s4 k (by omega)
        exact absurd he.symm (nq _ _ k6)
    · by_cases e' : k = σ 3 0
      · rw [e', e3n, e3 i e] at he
        obtain ⟨h6, k6, -⟩ := s4 i (by omega)
        exact absurd he (nq _ _ k6)
      · rw [e3 i e, e3 k e'] at he; exact s6 i k (by omega) (by omega) he
  · rw [n 4 0 (by omega) (by omega)] at hi hk
    rw [e4, e4] at he
    exact s7 i k hi hk he
theorem sD.addC (hS : sD g Ω τ σ ν) (hO : sOk σ) {q q2 a b d : Nat} {F : Nat → Option Nat} {h : Nat → Int32} (hq : ν q = none) (hq2 : ν q2 = none) (hx : ν' (Ω 0 0) = some (.inr (4, [.ref (Ω 1 0), .ref q2, .int (nI (σ 0 0)), .int (nI (σ 1 0)), .int (nI (σ 2 0))]))) (h2 : ν' q2 = some (sA g (σ 4 0 + 1) F)) (hF : ∀ i, i < σ 4 0 → F i = some (Ω 4 i)) (hFn : F (σ 4 0) = some q) (hn : ν' q = some (sR g 6 h)) (hr : rC a b d 0 0 0 h) (ho : ∀ z, z ≠ Ω 0 0 → z ≠ q → z ≠ q2 → ν' z = ν z) : sD g (up2 (up2 Ω 2 0 q2) 4 (σ 4 0) q) (tAdd τ (σ 4 0)) (up2 (nAddC σ a b) 10 (σ 4 0) d) ν' := by
  obtain ⟨s1, ⟨fw, s2, s2'⟩, ⟨fc, s3, s3'⟩, s4, s5, s6, s7⟩ := id hS
  obtain ⟨p4, p8, p9, p10, p11, p12, p13⟩ := nAddC_4 σ a b
  have o5 := hO.2.2.2.2.1 (σ 4 0) (Nat.le_refl _)
  obtain ⟨σ', hσ⟩ : ∃ z, z = up2 (nAddC σ a b) 10 (σ 4 0) d := ⟨_, rfl⟩
  rw [← hσ]
  have q4 : σ' 4 0 = σ 4 0 + 1 := by rw [hσ, up2_nf _ (by omega)]; exact p4
  have q8 : σ' 8 (σ 4 0) = a := by rw [hσ, up2_nf _ (by omega)]; exact p8
  have q9 : σ' 9 (σ 4 0) = b := by rw [hσ, up2_nf _ (by omega)]; exact p9
  have q10 : σ' 10 (σ 4 0) = d := by rw [hσ, up2_self]
  have q11 : σ' 11 (σ 4 0) = 0 := by rw [hσ, up2_nf _ (by omega), p11]; exact o5.1
  have q12 : σ' 12 (σ 4 0) = 0 := by rw [hσ, up2_nf _ (by omega), p12]; exact o5.2
  have n : ∀ f k, f ≠ 4 → ¬ (8 ≤ f ∧ f ≤ 13 ∧ k = σ 4 0) → σ' f k = σ f k := fun f k h1 h2 => by
    rw [hσ, ← nAddC_o σ a b h1 h2]
    exact if_neg (by omega)
  have nq : ∀ z e, ν z = some e → z ≠ q := fun z e h c => by rw [c, hq] at h; cases h
  have nq2 : ∀ z e, ν z = some e → z ≠ q2 := fun z e h c => by rw [c, hq2] at h; cases h
  have e0 : up2 (up2 Ω 2 0 q2) 4 (σ 4 0) q 0 0 = Ω 0 0 := by rw [up2_nf _ (by omega), up2_nf _ (by omega)]
  have e1 : up2 (up2 Ω 2 0 q2) 4 (σ 4 0) q 1 0 = Ω 1 0 := by rw [up2_nf _ (by omega), up2_nf _ (by omega)]
  have e2 : up2 (up2 Ω 2 0 q2) 4 (σ 4 0) q 2 0 = q2 := by rw [up2_nf _ (by omega), up2_self]
  have e4 : ∀ i, i ≠ σ 4 0 → up2 (up2 Ω 2 0 q2) 4 (σ 4 0) q 4 i = Ω 4 i := fun i hi => by rw [up2_ni _ hi, up2_nf _ (by omega)]
  have e4n : up2 (up2 Ω 2 0 q2) 4 (σ 4 0) q 4 (σ 4 0) = q := up2_self _ _ _ _
  have e3 : ∀ i, up2 (up2 Ω 2 0 q2) 4 (σ 4 0) q 3 i = Ω 3 i := fun i => by rw [up2_nf _ (by omega), up2_nf _ (by omega)]
  refine ⟨?_, ⟨fw, ?_, fun i hi => ?_⟩, ⟨F, by rw [e2, q4]; exact h2, fun j hj => ?_⟩, fun i hi => ?_, fun j hj => ?_, fun i k hi hk he => ?_, fun i k hi hk he => ?_⟩
  · rw [e0, hx]; simp only [sS, e1, e2, n 0 0 (by omega) (by omega), n 1 0 (by omega) (by omega), n 2 0 (by omega) (by omega)]
  · rw [e1, n 3 0 (by omega) (by omega), ho _ (kd_ne s2 s1 rfl) (nq _ _ s2) (nq2 _ _ s2)]; exact s2
  · rw [n 3 0 (by omega) (by omega)] at hi; rw [e3]; exact s2' i hi
  · rw [q4] at hj
    by_cases e : j = σ 4 0
    · rw [e, e4n]; exact hFn
    · rw [e4 j e]; exact hF j (by omega)
  · rw [n 3 0 (by omega) (by omega)] at hi
    obtain ⟨h6, k6, r6⟩ := s4 i hi
    rw [e3]
    exact ⟨h6, by rw [ho _ (kd_ne k6 s1 rfl) (nq _ _ k6) (nq2 _ _ k6)]; exact k6, by unfold rwW; rw [n 5 i (by omega) (by omega), n 6 i (by omega) (by omega), n 7 i (by omega) (by omega)]; exact r6⟩
  · rw [q4] at hj
    by_cases e : j = σ 4 0
    · subst e
      rw [e4n]
      exact ⟨h, hn, by unfold rwC; rw [q8, q9, q10, q11, q12, tAdd, if_pos rfl]; exact hr⟩
    · obtain ⟨h6, k6, r6⟩ := s5 j (by omega)
      rw [e4 j e]
      exact ⟨h6, by rw [ho _ (kd_ne k6 s1 rfl) (nq _ _ k6) (nq2 _ _ k6)]; exact k6, by unfold rwC; rw [n 8 j (by omega) (by omega), n 9 j (by omega) (by omega), n 10 j (by omega) (by omega), n 11 j (by omega) (by omega), n 12 j (by omega) (by omega), tAdd, if_neg e]; exact r6⟩
  · rw [n 3 0 (by omega) (by omega)] at hi hk
    rw [e3, e3] at he
    exact s6 i k hi hk he
  · rw [q4] at hi hk
    by_cases e : i = σ 4 0
    · by_cases e' : k = σ 4 0
      · omega
      · rw [e, e4n, e4 k e'] at he
        obtain ⟨h6, k6, -⟩ := s5 k (by omega)
        exact absurd he.symm (nq _ _ k6)
    · by_cases e' : k = σ 4 0
      · rw [e', e4n, e4 i e] at he
        obtain ⟨h6, k6, -⟩ := s5 i (by omega)
        exact absurd he (nq _ _ k6)
      · rw [e4 i e, e4 k e'] at he; exact s7 i k (by omega) (by omega) he
end SDA
set_option maxHeartbeats 4000000 in
set_option maxRecDepth 100000 in
/-- a wand more, if there is room -/
theorem sg_addW (l : Launch) (g : wG) (κ : wMu) (zz : Nat) {μ ν : wMu} {Λ Ω σ : sSt} {τ : Nat → Nat} {i : Nat} {x : Int32} (hF : fD g Λ none σ μ) (hS : sD g Ω τ σ ν) (hd : dj μ ν) (hg : pG τ σ i) (hi : i ≤ 400)  {p : Program} {e : Env} {s : State} {m : MethodId} {below : List Frame} {meth : Method} {c : Code} {H : Heap} {locs : List Loc} {ls : Array Slot} (hx : p.tables.exec = Jvm.exec) (hb : c.code = cL_act) (hr : meth.sig.returnType = (some .boolean)) (hml : c.maxLocals = 8) (hown : s.vm.findClass yL_act.cls = some m.cls) (hlocks : meth.locks = false) (hX : wX g (wA κ zz) s H locs (mU μ ν)) (hl : lv_has ls 8 [(4, .int (nI (σ 4 0))), (3, .int (nI (σ 3 0))), (2, .int x), (1, .ref (Ω 0 0)), (0, .ref (Λ 0 0))]) : W p l e ({ frames := 9, cells := 8, slots := 80, locals := 200 } : Room) s m ([.ref (Λ 0 0), .ref (Ω 0 0), .int x] : List Value).toArray below meth c H locs 0 0 (MQ below (wQc g κ zz (fun r κ' => r = some (.int (nI 1)) ∧ bW g (Λ 0 0) (Ω 0 0) (i + 1) κ')) ([.ref (Λ 0 0), .ref (Ω 0 0), .int x] : List Value).toArray s 8 80 (wA κ zz)) (F0 m 26 ls []) := by
  have hO := hg.O
  have hT := hg.T
  obtain ⟨⟨-, gh, gc⟩, -⟩ := id hg
  obtain ⟨s1, ⟨fw, s2, s2'⟩, ⟨fc, s3, s3'⟩, s4, s5, s6, s7⟩ := id hS
  obtain ⟨o1, o2, o3, o4, o5, o6, o7⟩ := id hO
  refine lv_iload_n hx hb dL_act_26 rfl (lv_at hl 1 rfl) ?_
  refine lv_iconst (v := nI 4) hx hb dL_act_27 (by decide) ?_
  refine n_ne (tgt := 33) hx hb (by omega) (by omega) dL_act_28 (by decide) (fun c_1 => ?_) (fun c_1 => ?_)
  · skip
    refine lv_iconst (v := nI 1) hx hb dL_act_33 (by decide) ?_
    refine lv_iload_n hx hb dL_act_34 rfl (lv_at hl 2 rfl) ?_
    refine lv_iconst (v := nI 4) hx hb dL_act_35 (by decide) ?_
    refine lv_ishr hx hb dL_act_36 ?_
    refine lv_topi (fun y_2 _ => ?_)
    refine lv_bipush (v := nI 60) hx hb dL_act_37 (by decide) ?_
    refine w_call (w_runS (n := 2) (As := [.int y_2, .int (nI 60)]) (rest := [.int (nI 1)]) hx hb hml hown hX (c_L_below l g (mU μ ν) H.size (by omega) (by omega)) kw509 kw0 kw507 kw508 wn_L_below rfl ⟨Nat.le_of_ble_eq_true rfl, Nat.le_of_ble_eq_true rfl⟩ hl.1 rfl (Nat.le_of_ble_eq_true rfl) dL_act_39 ⟨Nat.le_of_ble_eq_true rfl, Nat.le_of_ble_eq_true rfl⟩) hX (fun r_6 μ_4 H locs q_5 hX hz => ?_)
    obtain ⟨b_3, hb_3, rfl, e_7⟩ := q_5
    rw [e_7] at hX
    refine W.eq (g2 := F0 m 42 ls [.int (nI b_3), .int (nI 1)]) rfl ?_
    refine n_iadd hx hb dL_act_42 (nI_add _ _) ?_
    refine lv_istore (lv' := [(5, .int (nI (1 + b_3))), (4, .int (nI (σ 4 0))), (3, .int (nI (σ 3 0))), (2, .int x), (1, .ref (Ω 0 0)), (0, .ref (Λ 0 0))]) hx hb dL_act_43 hl (by decide) rfl (fun ls hl => ?_)
    refine lv_aload_n hx hb dL_act_45 rfl (lv_at hl 4 rfl) ?_
    refine lv_aload_n hx hb dL_act_46 rfl (lv_at hl 4 rfl) ?_
    refine gX3_0 hx hb hX hown (mU_r s1) kw628 dL_act_47 ?_
    refine lv_iconst (v := nI 3) hx hb dL_act_50 (by decide) ?_
    refine n_newI hx hb hX kw543 (by omega) (Nat.le_of_ble_eq_true rfl) (Nat.le_of_ble_eq_true rfl) dL_act_51 (fun q_8 H hq_9 hX => ?_)
    have hq_9n := (mU_no hq_9).2
    have ne_10 : (Ω 0 0) ≠ q_8 := fun z => by have h9 := s1; rw [z, hq_9n] at h9; cases h9
    have ne_11 : (Ω 1 0) ≠ q_8 := fun z => by have h9 := s2; rw [z, hq_9n] at h9; cases h9
    have ne_12 : (Ω 2 0) ≠ q_8 := fun z => by have h9 := s3; rw [z, hq_9n] at h9; cases h9
    obtain ⟨h_13, eh_14⟩ : ∃ z : Nat → Int32, z = fun _ => 0 := ⟨_, rfl⟩
    rw [← eh_14] at hX
    have r_15 : rW 0 0 0 h_13 := by rw [eh_14]; exact ⟨rfl, rfl, rfl⟩
    obtain ⟨μ_16, e_17⟩ : ∃ z, z = va_up ν q_8 (some (sR g 3 h_13)) := ⟨_, rfl⟩
    rw [mU_up, ← e_17] at hX
    have hd : dj μ μ_16 := by rw [e_17]; exact hd.up (mU_no hq_9).1
    have k_18 : μ_16 q_8 = some (sR g 3 h_13) := by rw [e_17]; exact va_up_self _ _ _
    have k_19 := (congrFun e_17 (Ω 0 0)).trans ((va_up_ne _ _ ne_10).trans s1)
    have k_20 := (congrFun e_17 (Ω 1 0)).trans ((va_up_ne _ _ ne_11).trans s2)
    have k_21 := (congrFun e_17 (Ω 2 0)).trans ((va_up_ne _ _ ne_12).trans s3)
    refine W.eq (g2 := F0 m 53 ls [.ref q_8, .ref (Ω 1 0), .ref (Ω 0 0)]) rfl ?_
    refine lv_dup hx hb dL_act_53 rfl ?_
    refine lv_iconst (v := nI 0) hx hb dL_act_54 (by decide) ?_
    refine lv_iload hx hb dL_act_55 (lv_at hl 0 rfl) ?_
    refine n_iast hx hb hX (mU_r k_18) (by omega) (by omega) dL_act_57 (fun H locs hX => ?_)
    obtain ⟨h_22, eh_23⟩ : ∃ z, z = upd h_13 0 (nI (1 + b_3)) := ⟨_, rfl⟩
    rw [← eh_23] at hX
    have r_24 : rW (1 + b_3) 0 0 h_22 := by rw [eh_23]; exact r_15.s0 _
    obtain ⟨μ_25, e_26⟩ : ∃ z, z = va_up μ_16 q_8 (some (sR g 3 h_22)) := ⟨_, rfl⟩
    rw [mU_up, ← e_26] at hX
    have hd : dj μ μ_25 := by rw [e_26]; exact hd.up (hd.no k_18)
    have k_27 : μ_25 q_8 = some (sR g 3 h_22) := by rw [e_26]; exact va_up_self _ _ _
    have k_28 := (congrFun e_26 (Ω 0 0)).trans ((va_up_ne _ _ ne_10).trans k_19)
    have k_29 := (congrFun e_26 (Ω 1 0)).trans ((va_up_ne _ _ ne_11).trans k_20)
    have k_30 := (congrFun e_26 (Ω 2 0)).trans ((va_up_ne _ _ ne_12).trans k_21)
    refine lv_dup hx hb dL_act_58 rfl ?_
    refine lv_iconst (v := nI 1) hx hb dL_act_59 (by decide) ?_
    refine lv_iload_n hx hb dL_act_60 rfl (lv_at hl 3 rfl) ?_
    refine lv_bipush (v := nI 6) hx hb dL_act_61 (by decide) ?_
    refine lv_ishr hx hb dL_act_63 ?_
    refine lv_topi (fun y_31 _ => ?_)
    refine lv_bipush (v := nI 10) hx hb dL_act_64 (by decide) ?_
    refine w_call (w_runS (n := 2) (As := [.int y_31, .int (nI 10)]) (rest := [.int (nI 1), .ref q_8, .ref q_8, .ref (Ω 1 0), .ref (Ω 0 0)]) hx hb hml hown hX (c_L_below l g (mU μ μ_25) H.size (by omega) (by omega)) kw509 kw0 kw507 kw508 wn_L_below rfl ⟨Nat.le_of_ble_eq_true rfl, Nat.le_of_ble_eq_true rfl⟩ hl.1 rfl (Nat.le_of_ble_eq_true rfl) dL_act_66 ⟨Nat.le_of_ble_eq_true rfl, Nat.le_of_ble_eq_true rfl⟩) hX (fun r_35 μ_33 H locs q_34 hX hz => ?_)
    obtain ⟨b_32, hb_32, rfl, e_36⟩ := q_34
    rw [e_36] at hX
    refine W.eq (g2 := F0 m 69 ls [.int (nI b_32), .int (nI 1), .ref q_8, .ref q_8, .ref (Ω 1 0), .ref (Ω 0 0)]) rfl ?_
    refine n_iast hx hb hX (mU_r k_27) (by omega) (by omega) dL_act_69 (fun H locs hX => ?_)
    obtain ⟨h_37, eh_38⟩ : ∃ z, z = upd h_22 1 (nI b_32) := ⟨_, rfl⟩
    rw [← eh_38] at hX
    have r_39 : rW (1 + b_3) b_32 0 h_37 := by rw [eh_38]; exact r_24.s1 _
    obtain ⟨μ_40, e_41⟩ : ∃ z, z = va_up μ_25 q_8 (some (sR g 3 h_37)) := ⟨_, rfl⟩
    rw [mU_up, ← e_41] at hX
    have hd : dj μ μ_40 := by rw [e_41]; exact hd.up (hd.no k_27)
    have k_42 : μ_40 q_8 = some (sR g 3 h_37) := by rw [e_41]; exact va_up_self _ _ _
    have k_43 := (congrFun e_41 (Ω 0 0)).trans ((va_up_ne _ _ ne_10).trans k_28)
    have k_44 := (congrFun e_41 (Ω 1 0)).trans ((va_up_ne _ _ ne_11).trans k_29)
    have k_45 := (congrFun e_41 (Ω 2 0)).trans ((va_up_ne _ _ ne_12).trans k_30)
    refine lv_dup hx hb dL_act_70 rfl ?_
    refine lv_iconst (v := nI 2) hx hb dL_act_71 (by decide) ?_
    refine lv_iload hx hb dL_act_72 (lv_at hl 0 rfl) ?_
    refine n_iast hx hb hX (mU_r k_42) (by omega) (by omega) dL_act_74 (fun H locs hX => ?_)
    obtain ⟨h_46, eh_47⟩ : ∃ z, z = upd h_37 2 (nI (1 + b_3)) := ⟨_, rfl⟩
    rw [← eh_47] at hX
    have r_48 : rW (1 + b_3) b_32 (1 + b_3) h_46 := by rw [eh_47]; exact r_39.s2 _
    obtain ⟨μ_49, e_50⟩ : ∃ z, z = va_up μ_40 q_8 (some (sR g 3 h_46)) := ⟨_, rfl⟩
    rw [mU_up, ← e_50] at hX
    have hd : dj μ μ_49 := by rw [e_50]; exact hd.up (hd.no k_42)
    have k_51 : μ_49 q_8 = some (sR g 3 h_46) := by rw [e_50]; exact va_up_self _ _ _
    have k_52 := (congrFun e_50 (Ω 0 0)).trans ((va_up_ne _ _ ne_10).trans k_43)
    have k_53 := (congrFun e_50 (Ω 1 0)).trans ((va_up_ne _ _ ne_11).trans k_44)
    have k_54 := (congrFun e_50 (Ω 2 0)).trans ((va_up_ne _ _ ne_12).trans k_45)
    have hzr : ∀ z, z ≠ q_8 → μ_49 z = ν z := fun z hn => by rw [e_50, va_up_ne _ _ hn, e_41, va_up_ne _ _ hn, e_26, va_up_ne _ _ hn, e_17, va_up_ne _ _ hn]
    have hnq : ∀ z e, ν z = some e → z ≠ q_8 := fun z e h c => by rw [c, hq_9n] at h; cases h
    have hrow : ∀ k, k < σ 3 0 → ∃ r rk rh, fw k = some r ∧ μ_49 r = some (sR g rk rh) := fun k hk => by obtain ⟨h6, k6, -⟩ := s4 k hk; exact ⟨Ω 3 k, 3, h6, s2' k hk, (hzr _ (hnq _ _ k6)).trans k6⟩
    refine w_callR (w_runS (n := 2) (As := [.ref (Ω 1 0), .ref q_8]) (rest := [.ref (Ω 0 0)]) hx hb hml hown hX.r (c_X3_with l g μ_49 H.size k_53 k_51 hrow (by omega)) kw520 kw7 kw518 kw519 wn_X3_with rfl ⟨Nat.le_of_ble_eq_true rfl, Nat.le_of_ble_eq_true rfl⟩ hl.1 rfl (Nat.le_of_ble_eq_true rfl) dL_act_75 ⟨Nat.le_of_ble_eq_true rfl, Nat.le_of_ble_eq_true rfl⟩) hX hd (fun r_57 μ_55 H locs q_56 hd hX hz => ?_)
    obtain ⟨q2, F, rfl, hq2, hA, hFo, hFn, hz2⟩ := q_56
    refine W.eq (g2 := F0 m 78 ls [.ref q2, .ref (Ω 0 0)]) rfl ?_
    have nq2 : ∀ z e, μ_49 z = some e → z ≠ q2 := fun z e h c => by rw [c, hq2] at h; cases h
    have kx := (hz2 _ (nq2 _ _ k_52)).trans k_52
    have kr := (hz2 _ (nq2 _ _ k_51)).trans k_51
    refine pX3_0 hx hb hX hown (mU_r kx) kw628 dL_act_78 (fun H locs hX => ?_)
    obtain ⟨μ_58, e_59⟩ : ∃ z, z = va_up μ_55 (Ω 0 0) (some (.inr (4, [.ref q2, .ref (Ω 2 0), .int (nI (σ 0 0)), .int (nI (σ 1 0)), .int (nI (σ 2 0))]))) := ⟨_, rfl⟩
    rw [mU_up, ← e_59] at hX
    have hd : dj μ μ_58 := by rw [e_59]; exact hd.up (hd.no kx)
    have k_60 : μ_58 (Ω 0 0) = some (.inr (4, [.ref q2, .ref (Ω 2 0), .int (nI (σ 0 0)), .int (nI (σ 1 0)), .int (nI (σ 2 0))])) := by rw [e_59]; exact va_up_self _ _ _
    have k_61 := (congrFun e_59 q_8).trans ((va_up_ne _ _ (kd_ne kr kx rfl)).trans kr)
    have k_62 := (congrFun e_59 q2).trans ((va_up_ne _ _ (kd_ne hA kx rfl)).trans hA)
    refine lv_aload_n hx hb dL_act_81 rfl (lv_at hl 5 rfl) ?_
    refine lv_iload hx hb dL_act_82 (lv_at hl 0 rfl) ?_
    refine lv_aload_n hx hb dL_act_84 rfl (lv_at hl 4 rfl) ?_
    refine gX3_0 hx hb hX hown (mU_r k_60) kw628 dL_act_85 ?_
    refine lv_iload_n hx hb dL_act_88 rfl (lv_at hl 2 rfl) ?_
    refine n_aaldRv hx hb hX (mU_r k_62) (by omega) (by omega) dL_act_89 hFn ?_
    refine lv_iconst (v := nI 1) hx hb dL_act_90 (by decide) ?_
    refine n_ialdv hx hb hX (mU_r k_61) (by omega) (by omega) dL_act_91 r_48.2.1 ?_
    refine w_callL (w_runV (n := 2) (As := [.int (nI (1 + b_3)), .int (nI b_32)]) (rest := []) hx hb hml hown (hX.l hd) (c_X2_addWand_g l g μ H.size hF hO (by omega) (by omega) (by omega) (by omega)) kw526 kw1 kw523 kw524 kw525 wn_X2_addWand rfl hF.1 rfl ⟨Nat.le_of_ble_eq_true rfl, Nat.le_of_ble_eq_true rfl⟩ hl.1 rfl (Nat.le_of_ble_eq_true rfl) dL_act_92 ⟨Nat.le_of_ble_eq_true rfl, Nat.le_of_ble_eq_true rfl⟩) hX hd (fun r_65 μ_63 H locs q_64 hd hX hz => ?_)
    obtain ⟨Λ', rfl, hF2, hl0, -⟩ := q_64
    refine W.eq (g2 := F0 m 95 ls [.int (nI (σ 3 0))]) rfl ?_
    refine lv_iload_n hx hb dL_act_95 rfl (lv_at hl 2 rfl) ?_
    refine n_ne (tgt := 103) hx hb (by omega) (by omega) dL_act_96 (by decide) (fun h => absurd h (by omega)) (fun _ => ?_)
    refine lv_iconst (v := nI 1) hx hb dL_act_99 (by decide) ?_
    refine lv_goto (tgt := 104) hx hb dL_act_100 (by decide) ?_
    have hS2 := hS.addW (a := 1 + b_3) (b := b_32) hq_9n (by rw [← hzr _ (fun c => by rw [c, k_51] at hq2; cases hq2)]; exact hq2) k_60 k_62 (fun k hk => (hFo k hk).trans (s2' k hk)) hFn k_61 r_48 (fun z n1 n2 n3 => by rw [e_59, va_up_ne _ _ n1, hz2 z n3, hzr z n2])
    exact w_zret hx hb hr hlocks hX (by first | rfl | decide) ⟨rfl, Λ', _, _, τ, μ_63, μ_58, rfl, hd, hF2, hS2, hl0, by rw [up2_nf _ (by omega), up2_nf _ (by omega)], hg.addW (by omega) (by omega) (by omega) (by omega)⟩ ⟨Nat.le_of_ble_eq_true rfl, Nat.le_of_ble_eq_true rfl⟩ dL_act_104
  · skip
    refine lv_iconst (v := nI 1) hx hb dL_act_31 (by decide) ?_
    exact w_zret hx hb hr hlocks hX (by first | rfl | decide) ⟨rfl, Λ, Ω, σ, τ, μ, ν, rfl, hd, hF, hS, rfl, rfl, hg.up⟩ ⟨Nat.le_of_ble_eq_true rfl, Nat.le_of_ble_eq_true rfl⟩ dL_act_32

set_option maxHeartbeats 4000000 in
set_option maxRecDepth 100000 in
/-- a child more, if there is room -/
theorem sg_addC (l : Launch) (g : wG) (κ : wMu) (zz : Nat) {μ ν : wMu} {Λ Ω σ : sSt} {τ : Nat → Nat} {i : Nat} {x : Int32} (hF : fD g Λ none σ μ) (hS : sD g Ω τ σ ν) (hd : dj μ ν) (hg : pG τ σ i) (hi : i ≤ 400) (hw : 0 < σ 3 0)  {p : Program} {e : Env} {s : State} {m : MethodId} {below : List Frame} {meth : Method} {c : Code} {H : Heap} {locs : List Loc} {ls : Array Slot} (hx : p.tables.exec = Jvm.exec) (hb : c.code = cL_act) (hr : meth.sig.returnType = (some .boolean)) (hml : c.maxLocals = 8) (hown : s.vm.findClass yL_act.cls = some m.cls) (hlocks : meth.locks = false) (hX : wX g (wA κ zz) s H locs (mU μ ν)) (hl : lv_has ls 8 [(4, .int (nI (σ 4 0))), (3, .int (nI (σ 3 0))), (2, .int x), (1, .ref (Ω 0 0)), (0, .ref (Λ 0 0))]) : W p l e ({ frames := 9, cells := 8, slots := 80, locals := 200 } : Room) s m ([.ref (Λ 0 0), .ref (Ω 0 0), .int x] : List Value).toArray below meth c H locs 0 0 (MQ below (wQc g κ zz (fun r κ' => r = some (.int (nI 1)) ∧ bW g (Λ 0 0) (Ω 0 0) (i + 1) κ')) ([.ref (Λ 0 0), .ref (Ω 0 0), .int x] : List Value).toArray s 8 80 (wA κ zz)) (F0 m 120 ls []) := by
  have hO := hg.O
  have hT := hg.T
  obtain ⟨⟨-, gh, gc⟩, -⟩ := id hg
  obtain ⟨s1, ⟨fw, s2, s2'⟩, ⟨fc, s3, s3'⟩, s4, s5, s6, s7⟩ := id hS
  obtain ⟨o1, o2, o3, o4, o5, o6, o7⟩ := id hO
  refine lv_iload hx hb dL_act_120 (lv_at hl 0 rfl) ?_
  refine lv_bipush (v := nI 10) hx hb dL_act_122 (by decide) ?_
  refine n_ne (tgt := 129) hx hb (by omega) (by omega) dL_act_124 (by decide) (fun c_1 => ?_) (fun c_1 => ?_)
  · skip
    refine lv_bipush (v := nI 6) hx hb dL_act_129 (by decide) ?_
    refine n_newI hx hb hX kw543 (by omega) (Nat.le_of_ble_eq_true rfl) (Nat.le_of_ble_eq_true rfl) dL_act_131 (fun q_2 H hq_3 hX => ?_)
    have hq_3n := (mU_no hq_3).2
    have ne_4 : (Ω 0 0) ≠ q_2 := fun z => by have h9 := s1; rw [z, hq_3n] at h9; cases h9
    have ne_5 : (Ω 1 0) ≠ q_2 := fun z => by have h9 := s2; rw [z, hq_3n] at h9; cases h9
    have ne_6 : (Ω 2 0) ≠ q_2 := fun z => by have h9 := s3; rw [z, hq_3n] at h9; cases h9
    obtain ⟨h_7, eh_8⟩ : ∃ z : Nat → Int32, z = fun _ => 0 := ⟨_, rfl⟩
    rw [← eh_8] at hX
    have r_9 : rC 0 0 0 0 0 0 h_7 := by rw [eh_8]; exact ⟨rfl, rfl, rfl, rfl, rfl, rfl⟩
    obtain ⟨μ_10, e_11⟩ : ∃ z, z = va_up ν q_2 (some (sR g 6 h_7)) := ⟨_, rfl⟩
    rw [mU_up, ← e_11] at hX
    have hd : dj μ μ_10 := by rw [e_11]; exact hd.up (mU_no hq_3).1
    have k_12 : μ_10 q_2 = some (sR g 6 h_7) := by rw [e_11]; exact va_up_self _ _ _
    have k_13 := (congrFun e_11 (Ω 0 0)).trans ((va_up_ne _ _ ne_4).trans s1)
    have k_14 := (congrFun e_11 (Ω 1 0)).trans ((va_up_ne _ _ ne_5).trans s2)
    have k_15 := (congrFun e_11 (Ω 2 0)).trans ((va_up_ne _ _ ne_6).trans s3)
    refine W.eq (g2 := F0 m 133 ls [.ref q_2]) rfl ?_
    refine lv_dup hx hb dL_act_133 rfl ?_
    refine lv_iconst (v := nI 0) hx hb dL_act_134 (by decide) ?_
    refine lv_iload_n hx hb dL_act_135 rfl (lv_at hl 2 rfl) ?_
    refine lv_iconst (v := nI 4) hx hb dL_act_136 (by decide) ?_
    refine lv_ishr hx hb dL_act_137 ?_
    refine lv_topi (fun y_16 _ => ?_)
    refine lv_iload_n hx hb dL_act_138 rfl (lv_at hl 1 rfl) ?_
    refine w_call (w_runS (n := 2) (As := [.int y_16, .int (nI (σ 3 0))]) (rest := [.int (nI 0), .ref q_2, .ref q_2]) hx hb hml hown hX (c_L_below l g (mU μ μ_10) H.size (by omega) (by omega)) kw509 kw0 kw507 kw508 wn_L_below rfl ⟨Nat.le_of_ble_eq_true rfl, Nat.le_of_ble_eq_true rfl⟩ hl.1 rfl (Nat.le_of_ble_eq_true rfl) dL_act_139 ⟨Nat.le_of_ble_eq_true rfl, Nat.le_of_ble_eq_true rfl⟩) hX (fun r_20 μ_18 H locs q_19 hX hz => ?_)
    obtain ⟨b_17, hb_17, rfl, e_21⟩ := q_19
    rw [e_21] at hX
    refine W.eq (g2 := F0 m 142 ls [.int (nI b_17), .int (nI 0), .ref q_2, .ref q_2]) rfl ?_
    refine n_iast hx hb hX (mU_r k_12) (by omega) (by omega) dL_act_142 (fun H locs hX => ?_)
    obtain ⟨h_22, eh_23⟩ : ∃ z, z = upd h_7 0 (nI b_17) := ⟨_, rfl⟩
    rw [← eh_23] at hX
    have r_24 : rC b_17 0 0 0 0 0 h_22 := by rw [eh_23]; exact r_9.s0 _
    obtain ⟨μ_25, e_26⟩ : ∃ z, z = va_up μ_10 q_2 (some (sR g 6 h_22)) := ⟨_, rfl⟩
    rw [mU_up, ← e_26] at hX
    have hd : dj μ μ_25 := by rw [e_26]; exact hd.up (hd.no k_12)
    have k_27 : μ_25 q_2 = some (sR g 6 h_22) := by rw [e_26]; exact va_up_self _ _ _
    have k_28 := (congrFun e_26 (Ω 0 0)).trans ((va_up_ne _ _ ne_4).trans k_13)
    have k_29 := (congrFun e_26 (Ω 1 0)).trans ((va_up_ne _ _ ne_5).trans k_14)
    have k_30 := (congrFun e_26 (Ω 2 0)).trans ((va_up_ne _ _ ne_6).trans k_15)
    refine lv_dup hx hb dL_act_143 rfl ?_
    refine lv_iconst (v := nI 1) hx hb dL_act_144 (by decide) ?_
    refine lv_iload_n hx hb dL_act_145 rfl (lv_at hl 2 rfl) ?_
    refine lv_bipush (v := nI 6) hx hb dL_act_146 (by decide) ?_
    refine lv_ishr hx hb dL_act_148 ?_
    refine lv_topi (fun y_31 _ => ?_)
    refine lv_iload_n hx hb dL_act_149 rfl (lv_at hl 2 rfl) ?_
    refine lv_bipush (v := nI 9) hx hb dL_act_150 (by decide) ?_
    refine lv_ishr hx hb dL_act_152 ?_
    refine lv_topi (fun y_32 _ => ?_)
    refine lv_iconst (v := nI 2) hx hb dL_act_153 (by decide) ?_
    refine w_call (w_runS (n := 2) (As := [.int y_32, .int (nI 2)]) (rest := [.int y_31, .int (nI 1), .ref q_2, .ref q_2]) hx hb hml hown hX (c_L_below l g (mU μ μ_25) H.size (by omega) (by omega)) kw509 kw0 kw507 kw508 wn_L_below rfl ⟨Nat.le_of_ble_eq_true rfl, Nat.le_of_ble_eq_true rfl⟩ hl.1 rfl (Nat.le_of_ble_eq_true rfl) dL_act_154 ⟨Nat.le_of_ble_eq_true rfl, Nat.le_of_ble_eq_true rfl⟩) hX (fun r_36 μ_34 H locs q_35 hX hz => ?_)
    obtain ⟨b_33, hb_33, rfl, e_37⟩ := q_35
    rw [e_37] at hX
    refine W.eq (g2 := F0 m 157 ls [.int (nI b_33), .int y_31, .int (nI 1), .ref q_2, .ref q_2]) rfl ?_
    refine n_if_ne (tgt := 165) hx hb (by omega) dL_act_157 (by decide) (fun c_38 => ?_) (fun c_38 => ?_)
    · skip
      refine lv_iconst (v := nI 3) hx hb dL_act_165 (by decide) ?_
      refine w_call (w_runS (n := 2) (As := [.int y_31, .int (nI 3)]) (rest := [.int (nI 1), .ref q_2, .ref q_2]) hx hb hml hown hX (c_L_below l g (mU μ μ_25) H.size (by omega) (by omega)) kw509 kw0 kw507 kw508 wn_L_below rfl ⟨Nat.le_of_ble_eq_true rfl, Nat.le_of_ble_eq_true rfl⟩ hl.1 rfl (Nat.le_of_ble_eq_true rfl) dL_act_166 ⟨Nat.le_of_ble_eq_true rfl, Nat.le_of_ble_eq_true rfl⟩) hX (fun r_42 μ_40 H locs q_41 hX hz => ?_)
      obtain ⟨b_39, hb_39, rfl, e_43⟩ := q_41
      rw [e_43] at hX
      refine W.eq (g2 := F0 m 169 ls [.int (nI b_39), .int (nI 1), .ref q_2, .ref q_2]) rfl ?_
      refine n_iast hx hb hX (mU_r k_27) (by omega) (by omega) dL_act_169 (fun H locs hX => ?_)
      obtain ⟨h_44, eh_45⟩ : ∃ z, z = upd h_22 1 (nI b_39) := ⟨_, rfl⟩
      rw [← eh_45] at hX
      have r_46 : rC b_17 b_39 0 0 0 0 h_44 := by rw [eh_45]; exact r_24.s1 _
      obtain ⟨μ_47, e_48⟩ : ∃ z, z = va_up μ_25 q_2 (some (sR g 6 h_44)) := ⟨_, rfl⟩
      rw [mU_up, ← e_48] at hX
      have hd : dj μ μ_47 := by rw [e_48]; exact hd.up (hd.no k_27)
      have k_49 : μ_47 q_2 = some (sR g 6 h_44) := by rw [e_48]; exact va_up_self _ _ _
      have k_50 := (congrFun e_48 (Ω 0 0)).trans ((va_up_ne _ _ ne_4).trans k_28)
      have k_51 := (congrFun e_48 (Ω 1 0)).trans ((va_up_ne _ _ ne_5).trans k_29)
      have k_52 := (congrFun e_48 (Ω 2 0)).trans ((va_up_ne _ _ ne_6).trans k_30)
      refine lv_dup hx hb dL_act_170 rfl ?_
      refine lv_iconst (v := nI 2) hx hb dL_act_171 (by decide) ?_
      refine lv_iconst (v := nI 0) hx hb dL_act_172 (by decide) ?_
      refine n_iast hx hb hX (mU_r k_49) (by omega) (by omega) dL_act_173 (fun H locs hX => ?_)
      obtain ⟨h_53, eh_54⟩ : ∃ z, z = upd h_44 2 (nI 0) := ⟨_, rfl⟩
      rw [← eh_54] at hX
      have r_55 : rC b_17 b_39 0 0 0 0 h_53 := by rw [eh_54]; exact r_46.s2 _
      obtain ⟨μ_56, e_57⟩ : ∃ z, z = va_up μ_47 q_2 (some (sR g 6 h_53)) := ⟨_, rfl⟩
      rw [mU_up, ← e_57] at hX
      have hd : dj μ μ_56 := by rw [e_57]; exact hd.up (hd.no k_49)
      have k_58 : μ_56 q_2 = some (sR g 6 h_53) := by rw [e_57]; exact va_up_self _ _ _
      have k_59 := (congrFun e_57 (Ω 0 0)).trans ((va_up_ne _ _ ne_4).trans k_50)
      have k_60 := (congrFun e_57 (Ω 1 0)).trans ((va_up_ne _ _ ne_5).trans k_51)
      have k_61 := (congrFun e_57 (Ω 2 0)).trans ((va_up_ne _ _ ne_6).trans k_52)
      refine lv_dup hx hb dL_act_174 rfl ?_
      refine lv_iconst (v := nI 3) hx hb dL_act_175 (by decide) ?_
      refine lv_iconst (v := nI 0) hx hb dL_act_176 (by decide) ?_
      refine n_iast hx hb hX (mU_r k_58) (by omega) (by omega) dL_act_177 (fun H locs hX => ?_)
      obtain ⟨h_62, eh_63⟩ : ∃ z, z = upd h_53 3 (nI 0) := ⟨_, rfl⟩
      rw [← eh_63] at hX
      have r_64 : rC b_17 b_39 0 0 0 0 h_62 := by rw [eh_63]; exact r_55.s3 _
      obtain ⟨μ_65, e_66⟩ : ∃ z, z = va_up μ_56 q_2 (some (sR g 6 h_62)) := ⟨_, rfl⟩
      rw [mU_up, ← e_66] at hX
      have hd : dj μ μ_65 := by rw [e_66]; exact hd.up (hd.no k_58)
      have k_67 : μ_65 q_2 = some (sR g 6 h_62) := by rw [e_66]; exact va_up_self _ _ _
      have k_68 := (congrFun e_66 (Ω 0 0)).trans ((va_up_ne _ _ ne_4).trans k_59)
      have k_69 := (congrFun e_66 (Ω 1 0)).trans ((va_up_ne _ _ ne_5).trans k_60)
      have k_70 := (congrFun e_66 (Ω 2 0)).trans ((va_up_ne _ _ ne_6).trans k_61)
      refine lv_dup hx hb dL_act_178 rfl ?_
      refine lv_iconst (v := nI 4) hx hb dL_act_179 (by decide) ?_
      refine lv_iconst (v := nI 0) hx hb dL_act_180 (by decide) ?_
      refine n_iast hx hb hX (mU_r k_67) (by omega) (by omega) dL_act_181 (fun H locs hX => ?_)
      obtain ⟨h_71, eh_72⟩ : ∃ z, z = upd h_62 4 (nI 0) := ⟨_, rfl⟩
      rw [← eh_72] at hX
      have r_73 : rC b_17 b_39 0 0 0 0 h_71 := by rw [eh_72]; exact r_64.s4 _
      obtain ⟨μ_74, e_75⟩ : ∃ z, z = va_up μ_65 q_2 (some (sR g 6 h_71)) := ⟨_, rfl⟩
      rw [mU_up, ← e_75] at hX
      have hd : dj μ μ_74 := by rw [e_75]; exact hd.up (hd.no k_67)
      have k_76 : μ_74 q_2 = some (sR g 6 h_71) := by rw [e_75]; exact va_up_self _ _ _
      have k_77 := (congrFun e_75 (Ω 0 0)).trans ((va_up_ne _ _ ne_4).trans k_68)
      have k_78 := (congrFun e_75 (Ω 1 0)).trans ((va_up_ne _ _ ne_5).trans k_69)
      have k_79 := (congrFun e_75 (Ω 2 0)).trans ((va_up_ne _ _ ne_6).trans k_70)
      refine lv_dup hx hb dL_act_182 rfl ?_
      refine lv_iconst (v := nI 5) hx hb dL_act_183 (by decide) ?_
      refine lv_iconst (v := nI 0) hx hb dL_act_184 (by decide) ?_
      refine n_iast hx hb hX (mU_r k_76) (by omega) (by omega) dL_act_185 (fun H locs hX => ?_)
      obtain ⟨h_80, eh_81⟩ : ∃ z, z = upd h_71 5 (nI 0) := ⟨_, rfl⟩
      rw [← eh_81] at hX
      have r_82 : rC b_17 b_39 0 0 0 0 h_80 := by rw [eh_81]; exact r_73.s5 _
      obtain ⟨μ_83, e_84⟩ : ∃ z, z = va_up μ_74 q_2 (some (sR g 6 h_80)) := ⟨_, rfl⟩
      rw [mU_up, ← e_84] at hX
      have hd : dj μ μ_83 := by rw [e_84]; exact hd.up (hd.no k_76)
      have k_85 : μ_83 q_2 = some (sR g 6 h_80) := by rw [e_84]; exact va_up_self _ _ _
      have k_86 := (congrFun e_84 (Ω 0 0)).trans ((va_up_ne _ _ ne_4).trans k_77)
      have k_87 := (congrFun e_84 (Ω 1 0)).trans ((va_up_ne _ _ ne_5).trans k_78)
      have k_88 := (congrFun e_84 (Ω 2 0)).trans ((va_up_ne _ _ ne_6).trans k_79)
      refine lv_astore (lv' := [(5, .ref q_2), (4, .int (nI (σ 4 0))), (3, .int (nI (σ 3 0))), (2, .int x), (1, .ref (Ω 0 0)), (0, .ref (Λ 0 0))]) hx hb dL_act_186 hl (by decide) rfl (fun ls hl => ?_)
      refine lv_aload_n hx hb dL_act_188 rfl (lv_at hl 4 rfl) ?_
      refine lv_aload_n hx hb dL_act_189 rfl (lv_at hl 4 rfl) ?_
      refine gX3_1 hx hb hX hown (mU_r k_86) kw630 dL_act_190 ?_
      refine lv_aload hx hb dL_act_193 (lv_at hl 0 rfl) ?_
      have hzr : ∀ z, z ≠ q_2 → μ_83 z = ν z := fun z hn => by rw [e_84, va_up_ne _ _ hn, e_75, va_up_ne _ _ hn, e_66, va_up_ne _ _ hn, e_57, va_up_ne _ _ hn, e_48, va_up_ne _ _ hn, e_26, va_up_ne _ _ hn, e_11, va_up_ne _ _ hn]
      have hnq : ∀ z e, ν z = some e → z ≠ q_2 := fun z e h c => by rw [c, hq_3n] at h; cases h
      have hrow : ∀ k, k < σ 4 0 → ∃ r rk rh, fc k = some r ∧ μ_83 r = some (sR g rk rh) := fun k hk => by obtain ⟨h6, k6, -⟩ := s5 k hk; exact ⟨Ω 4 k, 6, h6, s3' k hk, (hzr _ (hnq _ _ k6)).trans k6⟩
      refine w_callR (w_runS (n := 2) (As := [.ref (Ω 2 0), .ref q_2]) (rest := [.ref (Ω 0 0)]) hx hb hml hown hX.r (c_X3_with l g μ_83 H.size k_88 k_85 hrow (by omega)) kw520 kw7 kw518 kw519 wn_X3_with rfl ⟨Nat.le_of_ble_eq_true rfl, Nat.le_of_ble_eq_true rfl⟩ hl.1 rfl (Nat.le_of_ble_eq_true rfl) dL_act_195 ⟨Nat.le_of_ble_eq_true rfl, Nat.le_of_ble_eq_true rfl⟩) hX hd (fun r_91 μ_89 H locs q_90 hd hX hz => ?_)
      obtain ⟨q2, F, rfl, hq2, hA, hFo, hFn, hz2⟩ := q_90
      refine W.eq (g2 := F0 m 198 ls [.ref q2, .ref (Ω 0 0)]) rfl ?_
      have nq2 : ∀ z e, μ_83 z = some e → z ≠ q2 := fun z e h c => by rw [c, hq2] at h; cases h
      have kx := (hz2 _ (nq2 _ _ k_86)).trans k_86
      have kr := (hz2 _ (nq2 _ _ k_85)).trans k_85
      have hq2o : ν q2 = none := by rw [← hzr _ (fun c => by rw [c, k_85] at hq2; cases hq2)]; exact hq2
      refine pX3_1 hx hb hX hown (mU_r kx) kw630 dL_act_198 (fun H locs hX => ?_)
      obtain ⟨μ_92, e_93⟩ : ∃ z, z = va_up μ_89 (Ω 0 0) (some (.inr (4, [.ref (Ω 1 0), .ref q2, .int (nI (σ 0 0)), .int (nI (σ 1 0)), .int (nI (σ 2 0))]))) := ⟨_, rfl⟩
      rw [mU_up, ← e_93] at hX
      have hd : dj μ μ_92 := by rw [e_93]; exact hd.up (hd.no kx)
      have k_94 : μ_92 (Ω 0 0) = some (.inr (4, [.ref (Ω 1 0), .ref q2, .int (nI (σ 0 0)), .int (nI (σ 1 0)), .int (nI (σ 2 0))])) := by rw [e_93]; exact va_up_self _ _ _
      have k_95 := (congrFun e_93 q_2).trans ((va_up_ne _ _ (kd_ne kr kx rfl)).trans kr)
      have k_96 := (congrFun e_93 q2).trans ((va_up_ne _ _ (kd_ne hA kx rfl)).trans hA)
      refine lv_aload hx hb dL_act_201 (lv_at hl 0 rfl) ?_
      refine lv_iconst (v := nI 2) hx hb dL_act_203 (by decide) ?_
      refine lv_aload_n hx hb dL_act_204 rfl (lv_at hl 4 rfl) ?_
      refine lv_iload hx hb dL_act_205 (lv_at hl 1 rfl) ?_
      have hS1 := hS.addC hO (a := b_17) (b := b_39) (d := 0) hq_3n hq2o k_94 k_96 (fun k hk => (hFo k hk).trans (s3' k hk)) hFn k_95 r_82 (fun z n1 n2 n3 => by rw [e_93, va_up_ne _ _ n1, hz2 z n3, hzr z n2])
      have hg1 := hg.addC (a := b_17) (b := b_39) (by omega) (by omega) (by omega)
      obtain ⟨p4, p8, p9, p10, p11, p12, p13⟩ := nAddC_4 σ b_17 b_39
      have p0 := nAddC_o σ b_17 b_39 (k := 0) (show (0 : Nat) ≠ 4 by omega) (by omega)
      have hO1 : sOk (up2 (nAddC σ b_17 b_39) 10 (σ 4 0) 0) := by
        refine (gd.row hg1.1 (fun k j hk => up2_nf _ (by omega)) (fun k hk => ?_) (fun k hk => ?_) (fun k hk => ?_)).1
        · have := hg1.1.1.2.2.1 k hk; rw [up2_nf _ (by omega), up2_nf _ (by omega)]; omega
        · have := hg1.1.1.2.2.2.1 k hk; rw [up2_nf (f' := 8) _ (by omega), up2_nf (f' := 11) _ (by omega), up2_nf (f' := 12) _ (by omega), up2_nf (f' := 13) _ (by omega)]
          by_cases e : k = σ 4 0
          · rw [e, up2_self]; rw [e] at this; omega
          · rw [up2_ni _ e]; omega
        · rw [up2_nf _ (by omega), up2_nf _ (by omega)]; exact hg1.1.1.2.2.2.2.1 k hk
      refine w_callR (w_runV (n := 1) (As := [.int (nI (σ 4 0))]) (rest := [.int (nI 2), .ref q_2]) hx hb hml hown hX.r (c_X3_isBirthday l g μ_92 H.size hS1 hO1 (by rw [up2_nf _ (by omega), p4]; omega)) kw470 kw7 kw595 kw468 kw469 wn_X3_isBirthday rfl k_94 rfl ⟨Nat.le_of_ble_eq_true rfl, Nat.le_of_ble_eq_true rfl⟩ hl.1 rfl (Nat.le_of_ble_eq_true rfl) dL_act_207 ⟨Nat.le_of_ble_eq_true rfl, Nat.le_of_ble_eq_true rfl⟩) hX hd (fun r_99 μ_97 H locs q_98 hd hX hz => ?_)
      obtain ⟨q_101, e_100⟩ := q_98
      rw [e_100] at hX hd
      rw [up2_nf _ (by omega), up2_nf _ (by omega), p0, p9] at q_101
      obtain ⟨rfl, hp⟩ | ⟨rfl, hp⟩ := q_101
      · skip
        refine W.eq (g2 := F0 m 210 ls [.int (nI 1), .int (nI 2), .ref q_2]) rfl ?_
        refine n_if_eq (tgt := 218) hx hb (by omega) dL_act_210 (by decide) (fun h => absurd h (by omega)) (fun _ => ?_)
        refine lv_bipush (v := nI 12) hx hb dL_act_213 (by decide) ?_
        refine lv_goto (tgt := 219) hx hb dL_act_215 (by decide) ?_
        refine n_iast hx hb hX (mU_r k_95) (by omega) (by omega) dL_act_219 (fun H locs hX => ?_)
        obtain ⟨h_102, eh_103⟩ : ∃ z, z = upd h_80 2 (nI 12) := ⟨_, rfl⟩
        rw [← eh_103] at hX
        have r_104 : rC b_17 b_39 12 0 0 0 h_102 := by rw [eh_103]; exact r_82.s2 _
        obtain ⟨μ_105, e_106⟩ : ∃ z, z = va_up μ_92 q_2 (some (sR g 6 h_102)) := ⟨_, rfl⟩
        rw [mU_up, ← e_106] at hX
        have hd : dj μ μ_105 := by rw [e_106]; exact hd.up (hd.no k_95)
        have k_107 : μ_105 q_2 = some (sR g 6 h_102) := by rw [e_106]; exact va_up_self _ _ _
        have k_108 := (congrFun e_106 (Ω 0 0)).trans ((va_up_ne _ _ (kd_ne k_94 k_95 rfl)).trans k_94)
        have k_109 := (congrFun e_106 q2).trans ((va_up_ne _ _ (kd_ne k_96 k_95 rfl)).trans k_96)
        refine lv_aload_n hx hb dL_act_220 rfl (lv_at hl 5 rfl) ?_
        refine lv_aload hx hb dL_act_221 (lv_at hl 0 rfl) ?_
        refine lv_iconst (v := nI 0) hx hb dL_act_223 (by decide) ?_
        refine n_ialdv hx hb hX (mU_r k_107) (by omega) (by omega) dL_act_224 r_104.1 ?_
        refine lv_aload hx hb dL_act_225 (lv_at hl 0 rfl) ?_
        refine lv_iconst (v := nI 1) hx hb dL_act_227 (by decide) ?_
        refine n_ialdv hx hb hX (mU_r k_107) (by omega) (by omega) dL_act_228 r_104.2.1 ?_
        have hS2 := hS.addC hO (a := b_17) (b := b_39) (d := 12) hq_3n hq2o k_108 k_109 (fun k hk => (hFo k hk).trans (s3' k hk)) hFn k_107 r_104 (fun z n1 n2 n3 => by rw [e_106, va_up_ne _ _ n2, e_93, va_up_ne _ _ n1, hz2 z n3, hzr z n2])
        rw [up2_same (show nAddC σ b_17 b_39 10 (σ 4 0) = 12 by rw [p10]; unfold bstD; exact if_pos hp)] at hS2
        refine w_callL (w_runV (n := 2) (As := [.int (nI b_17), .int (nI b_39)]) (rest := []) hx hb hml hown (hX.l hd) (c_X2_addChild_g l g μ H.size hF hO (by omega) (by omega) (by omega)) kw599 kw1 kw596 kw597 kw598 wn_X2_addChild rfl hF.1 rfl ⟨Nat.le_of_ble_eq_true rfl, Nat.le_of_ble_eq_true rfl⟩ hl.1 rfl (Nat.le_of_ble_eq_true rfl) dL_act_229 ⟨Nat.le_of_ble_eq_true rfl, Nat.le_of_ble_eq_true rfl⟩) hX hd (fun r_112 μ_110 H locs q_111 hd hX hz => ?_)
        obtain ⟨Λ', rfl, hF2, hl0, -⟩ := q_111
        refine W.eq (g2 := F0 m 232 ls [.int (nI (σ 4 0))]) rfl ?_
        refine lv_iload hx hb dL_act_232 (lv_at hl 1 rfl) ?_
        refine n_ne (tgt := 241) hx hb (by omega) (by omega) dL_act_234 (by decide) (fun h => absurd h (by omega)) (fun _ => ?_)
        refine lv_iconst (v := nI 1) hx hb dL_act_237 (by decide) ?_
        refine lv_goto (tgt := 242) hx hb dL_act_238 (by decide) ?_
        exact w_zret hx hb hr hlocks hX (by first | rfl | decide) ⟨rfl, Λ', _, _, _, μ_110, μ_105, rfl, hd, hF2, hS2, hl0, by rw [up2_nf _ (by omega), up2_nf _ (by omega)], hg1⟩ ⟨Nat.le_of_ble_eq_true rfl, Nat.le_of_ble_eq_true rfl⟩ dL_act_242
      · skip
        refine W.eq (g2 := F0 m 210 ls [.int (nI 0), .int (nI 2), .ref q_2]) rfl ?_
        refine n_if_eq (tgt := 218) hx hb (by omega) dL_act_210 (by decide) (fun _ => ?_) (fun h => absurd h (by omega))
        refine lv_iconst (v := nI 0) hx hb dL_act_218 (by decide) ?_
        refine n_iast hx hb hX (mU_r k_95) (by omega) (by omega) dL_act_219 (fun H locs hX => ?_)
        obtain ⟨h_113, eh_114⟩ : ∃ z, z = upd h_80 2 (nI 0) := ⟨_, rfl⟩
        rw [← eh_114] at hX
        have r_115 : rC b_17 b_39 0 0 0 0 h_113 := by rw [eh_114]; exact r_82.s2 _
        obtain ⟨μ_116, e_117⟩ : ∃ z, z = va_up μ_92 q_2 (some (sR g 6 h_113)) := ⟨_, rfl⟩
        rw [mU_up, ← e_117] at hX
        have hd : dj μ μ_116 := by rw [e_117]; exact hd.up (hd.no k_95)
        have k_118 : μ_116 q_2 = some (sR g 6 h_113) := by rw [e_117]; exact va_up_self _ _ _
        have k_119 := (congrFun e_117 (Ω 0 0)).trans ((va_up_ne _ _ (kd_ne k_94 k_95 rfl)).trans k_94)
        have k_120 := (congrFun e_117 q2).trans ((va_up_ne _ _ (kd_ne k_96 k_95 rfl)).trans k_96)
        refine lv_aload_n hx hb dL_act_220 rfl (lv_at hl 5 rfl) ?_
        refine lv_aload hx hb dL_act_221 (lv_at hl 0 rfl) ?_
        refine lv_iconst (v := nI 0) hx hb dL_act_223 (by decide) ?_
        refine n_ialdv hx hb hX (mU_r k_118) (by omega) (by omega) dL_act_224 r_115.1 ?_
        refine lv_aload hx hb dL_act_225 (lv_at hl 0 rfl) ?_
        refine lv_iconst (v := nI 1) hx hb dL_act_227 (by decide) ?_
        refine n_ialdv hx hb hX (mU_r k_118) (by omega) (by omega) dL_act_228 r_115.2.1 ?_
        have hS2 := hS.addC hO (a := b_17) (b := b_39) (d := 0) hq_3n hq2o k_119 k_120 (fun k hk => (hFo k hk).trans (s3' k hk)) hFn k_118 r_115 (fun z n1 n2 n3 => by rw [e_117, va_up_ne _ _ n2, e_93, va_up_ne _ _ n1, hz2 z n3, hzr z n2])
        rw [up2_same (show nAddC σ b_17 b_39 10 (σ 4 0) = 0 by rw [p10]; unfold bstD; exact if_neg hp)] at hS2
        refine w_callL (w_runV (n := 2) (As := [.int (nI b_17), .int (nI b_39)]) (rest := []) hx hb hml hown (hX.l hd) (c_X2_addChild_g l g μ H.size hF hO (by omega) (by omega) (by omega)) kw599 kw1 kw596 kw597 kw598 wn_X2_addChild rfl hF.1 rfl ⟨Nat.le_of_ble_eq_true rfl, Nat.le_of_ble_eq_true rfl⟩ hl.1 rfl (Nat.le_of_ble_eq_true rfl) dL_act_229 ⟨Nat.le_of_ble_eq_true rfl, Nat.le_of_ble_eq_true rfl⟩) hX hd (fun r_123 μ_121 H locs q_122 hd hX hz => ?_)
        obtain ⟨Λ', rfl, hF2, hl0, -⟩ := q_122
        refine W.eq (g2 := F0 m 232 ls [.int (nI (σ 4 0))]) rfl ?_
        refine lv_iload hx hb dL_act_232 (lv_at hl 1 rfl) ?_
        refine n_ne (tgt := 241) hx hb (by omega) (by omega) dL_act_234 (by decide) (fun h => absurd h (by omega)) (fun _ => ?_)
        refine lv_iconst (v := nI 1) hx hb dL_act_237 (by decide) ?_
        refine lv_goto (tgt := 242) hx hb dL_act_238 (by decide) ?_
        exact w_zret hx hb hr hlocks hX (by first | rfl | decide) ⟨rfl, Λ', _, _, _, μ_121, μ_116, rfl, hd, hF2, hS2, hl0, by rw [up2_nf _ (by omega), up2_nf _ (by omega)], hg1⟩ ⟨Nat.le_of_ble_eq_true rfl, Nat.le_of_ble_eq_true rfl⟩ dL_act_242
    · skip
      refine lv_bipush (v := nI 30) hx hb dL_act_160 (by decide) ?_
      refine lv_goto (tgt := 166) hx hb dL_act_162 (by decide) ?_
      refine w_call (w_runS (n := 2) (As := [.int y_31, .int (nI 30)]) (rest := [.int (nI 1), .ref q_2, .ref q_2]) hx hb hml hown hX (c_L_below l g (mU μ μ_25) H.size (by omega) (by omega)) kw509 kw0 kw507 kw508 wn_L_below rfl ⟨Nat.le_of_ble_eq_true rfl, Nat.le_of_ble_eq_true rfl⟩ hl.1 rfl (Nat.le_of_ble_eq_true rfl) dL_act_166 ⟨Nat.le_of_ble_eq_true rfl, Nat.le_of_ble_eq_true rfl⟩) hX (fun r_127 μ_125 H locs q_126 hX hz => ?_)
      obtain ⟨b_124, hb_124, rfl, e_128⟩ := q_126
      rw [e_128] at hX
      refine W.eq (g2 := F0 m 169 ls [.int (nI b_124), .int (nI 1), .ref q_2, .ref q_2]) rfl ?_
      refine n_iast hx hb hX (mU_r k_27) (by omega) (by omega) dL_act_169 (fun H locs hX => ?_)
      obtain ⟨h_129, eh_130⟩ : ∃ z, z = upd h_22 1 (nI b_124) := ⟨_, rfl⟩
      rw [← eh_130] at hX
      have r_131 : rC b_17 b_124 0 0 0 0 h_129 := by rw [eh_130]; exact r_24.s1 _
      obtain ⟨μ_132, e_133⟩ : ∃ z, z = va_up μ_25 q_2 (some (sR g 6 h_129)) := ⟨_, rfl⟩
      rw [mU_up, ← e_133] at hX
      have hd : dj μ μ_132 := by rw [e_133]; exact hd.up (hd.no k_27)
      have k_134 : μ_132 q_2 = some (sR g 6 h_129) := by rw [e_133]; exact va_up_self _ _ _
      have k_135 := (congrFun e_133 (Ω 0 0)).trans ((va_up_ne _ _ ne_4).trans k_28)
      have k_136 := (congrFun e_133 (Ω 1 0)).trans ((va_up_ne _ _ ne_5).trans k_29)
      have k_137 := (congrFun e_133 (Ω 2 0)).trans ((va_up_ne _ _ ne_6).trans k_30)
      refine lv_dup hx hb dL_act_170 rfl ?_
      refine lv_iconst (v := nI 2) hx hb dL_act_171 (by decide) ?_
      refine lv_iconst (v := nI 0) hx hb dL_act_172 (by decide) ?_
      refine n_iast hx hb hX (mU_r k_134) (by omega) (by omega) dL_act_173 (fun H locs hX => ?_)
      obtain ⟨h_138, eh_139⟩ : ∃ z, z = upd h_129 2 (nI 0) := ⟨_, rfl⟩
      rw [← eh_139] at hX
      have r_140 : rC b_17 b_124 0 0 0 0 h_138 := by rw [eh_139]; exact r_131.s2 _
      obtain ⟨μ_141, e_142⟩ : ∃ z, z = va_up μ_132 q_2 (some (sR g 6 h_138)) := ⟨_, rfl⟩
      rw [mU_up, ← e_142] at hX
      have hd : dj μ μ_141 := by rw [e_142]; exact hd.up (hd.no k_134)
      have k_143 : μ_141 q_2 = some (sR g 6 h_138) := by rw [e_142]; exact va_up_self _ _ _
      have k_144 := (congrFun e_142 (Ω 0 0)).trans ((va_up_ne _ _ ne_4).trans k_135)
      have k_145 := (congrFun e_142 (Ω 1 0)).trans ((va_up_ne _ _ ne_5).trans k_136)
      have k_146 := (congrFun e_142 (Ω 2 0)).trans ((va_up_ne _ _ ne_6).trans k_137)
      refine lv_dup hx hb dL_act_174 rfl ?_
      refine lv_iconst (v := nI 3) hx hb dL_act_175 (by decide) ?_
      refine lv_iconst (v := nI 0) hx hb dL_act_176 (by decide) ?_
      refine n_iast hx hb hX (mU_r k_143) (by omega) (by omega) dL_act_177 (fun H locs hX => ?_)
      obtain ⟨h_147, eh_148⟩ : ∃ z, z = upd h_138 3 (nI 0) := ⟨_, rfl⟩
      rw [← eh_148] at hX
      have r_149 : rC b_17 b_124 0 0 0 0 h_147 := by rw [eh_148]; exact r_140.s3 _
      obtain ⟨μ_150, e_151⟩ : ∃ z, z = va_up μ_141 q_2 (some (sR g 6 h_147)) := ⟨_, rfl⟩
      rw [mU_up, ← e_151] at hX
      have hd : dj μ μ_150 := by rw [e_151]; exact hd.up (hd.no k_143)
      have k_152 : μ_150 q_2 = some (sR g 6 h_147) := by rw [e_151]; exact va_up_self _ _ _
      have k_153 := (congrFun e_151 (Ω 0 0)).trans ((va_up_ne _ _ ne_4).trans k_144)
      have k_154 := (congrFun e_151 (Ω 1 0)).trans ((va_up_ne _ _ ne_5).trans k_145)
      have k_155 := (congrFun e_151 (Ω 2 0)).trans ((va_up_ne _ _ ne_6).trans k_146)
      refine lv_dup hx hb dL_act_178 rfl ?_
      refine lv_iconst (v := nI 4) hx hb dL_act_179 (by decide) ?_
      refine lv_iconst (v := nI 0) hx hb dL_act_180 (by decide) ?_
      refine n_iast hx hb hX (mU_r k_152) (by omega) (by omega) dL_act_181 (fun H locs hX => ?_)
      obtain ⟨h_156, eh_157⟩ : ∃ z, z = upd h_147 4 (nI 0) := ⟨_, rfl⟩
      rw [← eh_157] at hX
      have r_158 : rC b_17 b_124 0 0 0 0 h_156 := by rw [eh_157]; exact r_149.s4 _
      obtain ⟨μ_159, e_160⟩ : ∃ z, z = va_up μ_150 q_2 (some (sR g 6 h_156)) := ⟨_, rfl⟩
      rw [mU_up, ← e_160] at hX
      have hd : dj μ μ_159 := by rw [e_160]; exact hd.up (hd.no k_152)
      have k_161 : μ_159 q_2 = some (sR g 6 h_156) := by rw [e_160]; exact va_up_self _ _ _
      have k_162 := (congrFun e_160 (Ω 0 0)).trans ((va_up_ne _ _ ne_4).trans k_153)
      have k_163 := (congrFun e_160 (Ω 1 0)).trans ((va_up_ne _ _ ne_5).trans k_154)
      have k_164 := (congrFun e_160 (Ω 2 0)).trans ((va_up_ne _ _ ne_6).trans k_155)
      refine lv_dup hx hb dL_act_182 rfl ?_
      refine lv_iconst (v := nI 5) hx hb dL_act_183 (by decide) ?_
      refine lv_iconst (v := nI 0) hx hb dL_act_184 (by decide) ?_
      refine n_iast hx hb hX (mU_r k_161) (by omega) (by omega) dL_act_185 (fun H locs hX => ?_)
      obtain ⟨h_165, eh_166⟩ : ∃ z, z = upd h_156 5 (nI 0) := ⟨_, rfl⟩
      rw [← eh_166] at hX
      have r_167 : rC b_17 b_124 0 0 0 0 h_165 := by rw [eh_166]; exact r_158.s5 _
      obtain ⟨μ_168, e_169⟩ : ∃ z, z = va_up μ_159 q_2 (some (sR g 6 h_165)) := ⟨_, rfl⟩
      rw [mU_up, ← e_169] at hX
      have hd : dj μ μ_168 := by rw [e_169]; exact hd.up (hd.no k_161)
      have k_170 : μ_168 q_2 = some (sR g 6 h_165) := by rw [e_169]; exact va_up_self _ _ _
      have k_171 := (congrFun e_169 (Ω 0 0)).trans ((va_up_ne _ _ ne_4).trans k_162)
      have k_172 := (congrFun e_169 (Ω 1 0)).trans ((va_up_ne _ _ ne_5).trans k_163)
      have k_173 := (congrFun e_169 (Ω 2 0)).trans ((va_up_ne _ _ ne_6).trans k_164)
      refine lv_astore (lv' := [(5, .ref q_2), (4, .int (nI (σ 4 0))), (3, .int (nI (σ 3 0))), (2, .int x), (1, .ref (Ω 0 0)), (0, .ref (Λ 0 0))]) hx hb dL_act_186 hl (by decide) rfl (fun ls hl => ?_)
      refine lv_aload_n hx hb dL_act_188 rfl (lv_at hl 4 rfl) ?_
      refine lv_aload_n hx hb dL_act_189 rfl (lv_at hl 4 rfl) ?_
      refine gX3_1 hx hb hX hown (mU_r k_171) kw630 dL_act_190 ?_
      refine lv_aload hx hb dL_act_193 (lv_at hl 0 rfl) ?_
      have hzr : ∀ z, z ≠ q_2 → μ_168 z = ν z := fun z hn => by rw [e_169, va_up_ne _ _ hn, e_160, va_up_ne _ _ hn, e_151, va_up_ne _ _ hn, e_142, va_up_ne _ _ hn, e_133, va_up_ne _ _ hn, e_26, va_up_ne _ _ hn, e_11, va_up_ne _ _ hn]
      have hnq : ∀ z e, ν z = some e → z ≠ q_2 := fun z e h c => by rw [c, hq_3n] at h; cases h
      have hrow : ∀ k, k < σ 4 0 → ∃ r rk rh, fc k = some r ∧ μ_168 r = some (sR g rk rh) := fun k hk => by obtain ⟨h6, k6, -⟩ := s5 k hk; exact ⟨Ω 4 k, 6, h6, s3' k hk, (hzr _ (hnq _ _ k6)).trans k6⟩
      refine w_callR (w_runS (n := 2) (As := [.ref (Ω 2 0), .ref q_2]) (rest := [.ref (Ω 0 0)]) hx hb hml hown hX.r (c_X3_with l g μ_168 H.size k_173 k_170 hrow (by omega)) kw520 kw7 kw518 kw519 wn_X3_with rfl ⟨Nat.le_of_ble_eq_true rfl, Nat.le_of_ble_eq_true rfl⟩ hl.1 rfl (Nat.le_of_ble_eq_true rfl) dL_act_195 ⟨Nat.le_of_ble_eq_true rfl, Nat.le_of_ble_eq_true rfl⟩) hX hd (fun r_176 μ_174 H locs q_175 hd hX hz => ?_)
      obtain ⟨q2, F, rfl, hq2, hA, hFo, hFn, hz2⟩ := q_175
      refine W.eq (g2 := F0 m 198 ls [.ref q2, .ref (Ω 0 0)]) rfl ?_
      have nq2 : ∀ z e, μ_168 z = some e → z ≠ q2 := fun z e h c => by rw [c, hq2] at h; cases h
      have kx := (hz2 _ (nq2 _ _ k_171)).trans k_171
      have kr := (hz2 _ (nq2 _ _ k_170)).trans k_170
      have hq2o : ν q2 = none := by rw [← hzr _ (fun c => by rw [c, k_170] at hq2; cases hq2)]; exact hq2
      refine pX3_1 hx hb hX hown (mU_r kx) kw630 dL_act_198 (fun H locs hX => ?_)
      obtain ⟨μ_177, e_178⟩ : ∃ z, z = va_up μ_174 (Ω 0 0) (some (.inr (4, [.ref (Ω 1 0), .ref q2, .int (nI (σ 0 0)), .int (nI (σ 1 0)), .int (nI (σ 2 0))]))) := ⟨_, rfl⟩
      rw [mU_up, ← e_178] at hX
      have hd : dj μ μ_177 := by rw [e_178]; exact hd.up (hd.no kx)
      have k_179 : μ_177 (Ω 0 0) = some (.inr (4, [.ref (Ω 1 0), .ref q2, .int (nI (σ 0 0)), .int (nI (σ 1 0)), .int (nI (σ 2 0))])) := by rw [e_178]; exact va_up_self _ _ _
      have k_180 := (congrFun e_178 q_2).trans ((va_up_ne _ _ (kd_ne kr kx rfl)).trans kr)
      have k_181 := (congrFun e_178 q2).trans ((va_up_ne _ _ (kd_ne hA kx rfl)).trans hA)
      refine lv_aload hx hb dL_act_201 (lv_at hl 0 rfl) ?_
      refine lv_iconst (v := nI 2) hx hb dL_act_203 (by decide) ?_
      refine lv_aload_n hx hb dL_act_204 rfl (lv_at hl 4 rfl) ?_
      refine lv_iload hx hb dL_act_205 (lv_at hl 1 rfl) ?_
      have hS1 := hS.addC hO (a := b_17) (b := b_124) (d := 0) hq_3n hq2o k_179 k_181 (fun k hk => (hFo k hk).trans (s3' k hk)) hFn k_180 r_167 (fun z n1 n2 n3 => by rw [e_178, va_up_ne _ _ n1, hz2 z n3, hzr z n2])
      have hg1 := hg.addC (a := b_17) (b := b_124) (by omega) (by omega) (by omega)
      obtain ⟨p4, p8, p9, p10, p11, p12, p13⟩ := nAddC_4 σ b_17 b_124
      have p0 := nAddC_o σ b_17 b_124 (k := 0) (show (0 : Nat) ≠ 4 by omega) (by omega)
      have hO1 : sOk (up2 (nAddC σ b_17 b_124) 10 (σ 4 0) 0) := by
        refine (gd.row hg1.1 (fun k j hk => up2_nf _ (by omega)) (fun k hk => ?_) (fun k hk => ?_) (fun k hk => ?_)).1
        · have := hg1.1.1.2.2.1 k hk; rw [up2_nf _ (by omega), up2_nf _ (by omega)]; omega
        · have := hg1.1.1.2.2.2.1 k hk; rw [up2_nf (f' := 8) _ (by omega), up2_nf (f' := 11) _ (by omega), up2_nf (f' := 12) _ (by omega), up2_nf (f' := 13) _ (by omega)]
          by_cases e : k = σ 4 0
          · rw [e, up2_self]; rw [e] at this; omega
          · rw [up2_ni _ e]; omega
        · rw [up2_nf _ (by omega), up2_nf _ (by omega)]; exact hg1.1.1.2.2.2.2.1 k hk
      refine w_callR (w_runV (n := 1) (As := [.int (nI (σ 4 0))]) (rest := [.int (nI 2), .ref q_2]) hx hb hml hown hX.r (c_X3_isBirthday l g μ_177 H.size hS1 hO1 (by rw [up2_nf _ (by omega), p4]; omega)) kw470 kw7 kw595 kw468 kw469 wn_X3_isBirthday rfl k_179 rfl ⟨Nat.le_of_ble_eq_true rfl, Nat.le_of_ble_eq_true rfl⟩ hl.1 rfl (Nat.le_of_ble_eq_true rfl) dL_act_207 ⟨Nat.le_of_ble_eq_true rfl, Nat.le_of_ble_eq_true rfl⟩) hX hd (fun r_184 μ_182 H locs q_183 hd hX hz => ?_)
      obtain ⟨q_186, e_185⟩ := q_183
      rw [e_185] at hX hd
      rw [up2_nf _ (by omega), up2_nf _ (by omega), p0, p9] at q_186
      obtain ⟨rfl, hp⟩ | ⟨rfl, hp⟩ := q_186
      · skip
        refine W.eq (g2 := F0 m 210 ls [.int (nI 1), .int (nI 2), .ref q_2]) rfl ?_
        refine n_if_eq (tgt := 218) hx hb (by omega) dL_act_210 (by decide) (fun h => absurd h (by omega)) (fun _ => ?_)
        refine lv_bipush (v := nI 12) hx hb dL_act_213 (by decide) ?_
        refine lv_goto (tgt := 219) hx hb dL_act_215 (by decide) ?_
        refine n_iast hx hb hX (mU_r k_180) (by omega) (by omega) dL_act_219 (fun H locs hX => ?_)
        obtain ⟨h_187, eh_188⟩ : ∃ z, z = upd h_165 2 (nI 12) := ⟨_, rfl⟩
        rw [← eh_188] at hX
        have r_189 : rC b_17 b_124 12 0 0 0 h_187 := by rw [eh_188]; exact r_167.s2 _
        obtain ⟨μ_190, e_191⟩ : ∃ z, z = va_up μ_177 q_2 (some (sR g 6 h_187)) := ⟨_, rfl⟩
        rw [mU_up, ← e_191] at hX
        have hd : dj μ μ_190 := by rw [e_191]; exact hd.up (hd.no k_180)
        have k_192 : μ_190 q_2 = some (sR g 6 h_187) := by rw [e_191]; exact va_up_self _ _ _
        have k_193 := (congrFun e_191 (Ω 0 0)).trans ((va_up_ne _ _ (kd_ne k_179 k_180 rfl)).trans k_179)
        have k_194 := (congrFun e_191 q2).trans ((va_up_ne _ _ (kd_ne k_181 k_180 rfl)).trans k_181)
        refine lv_aload_n hx hb dL_act_220 rfl (lv_at hl 5 rfl) ?_
        refine lv_aload hx hb dL_act_221 (lv_at hl 0 rfl) ?_
        refine lv_iconst (v := nI 0) hx hb dL_act_223 (by decide) ?_
        refine n_ialdv hx hb hX (mU_r k_192) (by omega) (by omega) dL_act_224 r_189.1 ?_
        refine lv_aload hx hb dL_act_225 (lv_at hl 0 rfl) ?_
        refine lv_iconst (v := nI 1) hx hb dL_act_227 (by decide) ?_
        refine n_ialdv hx hb hX (mU_r k_192) (by omega) (by omega) dL_act_228 r_189.2.1 ?_
        have hS2 := hS.addC hO (a := b_17) (b := b_124) (d := 12) hq_3n hq2o k_193 k_194 (fun k hk => (hFo k hk).trans (s3' k hk)) hFn k_192 r_189 (fun z n1 n2 n3 => by rw [e_191, va_up_ne _ _ n2, e_178, va_up_ne _ _ n1, hz2 z n3, hzr z n2])
        rw [up2_same (show nAddC σ b_17 b_124 10 (σ 4 0) = 12 by rw [p10]; unfold bstD; exact if_pos hp)] at hS2
        refine w_callL (w_runV (n := 2) (As := [.int (nI b_17), .int (nI b_124)]) (rest := []) hx hb hml hown (hX.l hd) (c_X2_addChild_g l g μ H.size hF hO (by omega) (by omega) (by omega)) kw599 kw1 kw596 kw597 kw598 wn_X2_addChild rfl hF.1 rfl ⟨Nat.le_of_ble_eq_true rfl, Nat.le_of_ble_eq_true rfl⟩ hl.1 rfl (Nat.le_of_ble_eq_true rfl) dL_act_229 ⟨Nat.le_of_ble_eq_true rfl, Nat.le_of_ble_eq_true rfl⟩) hX hd (fun r_197 μ_195 H locs q_196 hd hX hz => ?_)
        obtain ⟨Λ', rfl, hF2, hl0, -⟩ := q_196
        refine W.eq (g2 := F0 m 232 ls [.int (nI (σ 4 0))]) rfl ?_
        refine lv_iload hx hb dL_act_232 (lv_at hl 1 rfl) ?_
        refine n_ne (tgt := 241) hx hb (by omega) (by omega) dL_act_234 (by decide) (fun h => absurd h (by omega)) (fun _ => ?_)
        refine lv_iconst (v := nI 1) hx hb dL_act_237 (by decide) ?_
        refine lv_goto (tgt := 242) hx hb dL_act_238 (by decide) ?_
        exact w_zret hx hb hr hlocks hX (by first | rfl | decide) ⟨rfl, Λ', _, _, _, μ_195, μ_190, rfl, hd, hF2, hS2, hl0, by rw [up2_nf _ (by omega), up2_nf _ (by omega)], hg1⟩ ⟨Nat.le_of_ble_eq_true rfl, Nat.le_of_ble_eq_true rfl⟩ dL_act_242
      · skip
        refine W.eq (g2 := F0 m 210 ls [.int (nI 0), .int (nI 2), .ref q_2]) rfl ?_
        refine n_if_eq (tgt := 218) hx hb (by omega) dL_act_210 (by decide) (fun _ => ?_) (fun h => absurd h (by omega))
        refine lv_iconst (v := nI 0) hx hb dL_act_218 (by decide) ?_
        refine n_iast hx hb hX (mU_r k_180) (by omega) (by omega) dL_act_219 (fun H locs hX => ?_)
        obtain ⟨h_198, eh_199⟩ : ∃ z, z = upd h_165 2 (nI 0) := ⟨_, rfl⟩
        rw [← eh_199] at hX
        have r_200 : rC b_17 b_124 0 0 0 0 h_198 := by rw [eh_199]; exact r_167.s2 _
        obtain ⟨μ_201, e_202⟩ : ∃ z, z = va_up μ_177 q_2 (some (sR g 6 h_198)) := ⟨_, rfl⟩
        rw [mU_up, ← e_202] at hX
        have hd : dj μ μ_201 := by rw [e_202]; exact hd.up (hd.no k_180)
        have k_203 : μ_201 q_2 = some (sR g 6 h_198) := by rw [e_202]; exact va_up_self _ _ _
        have k_204 := (congrFun e_202 (Ω 0 0)).trans ((va_up_ne _ _ (kd_ne k_179 k_180 rfl)).trans k_179)
        have k_205 := (congrFun e_202 q2).trans ((va_up_ne _ _ (kd_ne k_181 k_180 rfl)).trans k_181)
        refine lv_aload_n hx hb dL_act_220 rfl (lv_at hl 5 rfl) ?_
        refine lv_aload hx hb dL_act_221 (lv_at hl 0 rfl) ?_
        refine lv_iconst (v := nI 0) hx hb dL_act_223 (by decide) ?_
        refine n_ialdv hx hb hX (mU_r k_203) (by omega) (by omega) dL_act_224 r_200.1 ?_
        refine lv_aload hx hb dL_act_225 (lv_at hl 0 rfl) ?_
        refine lv_iconst (v := nI 1) hx hb dL_act_227 (by decide) ?_
        refine n_ialdv hx hb hX (mU_r k_203) (by omega) (by omega) dL_act_228 r_200.2.1 ?_
        have hS2 := hS.addC hO (a := b_17) (b := b_124) (d := 0) hq_3n hq2o k_204 k_205 (fun k hk => (hFo k hk).trans (s3' k hk)) hFn k_203 r_200 (fun z n1 n2 n3 => by rw [e_202, va_up_ne _ _ n2, e_178, va_up_ne _ _ n1, hz2 z n3, hzr z n2])
        rw [up2_same (show nAddC σ b_17 b_124 10 (σ 4 0) = 0 by rw [p10]; unfold bstD; exact if_neg hp)] at hS2
        refine w_callL (w_runV (n := 2) (As := [.int (nI b_17), .int (nI b_124)]) (rest := []) hx hb hml hown (hX.l hd) (c_X2_addChild_g l g μ H.size hF hO (by omega) (by omega) (by omega)) kw599 kw1 kw596 kw597 kw598 wn_X2_addChild rfl hF.1 rfl ⟨Nat.le_of_ble_eq_true rfl, Nat.le_of_ble_eq_true rfl⟩ hl.1 rfl (Nat.le_of_ble_eq_true rfl) dL_act_229 ⟨Nat.le_of_ble_eq_true rfl, Nat.le_of_ble_eq_true rfl⟩) hX hd (fun r_208 μ_206 H locs q_207 hd hX hz => ?_)
        obtain ⟨Λ', rfl, hF2, hl0, -⟩ := q_207
        refine W.eq (g2 := F0 m 232 ls [.int (nI (σ 4 0))]) rfl ?_
        refine lv_iload hx hb dL_act_232 (lv_at hl 1 rfl) ?_
        refine n_ne (tgt := 241) hx hb (by omega) (by omega) dL_act_234 (by decide) (fun h => absurd h (by omega)) (fun _ => ?_)
        refine lv_iconst (v := nI 1) hx hb dL_act_237 (by decide) ?_
        refine lv_goto (tgt := 242) hx hb dL_act_238 (by decide) ?_
        exact w_zret hx hb hr hlocks hX (by first | rfl | decide) ⟨rfl, Λ', _, _, _, μ_206, μ_201, rfl, hd, hF2, hS2, hl0, by rw [up2_nf _ (by omega), up2_nf _ (by omega)], hg1⟩ ⟨Nat.le_of_ble_eq_true rfl, Nat.le_of_ble_eq_true rfl⟩ dL_act_242
  · skip
    refine lv_iconst (v := nI 1) hx hb dL_act_127 (by decide) ?_
    exact w_zret hx hb hr hlocks hX (by first | rfl | decide) ⟨rfl, Λ, Ω, σ, τ, μ, ν, rfl, hd, hF, hS, rfl, rfl, hg.up⟩ ⟨Nat.le_of_ble_eq_true rfl, Nat.le_of_ble_eq_true rfl⟩ dL_act_128

set_option maxHeartbeats 4000000 in
set_option maxRecDepth 100000 in
/-- another wand -/
theorem sg_give (l : Launch) (g : wG) (κ : wMu) (zz : Nat) {μ ν : wMu} {Λ Ω σ : sSt} {τ : Nat → Nat} {i : Nat} {x : Int32} (hF : fD g Λ none σ μ) (hS : sD g Ω τ σ ν) (hd : dj μ ν) (hg : pG τ σ i) (hi : i ≤ 400) {j : Nat} (hj : j < σ 4 0)  {p : Program} {e : Env} {s : State} {m : MethodId} {below : List Frame} {meth : Method} {c : Code} {H : Heap} {locs : List Loc} {ls : Array Slot} (hx : p.tables.exec = Jvm.exec) (hb : c.code = cL_act) (hr : meth.sig.returnType = (some .boolean)) (hml : c.maxLocals = 8) (hown : s.vm.findClass yL_act.cls = some m.cls) (hlocks : meth.locks = false) (hX : wX g (wA κ zz) s H locs (mU μ ν)) (hl : lv_has ls 8 [(5, .int (nI j)), (4, .int (nI (σ 4 0))), (3, .int (nI (σ 3 0))), (2, .int x), (1, .ref (Ω 0 0)), (0, .ref (Λ 0 0))]) : W p l e ({ frames := 9, cells := 8, slots := 80, locals := 200 } : Room) s m ([.ref (Λ 0 0), .ref (Ω 0 0), .int x] : List Value).toArray below meth c H locs 0 0 (MQ below (wQc g κ zz (fun r κ' => r = some (.int (nI 1)) ∧ bW g (Λ 0 0) (Ω 0 0) (i + 1) κ')) ([.ref (Λ 0 0), .ref (Ω 0 0), .int x] : List Value).toArray s 8 80 (wA κ zz)) (F0 m 296 ls []) := by
  have hO := hg.O
  have hT := hg.T
  obtain ⟨⟨-, gh, gc⟩, -⟩ := id hg
  obtain ⟨s1, ⟨fw, s2, s2'⟩, ⟨fc, s3, s3'⟩, s4, s5, s6, s7⟩ := id hS
  obtain ⟨o1, o2, o3, o4, o5, o6, o7⟩ := id hO
  have ojb := o4 j hj
  have owb := o3 _ ojb.1
  refine lv_aload_n hx hb dL_act_296 rfl (lv_at hl 4 rfl) ?_
  refine gX3_1 hx hb hX hown (mU_r s1) kw630 dL_act_297 ?_
  refine lv_iload hx hb dL_act_300 (lv_at hl 0 rfl) ?_
  refine n_aaldRv hx hb hX (mU_r s3) (by omega) (by omega) dL_act_302 (s3' j (by omega)) ?_
  obtain ⟨h_2, kr_1, r_3⟩ := s5 j (by omega)
  refine lv_iconst (v := nI 0) hx hb dL_act_303 (by decide) ?_
  refine n_ialdv hx hb hX (mU_r kr_1) (by omega) (by omega) dL_act_304 r_3.1 ?_
  refine lv_istore (lv' := [(6, .int (nI (σ 8 j))), (5, .int (nI j)), (4, .int (nI (σ 4 0))), (3, .int (nI (σ 3 0))), (2, .int x), (1, .ref (Ω 0 0)), (0, .ref (Λ 0 0))]) hx hb dL_act_305 hl (by decide) rfl (fun ls hl => ?_)
  refine lv_aload_n hx hb dL_act_307 rfl (lv_at hl 5 rfl) ?_
  refine gX3_1 hx hb hX hown (mU_r s1) kw630 dL_act_308 ?_
  refine lv_iload hx hb dL_act_311 (lv_at hl 1 rfl) ?_
  refine n_aaldRv hx hb hX (mU_r s3) (by omega) (by omega) dL_act_313 (s3' j (by omega)) ?_
  refine lv_iconst (v := nI 0) hx hb dL_act_314 (by decide) ?_
  refine lv_iload_n hx hb dL_act_315 rfl (lv_at hl 4 rfl) ?_
  refine lv_bipush (v := nI 6) hx hb dL_act_316 (by decide) ?_
  refine lv_ishr hx hb dL_act_318 ?_
  refine lv_topi (fun y_4 _ => ?_)
  refine lv_iload_n hx hb dL_act_319 rfl (lv_at hl 3 rfl) ?_
  refine w_call (w_runS (n := 2) (As := [.int y_4, .int (nI (σ 3 0))]) (rest := [.int (nI 0), .ref (Ω 4 j)]) hx hb hml hown hX (c_L_below l g (mU μ ν) H.size (by omega) (by omega)) kw509 kw0 kw507 kw508 wn_L_below rfl ⟨Nat.le_of_ble_eq_true rfl, Nat.le_of_ble_eq_true rfl⟩ hl.1 rfl (Nat.le_of_ble_eq_true rfl) dL_act_320 ⟨Nat.le_of_ble_eq_true rfl, Nat.le_of_ble_eq_true rfl⟩) hX (fun r_8 μ_6 H locs q_7 hX hz => ?_)
  obtain ⟨b_5, hb_5, rfl, e_9⟩ := q_7
  rw [e_9] at hX
  refine W.eq (g2 := F0 m 323 ls [.int (nI b_5), .int (nI 0), .ref (Ω 4 j)]) rfl ?_
  refine n_iast hx hb hX (mU_r kr_1) (by omega) (by omega) dL_act_323 (fun H locs hX => ?_)
  obtain ⟨h_10, eh_11⟩ : ∃ z, z = upd h_2 0 (nI b_5) := ⟨_, rfl⟩
  rw [← eh_11] at hX
  have r_12 : rC b_5 (σ 9 j) (σ 10 j) (σ 11 j) (σ 12 j) (τ j) h_10 := by rw [eh_11]; exact r_3.s0 _
  obtain ⟨μ_13, e_14⟩ : ∃ z, z = va_up ν (Ω 4 j) (some (sR g 6 h_10)) := ⟨_, rfl⟩
  rw [mU_up, ← e_14] at hX
  have hd : dj μ μ_13 := by rw [e_14]; exact hd.up (hd.no kr_1)
  have k_15 : μ_13 (Ω 4 j) = some (sR g 6 h_10) := by rw [e_14]; exact va_up_self _ _ _
  have k_16 := (congrFun e_14 (Ω 0 0)).trans ((va_up_ne _ _ (kd_ne s1 kr_1 rfl)).trans s1)
  have k_17 := (congrFun e_14 (Ω 1 0)).trans ((va_up_ne _ _ (kd_ne s2 kr_1 rfl)).trans s2)
  have k_18 := (congrFun e_14 (Ω 2 0)).trans ((va_up_ne _ _ (kd_ne s3 kr_1 rfl)).trans s3)
  refine lv_aload_n hx hb dL_act_324 rfl (lv_at hl 6 rfl) ?_
  refine lv_iload hx hb dL_act_325 (lv_at hl 1 rfl) ?_
  refine lv_aload_n hx hb dL_act_327 rfl (lv_at hl 5 rfl) ?_
  refine gX3_1 hx hb hX hown (mU_r k_16) kw630 dL_act_328 ?_
  refine lv_iload hx hb dL_act_331 (lv_at hl 1 rfl) ?_
  refine n_aaldRv hx hb hX (mU_r k_18) (by omega) (by omega) dL_act_333 (s3' j (by omega)) ?_
  refine lv_iconst (v := nI 0) hx hb dL_act_334 (by decide) ?_
  refine n_ialdv hx hb hX (mU_r k_15) (by omega) (by omega) dL_act_335 r_12.1 ?_
  have hS2 : sD g Ω τ (up2 σ 8 j b_5) μ_13 := by
    refine hS.c1 hj k_15 ?_ (fun q hn => by rw [e_14, va_up_ne _ _ hn]) (fun f k h => if_neg (fun z => h ⟨by omega, by omega, z.2⟩)) (fun _ _ => rfl)
    unfold rwC; rw [up2_self, up2_nf (f' := 9) _ (by omega), up2_nf (f' := 10) _ (by omega), up2_nf (f' := 11) _ (by omega), up2_nf (f' := 12) _ (by omega)]
    exact r_12
  refine w_callL (w_runV (n := 2) (As := [.int (nI j), .int (nI b_5)]) (rest := []) hx hb hml hown (hX.l hd) (c_X2_give_g l g μ H.size hF hO hj (by omega)) kw605 kw1 kw602 kw603 kw604 wn_X2_give rfl hF.1 rfl ⟨Nat.le_of_ble_eq_true rfl, Nat.le_of_ble_eq_true rfl⟩ hl.1 rfl (Nat.le_of_ble_eq_true rfl) dL_act_336 ⟨Nat.le_of_ble_eq_true rfl, Nat.le_of_ble_eq_true rfl⟩) hX hd (fun r_21 μ_19 H locs q_20 hd hX hz => ?_)
  obtain ⟨rfl, hF2⟩ := q_20
  refine W.eq (g2 := F0 m 339 ls [.int (nI (σ 8 j))]) rfl ?_
  refine lv_iload hx hb dL_act_339 (lv_at hl 0 rfl) ?_
  refine n_ne (tgt := 348) hx hb (by omega) (by omega) dL_act_341 (by decide) (fun h => absurd h (by omega)) (fun _ => ?_)
  refine lv_iconst (v := nI 1) hx hb dL_act_344 (by decide) ?_
  refine lv_goto (tgt := 349) hx hb dL_act_345 (by decide) ?_
  exact w_zret hx hb hr hlocks hX (by first | rfl | decide) ⟨rfl, Λ, Ω, _, τ, μ_19, μ_13, rfl, hd, hF2, hS2, rfl, rfl, hg.give hj (by omega)⟩ ⟨Nat.le_of_ble_eq_true rfl, Nat.le_of_ble_eq_true rfl⟩ dL_act_349

set_option maxHeartbeats 4000000 in
set_option maxRecDepth 100000 in
/-- another fall -/
theorem sg_fall (l : Launch) (g : wG) (κ : wMu) (zz : Nat) {μ ν : wMu} {Λ Ω σ : sSt} {τ : Nat → Nat} {i : Nat} {x : Int32} (hF : fD g Λ none σ μ) (hS : sD g Ω τ σ ν) (hd : dj μ ν) (hg : pG τ σ i) (hi : i ≤ 400) {j : Nat} (hj : j < σ 4 0)  {p : Program} {e : Env} {s : State} {m : MethodId} {below : List Frame} {meth : Method} {c : Code} {H : Heap} {locs : List Loc} {ls : Array Slot} (hx : p.tables.exec = Jvm.exec) (hb : c.code = cL_act) (hr : meth.sig.returnType = (some .boolean)) (hml : c.maxLocals = 8) (hown : s.vm.findClass yL_act.cls = some m.cls) (hlocks : meth.locks = false) (hX : wX g (wA κ zz) s H locs (mU μ ν)) (hl : lv_has ls 8 [(5, .int (nI j)), (4, .int (nI (σ 4 0))), (3, .int (nI (σ 3 0))), (2, .int x), (1, .ref (Ω 0 0)), (0, .ref (Λ 0 0))]) : W p l e ({ frames := 9, cells := 8, slots := 80, locals := 200 } : Room) s m ([.ref (Λ 0 0), .ref (Ω 0 0), .int x] : List Value).toArray below meth c H locs 0 0 (MQ below (wQc g κ zz (fun r κ' => r = some (.int (nI 1)) ∧ bW g (Λ 0 0) (Ω 0 0) (i + 1) κ')) ([.ref (Λ 0 0), .ref (Ω 0 0), .int x] : List Value).toArray s 8 80 (wA κ zz)) (F0 m 350 ls []) := by
  have hO := hg.O
  have hT := hg.T
  obtain ⟨⟨-, gh, gc⟩, -⟩ := id hg
  obtain ⟨s1, ⟨fw, s2, s2'⟩, ⟨fc, s3, s3'⟩, s4, s5, s6, s7⟩ := id hS
  obtain ⟨o1, o2, o3, o4, o5, o6, o7⟩ := id hO
  have ojb := o4 j hj
  have owb := o3 _ ojb.1
  refine lv_iload_n hx hb dL_act_350 rfl (lv_at hl 3 rfl) ?_
  refine lv_iconst (v := nI 4) hx hb dL_act_351 (by decide) ?_
  refine lv_ishr hx hb dL_act_352 ?_
  refine lv_topi (fun y_1 _ => ?_)
  refine lv_iload_n hx hb dL_act_353 rfl (lv_at hl 2 rfl) ?_
  refine w_call (w_runS (n := 2) (As := [.int y_1, .int (nI (σ 3 0))]) (rest := []) hx hb hml hown hX (c_L_below l g (mU μ ν) H.size (by omega) (by omega)) kw509 kw0 kw507 kw508 wn_L_below rfl ⟨Nat.le_of_ble_eq_true rfl, Nat.le_of_ble_eq_true rfl⟩ hl.1 rfl (Nat.le_of_ble_eq_true rfl) dL_act_354 ⟨Nat.le_of_ble_eq_true rfl, Nat.le_of_ble_eq_true rfl⟩) hX (fun r_5 μ_3 H locs q_4 hX hz => ?_)
  obtain ⟨b_2, hb_2, rfl, e_6⟩ := q_4
  rw [e_6] at hX
  refine W.eq (g2 := F0 m 357 ls [.int (nI b_2)]) rfl ?_
  refine lv_istore (lv' := [(6, .int (nI b_2)), (5, .int (nI j)), (4, .int (nI (σ 4 0))), (3, .int (nI (σ 3 0))), (2, .int x), (1, .ref (Ω 0 0)), (0, .ref (Λ 0 0))]) hx hb dL_act_357 hl (by decide) rfl (fun ls hl => ?_)
  refine lv_aload_n hx hb dL_act_359 rfl (lv_at hl 5 rfl) ?_
  refine gX3_0 hx hb hX hown (mU_r s1) kw628 dL_act_360 ?_
  refine lv_iload hx hb dL_act_363 (lv_at hl 0 rfl) ?_
  refine n_aaldRv hx hb hX (mU_r s2) (by omega) (by omega) dL_act_365 (s2' b_2 (by omega)) ?_
  obtain ⟨h_8, kr_7, r_9⟩ := s4 b_2 (by omega)
  refine lv_iconst (v := nI 1) hx hb dL_act_366 (by decide) ?_
  refine n_ialdv hx hb hX (mU_r kr_7) (by omega) (by omega) dL_act_367 r_9.2.1 ?_
  refine lv_istore (lv' := [(7, .int (nI (σ 6 b_2))), (6, .int (nI b_2)), (5, .int (nI j)), (4, .int (nI (σ 4 0))), (3, .int (nI (σ 3 0))), (2, .int x), (1, .ref (Ω 0 0)), (0, .ref (Λ 0 0))]) hx hb dL_act_368 hl (by decide) rfl (fun ls hl => ?_)
  refine lv_aload_n hx hb dL_act_370 rfl (lv_at hl 6 rfl) ?_
  refine gX3_0 hx hb hX hown (mU_r s1) kw628 dL_act_371 ?_
  refine lv_iload hx hb dL_act_374 (lv_at hl 1 rfl) ?_
  refine n_aaldRv hx hb hX (mU_r s2) (by omega) (by omega) dL_act_376 (s2' b_2 (by omega)) ?_
  refine lv_iconst (v := nI 1) hx hb dL_act_377 (by decide) ?_
  refine lv_iload_n hx hb dL_act_378 rfl (lv_at hl 5 rfl) ?_
  refine lv_bipush (v := nI 6) hx hb dL_act_379 (by decide) ?_
  refine lv_ishr hx hb dL_act_381 ?_
  refine lv_topi (fun y_10 _ => ?_)
  refine lv_bipush (v := nI 10) hx hb dL_act_382 (by decide) ?_
  refine w_call (w_runS (n := 2) (As := [.int y_10, .int (nI 10)]) (rest := [.int (nI 1), .ref (Ω 3 b_2)]) hx hb hml hown hX (c_L_below l g (mU μ ν) H.size (by omega) (by omega)) kw509 kw0 kw507 kw508 wn_L_below rfl ⟨Nat.le_of_ble_eq_true rfl, Nat.le_of_ble_eq_true rfl⟩ hl.1 rfl (Nat.le_of_ble_eq_true rfl) dL_act_384 ⟨Nat.le_of_ble_eq_true rfl, Nat.le_of_ble_eq_true rfl⟩) hX (fun r_14 μ_12 H locs q_13 hX hz => ?_)
  obtain ⟨b_11, hb_11, rfl, e_15⟩ := q_13
  rw [e_15] at hX
  refine W.eq (g2 := F0 m 387 ls [.int (nI b_11), .int (nI 1), .ref (Ω 3 b_2)]) rfl ?_
  refine n_iast hx hb hX (mU_r kr_7) (by omega) (by omega) dL_act_387 (fun H locs hX => ?_)
  obtain ⟨h_16, eh_17⟩ : ∃ z, z = upd h_8 1 (nI b_11) := ⟨_, rfl⟩
  rw [← eh_17] at hX
  have r_18 : rW (σ 5 b_2) b_11 (σ 7 b_2) h_16 := by rw [eh_17]; exact r_9.s1 _
  obtain ⟨μ_19, e_20⟩ : ∃ z, z = va_up ν (Ω 3 b_2) (some (sR g 3 h_16)) := ⟨_, rfl⟩
  rw [mU_up, ← e_20] at hX
  have hd : dj μ μ_19 := by rw [e_20]; exact hd.up (hd.no kr_7)
  have k_21 : μ_19 (Ω 3 b_2) = some (sR g 3 h_16) := by rw [e_20]; exact va_up_self _ _ _
  have k_22 := (congrFun e_20 (Ω 0 0)).trans ((va_up_ne _ _ (kd_ne s1 kr_7 rfl)).trans s1)
  have k_23 := (congrFun e_20 (Ω 1 0)).trans ((va_up_ne _ _ (kd_ne s2 kr_7 rfl)).trans s2)
  have k_24 := (congrFun e_20 (Ω 2 0)).trans ((va_up_ne _ _ (kd_ne s3 kr_7 rfl)).trans s3)
  refine lv_aload_n hx hb dL_act_388 rfl (lv_at hl 7 rfl) ?_
  refine lv_iload hx hb dL_act_389 (lv_at hl 1 rfl) ?_
  refine lv_aload_n hx hb dL_act_391 rfl (lv_at hl 6 rfl) ?_
  refine gX3_0 hx hb hX hown (mU_r k_22) kw628 dL_act_392 ?_
  refine lv_iload hx hb dL_act_395 (lv_at hl 1 rfl) ?_
  refine n_aaldRv hx hb hX (mU_r k_23) (by omega) (by omega) dL_act_397 (s2' b_2 (by omega)) ?_
  refine lv_iconst (v := nI 1) hx hb dL_act_398 (by decide) ?_
  refine n_ialdv hx hb hX (mU_r k_21) (by omega) (by omega) dL_act_399 r_18.2.1 ?_
  have hS2 : sD g Ω τ (up2 σ 6 b_2 b_11) μ_19 := by
    refine hS.w1 (i := b_2) (by omega) k_21 ?_ (fun q hn => by rw [e_20, va_up_ne _ _ hn]) (fun f k h => if_neg (fun z => h ⟨by omega, by omega, z.2⟩))
    unfold rwW; rw [up2_self, up2_nf (f' := 5) _ (by omega), up2_nf (f' := 7) _ (by omega)]
    exact r_18
  refine w_callL (w_runV (n := 2) (As := [.int (nI b_2), .int (nI b_11)]) (rest := []) hx hb hml hown (hX.l hd) (c_X2_setFall_g l g μ H.size hF hO (by omega) (by omega)) kw609 kw1 kw606 kw607 kw608 wn_X2_setFall rfl hF.1 rfl ⟨Nat.le_of_ble_eq_true rfl, Nat.le_of_ble_eq_true rfl⟩ hl.1 rfl (Nat.le_of_ble_eq_true rfl) dL_act_400 ⟨Nat.le_of_ble_eq_true rfl, Nat.le_of_ble_eq_true rfl⟩) hX hd (fun r_27 μ_25 H locs q_26 hd hX hz => ?_)
  obtain ⟨rfl, hF2⟩ := q_26
  refine W.eq (g2 := F0 m 403 ls [.int (nI (σ 6 b_2))]) rfl ?_
  have oib := o3 b_2 (by omega)
  refine lv_iload hx hb dL_act_403 (lv_at hl 0 rfl) ?_
  refine n_ne (tgt := 412) hx hb (by omega) (by omega) dL_act_405 (by decide) (fun h => absurd h (by omega)) (fun _ => ?_)
  refine lv_iconst (v := nI 1) hx hb dL_act_408 (by decide) ?_
  refine lv_goto (tgt := 413) hx hb dL_act_409 (by decide) ?_
  exact w_zret hx hb hr hlocks hX (by first | rfl | decide) ⟨rfl, Λ, Ω, _, τ, μ_25, μ_19, rfl, hd, hF2, hS2, rfl, rfl, hg.fall (by omega) (by omega)⟩ ⟨Nat.le_of_ble_eq_true rfl, Nat.le_of_ble_eq_true rfl⟩ dL_act_413

set_option maxHeartbeats 4000000 in
set_option maxRecDepth 100000 in
/-- forgiven -/
theorem sg_forg (l : Launch) (g : wG) (κ : wMu) (zz : Nat) {μ ν : wMu} {Λ Ω σ : sSt} {τ : Nat → Nat} {i : Nat} {x : Int32} (hF : fD g Λ none σ μ) (hS : sD g Ω τ σ ν) (hd : dj μ ν) (hg : pG τ σ i) (hi : i ≤ 400) {j : Nat} (hj : j < σ 4 0)  {p : Program} {e : Env} {s : State} {m : MethodId} {below : List Frame} {meth : Method} {c : Code} {H : Heap} {locs : List Loc} {ls : Array Slot} (hx : p.tables.exec = Jvm.exec) (hb : c.code = cL_act) (hr : meth.sig.returnType = (some .boolean)) (hml : c.maxLocals = 8) (hown : s.vm.findClass yL_act.cls = some m.cls) (hlocks : meth.locks = false) (hX : wX g (wA κ zz) s H locs (mU μ ν)) (hl : lv_has ls 8 [(5, .int (nI j)), (4, .int (nI (σ 4 0))), (3, .int (nI (σ 3 0))), (2, .int x), (1, .ref (Ω 0 0)), (0, .ref (Λ 0 0))]) : W p l e ({ frames := 9, cells := 8, slots := 80, locals := 200 } : Room) s m ([.ref (Λ 0 0), .ref (Ω 0 0), .int x] : List Value).toArray below meth c H locs 0 0 (MQ below (wQc g κ zz (fun r κ' => r = some (.int (nI 1)) ∧ bW g (Λ 0 0) (Ω 0 0) (i + 1) κ')) ([.ref (Λ 0 0), .ref (Ω 0 0), .int x] : List Value).toArray s 8 80 (wA κ zz)) (F0 m 414 ls []) := by
  have hO := hg.O
  have hT := hg.T
  obtain ⟨⟨-, gh, gc⟩, -⟩ := id hg
  obtain ⟨s1, ⟨fw, s2, s2'⟩, ⟨fc, s3, s3'⟩, s4, s5, s6, s7⟩ := id hS
  obtain ⟨o1, o2, o3, o4, o5, o6, o7⟩ := id hO
  have ojb := o4 j hj
  have owb := o3 _ ojb.1
  refine lv_aload_n hx hb dL_act_414 rfl (lv_at hl 4 rfl) ?_
  refine gX3_1 hx hb hX hown (mU_r s1) kw630 dL_act_415 ?_
  refine lv_iload hx hb dL_act_418 (lv_at hl 0 rfl) ?_
  refine n_aaldRv hx hb hX (mU_r s3) (by omega) (by omega) dL_act_420 (s3' j (by omega)) ?_
  obtain ⟨h_2, kr_1, r_3⟩ := s5 j (by omega)
  refine lv_iconst (v := nI 3) hx hb dL_act_421 (by decide) ?_
  refine n_ialdv hx hb hX (mU_r kr_1) (by omega) (by omega) dL_act_422 r_3.2.2.2.1 ?_
  refine lv_istore (lv' := [(6, .int (nI (σ 11 j))), (5, .int (nI j)), (4, .int (nI (σ 4 0))), (3, .int (nI (σ 3 0))), (2, .int x), (1, .ref (Ω 0 0)), (0, .ref (Λ 0 0))]) hx hb dL_act_423 hl (by decide) rfl (fun ls hl => ?_)
  refine lv_aload_n hx hb dL_act_425 rfl (lv_at hl 5 rfl) ?_
  refine gX3_1 hx hb hX hown (mU_r s1) kw630 dL_act_426 ?_
  refine lv_iload hx hb dL_act_429 (lv_at hl 1 rfl) ?_
  refine n_aaldRv hx hb hX (mU_r s3) (by omega) (by omega) dL_act_431 (s3' j (by omega)) ?_
  refine lv_iconst (v := nI 3) hx hb dL_act_432 (by decide) ?_
  refine lv_iconst (v := nI 0) hx hb dL_act_433 (by decide) ?_
  refine n_iast hx hb hX (mU_r kr_1) (by omega) (by omega) dL_act_434 (fun H locs hX => ?_)
  obtain ⟨h_4, eh_5⟩ : ∃ z, z = upd h_2 3 (nI 0) := ⟨_, rfl⟩
  rw [← eh_5] at hX
  have r_6 : rC (σ 8 j) (σ 9 j) (σ 10 j) 0 (σ 12 j) (τ j) h_4 := by rw [eh_5]; exact r_3.s3 _
  obtain ⟨μ_7, e_8⟩ : ∃ z, z = va_up ν (Ω 4 j) (some (sR g 6 h_4)) := ⟨_, rfl⟩
  rw [mU_up, ← e_8] at hX
  have hd : dj μ μ_7 := by rw [e_8]; exact hd.up (hd.no kr_1)
  have k_9 : μ_7 (Ω 4 j) = some (sR g 6 h_4) := by rw [e_8]; exact va_up_self _ _ _
  have k_10 := (congrFun e_8 (Ω 0 0)).trans ((va_up_ne _ _ (kd_ne s1 kr_1 rfl)).trans s1)
  have k_11 := (congrFun e_8 (Ω 1 0)).trans ((va_up_ne _ _ (kd_ne s2 kr_1 rfl)).trans s2)
  have k_12 := (congrFun e_8 (Ω 2 0)).trans ((va_up_ne _ _ (kd_ne s3 kr_1 rfl)).trans s3)
  refine lv_aload_n hx hb dL_act_435 rfl (lv_at hl 5 rfl) ?_
  refine gX3_1 hx hb hX hown (mU_r k_10) kw630 dL_act_436 ?_
  refine lv_iload hx hb dL_act_439 (lv_at hl 1 rfl) ?_
  refine n_aaldRv hx hb hX (mU_r k_12) (by omega) (by omega) dL_act_441 (s3' j (by omega)) ?_
  refine lv_iconst (v := nI 4) hx hb dL_act_442 (by decide) ?_
  refine lv_iconst (v := nI 0) hx hb dL_act_443 (by decide) ?_
  refine n_iast hx hb hX (mU_r k_9) (by omega) (by omega) dL_act_444 (fun H locs hX => ?_)
  obtain ⟨h_13, eh_14⟩ : ∃ z, z = upd h_4 4 (nI 0) := ⟨_, rfl⟩
  rw [← eh_14] at hX
  have r_15 : rC (σ 8 j) (σ 9 j) (σ 10 j) 0 0 (τ j) h_13 := by rw [eh_14]; exact r_6.s4 _
  obtain ⟨μ_16, e_17⟩ : ∃ z, z = va_up μ_7 (Ω 4 j) (some (sR g 6 h_13)) := ⟨_, rfl⟩
  rw [mU_up, ← e_17] at hX
  have hd : dj μ μ_16 := by rw [e_17]; exact hd.up (hd.no k_9)
  have k_18 : μ_16 (Ω 4 j) = some (sR g 6 h_13) := by rw [e_17]; exact va_up_self _ _ _
  have k_19 := (congrFun e_17 (Ω 0 0)).trans ((va_up_ne _ _ (kd_ne k_10 k_9 rfl)).trans k_10)
  have k_20 := (congrFun e_17 (Ω 1 0)).trans ((va_up_ne _ _ (kd_ne k_11 k_9 rfl)).trans k_11)
  have k_21 := (congrFun e_17 (Ω 2 0)).trans ((va_up_ne _ _ (kd_ne k_12 k_9 rfl)).trans k_12)
  refine lv_aload_n hx hb dL_act_445 rfl (lv_at hl 6 rfl) ?_
  refine lv_iload hx hb dL_act_446 (lv_at hl 1 rfl) ?_
  have hS2 : sD g Ω τ (nFor σ j) μ_16 := by
    refine hS.c1 hj k_18 ?_ (fun q hn => by rw [e_17, va_up_ne _ _ hn, e_8, va_up_ne _ _ hn]) (fun f k h => by simp only [nFor, up2]; rw [if_neg (fun z => h ⟨by omega, by omega, z.2⟩), if_neg (fun z => h ⟨by omega, by omega, z.2⟩)]) (fun _ _ => rfl)
    have h8 := r_15; simp only [rwC, nFor]; rw [up2_self, up2_nf (f' := 8) _ (by omega), up2_nf (f' := 9) _ (by omega), up2_nf (f' := 10) _ (by omega), up2_nf (f' := 11) _ (by omega), up2_self, up2_nf (f' := 8) _ (by omega), up2_nf (f' := 9) _ (by omega), up2_nf (f' := 10) _ (by omega)]
    exact h8
  refine w_callL (w_runV (n := 1) (As := [.int (nI j)]) (rest := []) hx hb hml hown (hX.l hd) (c_X2_forgive_g l g μ H.size hF hO hj) kw613 kw1 kw610 kw611 kw612 wn_X2_forgive rfl hF.1 rfl ⟨Nat.le_of_ble_eq_true rfl, Nat.le_of_ble_eq_true rfl⟩ hl.1 rfl (Nat.le_of_ble_eq_true rfl) dL_act_448 ⟨Nat.le_of_ble_eq_true rfl, Nat.le_of_ble_eq_true rfl⟩) hX hd (fun r_24 μ_22 H locs q_23 hd hX hz => ?_)
  obtain ⟨rfl, hF2⟩ := q_23
  refine W.eq (g2 := F0 m 451 ls [.int (nI (σ 11 j))]) rfl ?_
  refine lv_iload hx hb dL_act_451 (lv_at hl 0 rfl) ?_
  refine n_ne (tgt := 460) hx hb (by omega) (by omega) dL_act_453 (by decide) (fun h => absurd h (by omega)) (fun _ => ?_)
  refine lv_iconst (v := nI 1) hx hb dL_act_456 (by decide) ?_
  refine lv_goto (tgt := 461) hx hb dL_act_457 (by decide) ?_
  exact w_zret hx hb hr hlocks hX (by first | rfl | decide) ⟨rfl, Λ, Ω, _, τ, μ_22, μ_16, rfl, hd, hF2, hS2, rfl, rfl, hg.forg⟩ ⟨Nat.le_of_ble_eq_true rfl, Nat.le_of_ble_eq_true rfl⟩ dL_act_461

set_option maxHeartbeats 4000000 in
set_option maxRecDepth 100000 in
/-- hours -/
theorem sg_pass (l : Launch) (g : wG) (κ : wMu) (zz : Nat) {μ ν : wMu} {Λ Ω σ : sSt} {τ : Nat → Nat} {i : Nat} {x : Int32} (hF : fD g Λ none σ μ) (hS : sD g Ω τ σ ν) (hd : dj μ ν) (hg : pG τ σ i) (hi : i ≤ 400) {j : Nat} (hj : j < σ 4 0)  {p : Program} {e : Env} {s : State} {m : MethodId} {below : List Frame} {meth : Method} {c : Code} {H : Heap} {locs : List Loc} {ls : Array Slot} (hx : p.tables.exec = Jvm.exec) (hb : c.code = cL_act) (hr : meth.sig.returnType = (some .boolean)) (hml : c.maxLocals = 8) (hown : s.vm.findClass yL_act.cls = some m.cls) (hlocks : meth.locks = false) (hX : wX g (wA κ zz) s H locs (mU μ ν)) (hl : lv_has ls 8 [(5, .int (nI j)), (4, .int (nI (σ 4 0))), (3, .int (nI (σ 3 0))), (2, .int x), (1, .ref (Ω 0 0)), (0, .ref (Λ 0 0))]) : W p l e ({ frames := 9, cells := 8, slots := 80, locals := 200 } : Room) s m ([.ref (Λ 0 0), .ref (Ω 0 0), .int x] : List Value).toArray below meth c H locs 0 0 (MQ below (wQc g κ zz (fun r κ' => r = some (.int (nI 1)) ∧ bW g (Λ 0 0) (Ω 0 0) (i + 1) κ')) ([.ref (Λ 0 0), .ref (Ω 0 0), .int x] : List Value).toArray s 8 80 (wA κ zz)) (F0 m 462 ls []) := by
  have hO := hg.O
  have hT := hg.T
  obtain ⟨⟨-, gh, gc⟩, -⟩ := id hg
  obtain ⟨s1, ⟨fw, s2, s2'⟩, ⟨fc, s3, s3'⟩, s4, s5, s6, s7⟩ := id hS
  obtain ⟨o1, o2, o3, o4, o5, o6, o7⟩ := id hO
  have ojb := o4 j hj
  have owb := o3 _ ojb.1
  refine lv_iconst (v := nI 1) hx hb dL_act_462 (by decide) ?_
  refine lv_iload_n hx hb dL_act_463 rfl (lv_at hl 3 rfl) ?_
  refine lv_iconst (v := nI 4) hx hb dL_act_464 (by decide) ?_
  refine lv_ishr hx hb dL_act_465 ?_
  refine lv_topi (fun y_1 _ => ?_)
  refine lv_iload_n hx hb dL_act_466 rfl (lv_at hl 3 rfl) ?_
  refine lv_bipush (v := nI 8) hx hb dL_act_467 (by decide) ?_
  refine lv_ishr hx hb dL_act_469 ?_
  refine lv_topi (fun y_2 _ => ?_)
  refine lv_iconst (v := nI 3) hx hb dL_act_470 (by decide) ?_
  refine w_call (w_runS (n := 2) (As := [.int y_2, .int (nI 3)]) (rest := [.int y_1, .int (nI 1)]) hx hb hml hown hX (c_L_below l g (mU μ ν) H.size (by omega) (by omega)) kw509 kw0 kw507 kw508 wn_L_below rfl ⟨Nat.le_of_ble_eq_true rfl, Nat.le_of_ble_eq_true rfl⟩ hl.1 rfl (Nat.le_of_ble_eq_true rfl) dL_act_471 ⟨Nat.le_of_ble_eq_true rfl, Nat.le_of_ble_eq_true rfl⟩) hX (fun r_6 μ_4 H locs q_5 hX hz => ?_)
  obtain ⟨b_3, hb_3, rfl, e_7⟩ := q_5
  rw [e_7] at hX
  refine W.eq (g2 := F0 m 474 ls [.int (nI b_3), .int y_1, .int (nI 1)]) rfl ?_
  refine n_if_ne (tgt := 482) hx hb (by omega) dL_act_474 (by decide) (fun c_8 => ?_) (fun c_8 => ?_)
  · skip
    refine lv_iconst (v := nI 5) hx hb dL_act_482 (by decide) ?_
    refine w_call (w_runS (n := 2) (As := [.int y_1, .int (nI 5)]) (rest := [.int (nI 1)]) hx hb hml hown hX (c_L_below l g (mU μ ν) H.size (by omega) (by omega)) kw509 kw0 kw507 kw508 wn_L_below rfl ⟨Nat.le_of_ble_eq_true rfl, Nat.le_of_ble_eq_true rfl⟩ hl.1 rfl (Nat.le_of_ble_eq_true rfl) dL_act_483 ⟨Nat.le_of_ble_eq_true rfl, Nat.le_of_ble_eq_true rfl⟩) hX (fun r_12 μ_10 H locs q_11 hX hz => ?_)
    obtain ⟨b_9, hb_9, rfl, e_13⟩ := q_11
    rw [e_13] at hX
    refine W.eq (g2 := F0 m 486 ls [.int (nI b_9), .int (nI 1)]) rfl ?_
    refine n_iadd hx hb dL_act_486 (nI_add _ _) ?_
    refine lv_istore (lv' := [(6, .int (nI (1 + b_9))), (5, .int (nI j)), (4, .int (nI (σ 4 0))), (3, .int (nI (σ 3 0))), (2, .int x), (1, .ref (Ω 0 0)), (0, .ref (Λ 0 0))]) hx hb dL_act_487 hl (by decide) rfl (fun ls hl => ?_)
    refine lv_aload_n hx hb dL_act_489 rfl (lv_at hl 6 rfl) ?_
    refine lv_iload hx hb dL_act_490 (lv_at hl 0 rfl) ?_
    have hfl := sFal_le hO (1 + b_9) (σ 3 0) (Nat.le_refl _)
    refine w_callL (w_runV (n := 1) (As := [.int (nI (1 + b_9))]) (rest := []) hx hb hml hown (hX.l hd) (c_X2_pass_g l g μ H.size hF hO (by omega) (by omega) (by omega)) kw283 kw1 kw280 kw281 kw282 wn_X2_pass rfl hF.1 rfl ⟨Nat.le_of_ble_eq_true rfl, Nat.le_of_ble_eq_true rfl⟩ hl.1 rfl (Nat.le_of_ble_eq_true rfl) dL_act_492 ⟨Nat.le_of_ble_eq_true rfl, Nat.le_of_ble_eq_true rfl⟩) hX hd (fun r_16 μ_14 H locs q_15 hd hX hz => ?_)
    obtain ⟨rfl, hF2⟩ := q_15
    refine W.eq (g2 := F0 m 495 ls [.int (nI (sFal σ (1 + b_9) (σ 3 0)))]) rfl ?_
    refine lv_aload_n hx hb dL_act_495 rfl (lv_at hl 5 rfl) ?_
    refine lv_iload hx hb dL_act_496 (lv_at hl 0 rfl) ?_
    refine w_callR (w_runV (n := 1) (As := [.int (nI (1 + b_9))]) (rest := [.int (nI (sFal σ (1 + b_9) (σ 3 0)))]) hx hb hml hown hX.r (c_X3_pass_ l g ν H.size hS hO (by omega) (by omega)) kw462 kw7 kw459 kw460 kw461 wn_X3_pass_ rfl hS.1 rfl ⟨Nat.le_of_ble_eq_true rfl, Nat.le_of_ble_eq_true rfl⟩ hl.1 rfl (Nat.le_of_ble_eq_true rfl) dL_act_498 ⟨Nat.le_of_ble_eq_true rfl, Nat.le_of_ble_eq_true rfl⟩) hX hd (fun r_19 μ_17 H locs q_18 hd hX hz => ?_)
    obtain ⟨rfl, hS2⟩ := q_18
    refine W.eq (g2 := F0 m 501 ls [.int (nI (sFal σ (1 + b_9) (σ 3 0))), .int (nI (sFal σ (1 + b_9) (σ 3 0)))]) rfl ?_
    refine n_ne (tgt := 508) hx hb (by omega) (by omega) dL_act_501 (by decide) (fun h => absurd h (by omega)) (fun _ => ?_)
    refine lv_iconst (v := nI 1) hx hb dL_act_504 (by decide) ?_
    refine lv_goto (tgt := 509) hx hb dL_act_505 (by decide) ?_
    exact w_zret hx hb hr hlocks hX (by first | rfl | decide) ⟨rfl, Λ, Ω, _, τ, μ_14, μ_17, rfl, hd, hF2, hS2, rfl, rfl, hg.pas (by omega) (by omega)⟩ ⟨Nat.le_of_ble_eq_true rfl, Nat.le_of_ble_eq_true rfl⟩ dL_act_509
  · skip
    refine lv_bipush (v := nI 100) hx hb dL_act_477 (by decide) ?_
    refine lv_goto (tgt := 483) hx hb dL_act_479 (by decide) ?_
    refine w_call (w_runS (n := 2) (As := [.int y_1, .int (nI 100)]) (rest := [.int (nI 1)]) hx hb hml hown hX (c_L_below l g (mU μ ν) H.size (by omega) (by omega)) kw509 kw0 kw507 kw508 wn_L_below rfl ⟨Nat.le_of_ble_eq_true rfl, Nat.le_of_ble_eq_true rfl⟩ hl.1 rfl (Nat.le_of_ble_eq_true rfl) dL_act_483 ⟨Nat.le_of_ble_eq_true rfl, Nat.le_of_ble_eq_true rfl⟩) hX (fun r_23 μ_21 H locs q_22 hX hz => ?_)
    obtain ⟨b_20, hb_20, rfl, e_24⟩ := q_22
    rw [e_24] at hX
    refine W.eq (g2 := F0 m 486 ls [.int (nI b_20), .int (nI 1)]) rfl ?_
    refine n_iadd hx hb dL_act_486 (nI_add _ _) ?_
    refine lv_istore (lv' := [(6, .int (nI (1 + b_20))), (5, .int (nI j)), (4, .int (nI (σ 4 0))), (3, .int (nI (σ 3 0))), (2, .int x), (1, .ref (Ω 0 0)), (0, .ref (Λ 0 0))]) hx hb dL_act_487 hl (by decide) rfl (fun ls hl => ?_)
    refine lv_aload_n hx hb dL_act_489 rfl (lv_at hl 6 rfl) ?_
    refine lv_iload hx hb dL_act_490 (lv_at hl 0 rfl) ?_
    have hfl := sFal_le hO (1 + b_20) (σ 3 0) (Nat.le_refl _)
    refine w_callL (w_runV (n := 1) (As := [.int (nI (1 + b_20))]) (rest := []) hx hb hml hown (hX.l hd) (c_X2_pass_g l g μ H.size hF hO (by omega) (by omega) (by omega)) kw283 kw1 kw280 kw281 kw282 wn_X2_pass rfl hF.1 rfl ⟨Nat.le_of_ble_eq_true rfl, Nat.le_of_ble_eq_true rfl⟩ hl.1 rfl (Nat.le_of_ble_eq_true rfl) dL_act_492 ⟨Nat.le_of_ble_eq_true rfl, Nat.le_of_ble_eq_true rfl⟩) hX hd (fun r_27 μ_25 H locs q_26 hd hX hz => ?_)
    obtain ⟨rfl, hF2⟩ := q_26
    refine W.eq (g2 := F0 m 495 ls [.int (nI (sFal σ (1 + b_20) (σ 3 0)))]) rfl ?_
    refine lv_aload_n hx hb dL_act_495 rfl (lv_at hl 5 rfl) ?_
    refine lv_iload hx hb dL_act_496 (lv_at hl 0 rfl) ?_
    refine w_callR (w_runV (n := 1) (As := [.int (nI (1 + b_20))]) (rest := [.int (nI (sFal σ (1 + b_20) (σ 3 0)))]) hx hb hml hown hX.r (c_X3_pass_ l g ν H.size hS hO (by omega) (by omega)) kw462 kw7 kw459 kw460 kw461 wn_X3_pass_ rfl hS.1 rfl ⟨Nat.le_of_ble_eq_true rfl, Nat.le_of_ble_eq_true rfl⟩ hl.1 rfl (Nat.le_of_ble_eq_true rfl) dL_act_498 ⟨Nat.le_of_ble_eq_true rfl, Nat.le_of_ble_eq_true rfl⟩) hX hd (fun r_30 μ_28 H locs q_29 hd hX hz => ?_)
    obtain ⟨rfl, hS2⟩ := q_29
    refine W.eq (g2 := F0 m 501 ls [.int (nI (sFal σ (1 + b_20) (σ 3 0))), .int (nI (sFal σ (1 + b_20) (σ 3 0)))]) rfl ?_
    refine n_ne (tgt := 508) hx hb (by omega) (by omega) dL_act_501 (by decide) (fun h => absurd h (by omega)) (fun _ => ?_)
    refine lv_iconst (v := nI 1) hx hb dL_act_504 (by decide) ?_
    refine lv_goto (tgt := 509) hx hb dL_act_505 (by decide) ?_
    exact w_zret hx hb hr hlocks hX (by first | rfl | decide) ⟨rfl, Λ, Ω, _, τ, μ_25, μ_28, rfl, hd, hF2, hS2, rfl, rfl, hg.pas (by omega) (by omega)⟩ ⟨Nat.le_of_ble_eq_true rfl, Nat.le_of_ble_eq_true rfl⟩ dL_act_509

set_option maxHeartbeats 4000000 in
set_option maxRecDepth 100000 in
/-- a wish -/
theorem sg_wish (l : Launch) (g : wG) (κ : wMu) (zz : Nat) {μ ν : wMu} {Λ Ω σ : sSt} {τ : Nat → Nat} {i : Nat} {x : Int32} (hF : fD g Λ none σ μ) (hS : sD g Ω τ σ ν) (hd : dj μ ν) (hg : pG τ σ i) (hi : i ≤ 400) {j : Nat} (hj : j < σ 4 0)  {p : Program} {e : Env} {s : State} {m : MethodId} {below : List Frame} {meth : Method} {c : Code} {H : Heap} {locs : List Loc} {ls : Array Slot} (hx : p.tables.exec = Jvm.exec) (hb : c.code = cL_act) (hr : meth.sig.returnType = (some .boolean)) (hml : c.maxLocals = 8) (hown : s.vm.findClass yL_act.cls = some m.cls) (hlocks : meth.locks = false) (hX : wX g (wA κ zz) s H locs (mU μ ν)) (hl : lv_has ls 8 [(5, .int (nI j)), (4, .int (nI (σ 4 0))), (3, .int (nI (σ 3 0))), (2, .int x), (1, .ref (Ω 0 0)), (0, .ref (Λ 0 0))]) : W p l e ({ frames := 9, cells := 8, slots := 80, locals := 200 } : Room) s m ([.ref (Λ 0 0), .ref (Ω 0 0), .int x] : List Value).toArray below meth c H locs 0 0 (MQ below (wQc g κ zz (fun r κ' => r = some (.int (nI 1)) ∧ bW g (Λ 0 0) (Ω 0 0) (i + 1) κ')) ([.ref (Λ 0 0), .ref (Ω 0 0), .int x] : List Value).toArray s 8 80 (wA κ zz)) (F0 m 510 ls []) := by
  have hO := hg.O
  have hT := hg.T
  obtain ⟨⟨-, gh, gc⟩, -⟩ := id hg
  obtain ⟨s1, ⟨fw, s2, s2'⟩, ⟨fc, s3, s3'⟩, s4, s5, s6, s7⟩ := id hS
  obtain ⟨o1, o2, o3, o4, o5, o6, o7⟩ := id hO
  have ojb := o4 j hj
  have owb := o3 _ ojb.1
  refine lv_iconst (v := nI 1) hx hb dL_act_510 (by decide) ?_
  refine lv_iload_n hx hb dL_act_511 rfl (lv_at hl 3 rfl) ?_
  refine lv_iconst (v := nI 5) hx hb dL_act_512 (by decide) ?_
  refine lv_ishr hx hb dL_act_513 ?_
  refine lv_topi (fun y_1 _ => ?_)
  refine lv_bipush (v := nI 20) hx hb dL_act_514 (by decide) ?_
  refine w_call (w_runS (n := 2) (As := [.int y_1, .int (nI 20)]) (rest := [.int (nI 1)]) hx hb hml hown hX (c_L_below l g (mU μ ν) H.size (by omega) (by omega)) kw509 kw0 kw507 kw508 wn_L_below rfl ⟨Nat.le_of_ble_eq_true rfl, Nat.le_of_ble_eq_true rfl⟩ hl.1 rfl (Nat.le_of_ble_eq_true rfl) dL_act_516 ⟨Nat.le_of_ble_eq_true rfl, Nat.le_of_ble_eq_true rfl⟩) hX (fun r_5 μ_3 H locs q_4 hX hz => ?_)
  obtain ⟨b_2, hb_2, rfl, e_6⟩ := q_4
  rw [e_6] at hX
  refine W.eq (g2 := F0 m 519 ls [.int (nI b_2), .int (nI 1)]) rfl ?_
  refine n_iadd hx hb dL_act_519 (nI_add _ _) ?_
  refine lv_istore (lv' := [(6, .int (nI (1 + b_2))), (5, .int (nI j)), (4, .int (nI (σ 4 0))), (3, .int (nI (σ 3 0))), (2, .int x), (1, .ref (Ω 0 0)), (0, .ref (Λ 0 0))]) hx hb dL_act_520 hl (by decide) rfl (fun ls hl => ?_)
  refine lv_aload_n hx hb dL_act_522 rfl (lv_at hl 6 rfl) ?_
  refine lv_iload hx hb dL_act_523 (lv_at hl 1 rfl) ?_
  refine lv_iload hx hb dL_act_525 (lv_at hl 0 rfl) ?_
  have hfl := fwG_le (1 + b_2) (σ 7 (σ 8 j)) (σ 10 j) (σ 11 j)
  refine w_callL (w_runV (n := 2) (As := [.int (nI j), .int (nI (1 + b_2))]) (rest := []) hx hb hml hown (hX.l hd) (c_X2_wish_g l g μ H.size hF hO hj (by omega) (by omega)) kw133 kw1 kw130 kw131 kw132 wn_X2_wish rfl hF.1 rfl ⟨Nat.le_of_ble_eq_true rfl, Nat.le_of_ble_eq_true rfl⟩ hl.1 rfl (Nat.le_of_ble_eq_true rfl) dL_act_527 ⟨Nat.le_of_ble_eq_true rfl, Nat.le_of_ble_eq_true rfl⟩) hX hd (fun r_9 μ_7 H locs q_8 hd hX hz => ?_)
  obtain ⟨rfl, hF2⟩ := q_8
  refine W.eq (g2 := F0 m 530 ls [.int (nI (fwG (1 + b_2) (σ 7 (σ 8 j)) (σ 10 j) (σ 11 j)))]) rfl ?_
  refine lv_aload_n hx hb dL_act_530 rfl (lv_at hl 5 rfl) ?_
  refine lv_iload hx hb dL_act_531 (lv_at hl 1 rfl) ?_
  refine lv_iload hx hb dL_act_533 (lv_at hl 0 rfl) ?_
  refine w_callR (w_runV (n := 2) (As := [.int (nI j), .int (nI (1 + b_2))]) (rest := [.int (nI (fwG (1 + b_2) (σ 7 (σ 8 j)) (σ 10 j) (σ 11 j)))]) hx hb hml hown hX.r (c_X3_wish l g ν H.size hS hO hT (by omega) hj (by omega) (by omega)) kw474 kw7 kw471 kw472 kw473 wn_X3_wish rfl hS.1 rfl ⟨Nat.le_of_ble_eq_true rfl, Nat.le_of_ble_eq_true rfl⟩ hl.1 rfl (Nat.le_of_ble_eq_true rfl) dL_act_535 ⟨Nat.le_of_ble_eq_true rfl, Nat.le_of_ble_eq_true rfl⟩) hX hd (fun r_12 μ_10 H locs q_11 hd hX hz => ?_)
  obtain ⟨rfl, hS2⟩ := q_11
  refine W.eq (g2 := F0 m 538 ls [.int (nI (fwG (1 + b_2) (σ 7 (σ 8 j)) (σ 10 j) (σ 11 j))), .int (nI (fwG (1 + b_2) (σ 7 (σ 8 j)) (σ 10 j) (σ 11 j)))]) rfl ?_
  refine n_ne (tgt := 545) hx hb (by omega) (by omega) dL_act_538 (by decide) (fun h => absurd h (by omega)) (fun _ => ?_)
  refine lv_iconst (v := nI 1) hx hb dL_act_541 (by decide) ?_
  refine lv_goto (tgt := 546) hx hb dL_act_542 (by decide) ?_
  exact w_zret hx hb hr hlocks hX (by first | rfl | decide) ⟨rfl, Λ, Ω, _, _, μ_7, μ_10, rfl, hd, hF2, hS2, rfl, rfl, hg.wis hj (by omega)⟩ ⟨Nat.le_of_ble_eq_true rfl, Nat.le_of_ble_eq_true rfl⟩ dL_act_546

set_option maxHeartbeats 4000000 in
set_option maxRecDepth 100000 in
/-- the switch -/
theorem sg_sw (l : Launch) (g : wG) (κ : wMu) (zz : Nat) {μ ν : wMu} {Λ Ω σ : sSt} {τ : Nat → Nat} {i : Nat} {x : Int32} (hF : fD g Λ none σ μ) (hS : sD g Ω τ σ ν) (hd : dj μ ν) (hg : pG τ σ i) (hi : i ≤ 400) (hw : 0 < σ 3 0) (hn : 0 < σ 4 0)  {p : Program} {e : Env} {s : State} {m : MethodId} {below : List Frame} {meth : Method} {c : Code} {H : Heap} {locs : List Loc} {ls : Array Slot} (hx : p.tables.exec = Jvm.exec) (hb : c.code = cL_act) (hr : meth.sig.returnType = (some .boolean)) (hml : c.maxLocals = 8) (hown : s.vm.findClass yL_act.cls = some m.cls) (hlocks : meth.locks = false) (hX : wX g (wA κ zz) s H locs (mU μ ν)) (hl : lv_has ls 8 [(4, .int (nI (σ 4 0))), (3, .int (nI (σ 3 0))), (2, .int x), (1, .ref (Ω 0 0)), (0, .ref (Λ 0 0))]) : W p l e ({ frames := 9, cells := 8, slots := 80, locals := 200 } : Room) s m ([.ref (Λ 0 0), .ref (Ω 0 0), .int x] : List Value).toArray below meth c H locs 0 0 (MQ below (wQc g κ zz (fun r κ' => r = some (.int (nI 1)) ∧ bW g (Λ 0 0) (Ω 0 0) (i + 1) κ')) ([.ref (Λ 0 0), .ref (Ω 0 0), .int x] : List Value).toArray s 8 80 (wA κ zz)) (F0 m 243 ls []) := by
  have hO := hg.O
  have hT := hg.T
  obtain ⟨⟨-, gh, gc⟩, -⟩ := id hg
  obtain ⟨s1, ⟨fw, s2, s2'⟩, ⟨fc, s3, s3'⟩, s4, s5, s6, s7⟩ := id hS
  obtain ⟨o1, o2, o3, o4, o5, o6, o7⟩ := id hO
  refine lv_iload_n hx hb dL_act_243 rfl (lv_at hl 2 rfl) ?_
  refine lv_iconst (v := nI 3) hx hb dL_act_244 (by decide) ?_
  refine lv_ishr hx hb dL_act_245 ?_
  refine lv_topi (fun y_1 _ => ?_)
  refine lv_iload hx hb dL_act_246 (lv_at hl 0 rfl) ?_
  refine w_call (w_runS (n := 2) (As := [.int y_1, .int (nI (σ 4 0))]) (rest := []) hx hb hml hown hX (c_L_below l g (mU μ ν) H.size (by omega) (by omega)) kw509 kw0 kw507 kw508 wn_L_below rfl ⟨Nat.le_of_ble_eq_true rfl, Nat.le_of_ble_eq_true rfl⟩ hl.1 rfl (Nat.le_of_ble_eq_true rfl) dL_act_248 ⟨Nat.le_of_ble_eq_true rfl, Nat.le_of_ble_eq_true rfl⟩) hX (fun r_5 μ_3 H locs q_4 hX hz => ?_)
  obtain ⟨b_2, hb_2, rfl, e_6⟩ := q_4
  rw [e_6] at hX
  refine W.eq (g2 := F0 m 251 ls [.int (nI b_2)]) rfl ?_
  refine lv_istore (lv' := [(5, .int (nI b_2)), (4, .int (nI (σ 4 0))), (3, .int (nI (σ 3 0))), (2, .int x), (1, .ref (Ω 0 0)), (0, .ref (Λ 0 0))]) hx hb dL_act_251 hl (by decide) rfl (fun ls hl => ?_)
  refine lv_iload_n hx hb dL_act_253 rfl (lv_at hl 3 rfl) ?_
  refine lv_bipush (v := nI 16) hx hb dL_act_254 (by decide) ?_
  refine w_call (w_runS (n := 2) (As := [.int x, .int (nI 16)]) (rest := []) hx hb hml hown hX (c_L_below l g (mU μ ν) H.size (by omega) (by omega)) kw509 kw0 kw507 kw508 wn_L_below rfl ⟨Nat.le_of_ble_eq_true rfl, Nat.le_of_ble_eq_true rfl⟩ hl.1 rfl (Nat.le_of_ble_eq_true rfl) dL_act_256 ⟨Nat.le_of_ble_eq_true rfl, Nat.le_of_ble_eq_true rfl⟩) hX (fun r_10 μ_8 H locs q_9 hX hz => ?_)
  obtain ⟨b_7, hb_7, rfl, e_11⟩ := q_9
  rw [e_11] at hX
  refine W.eq (g2 := F0 m 259 ls [.int (nI b_7)]) rfl ?_
  obtain rfl | rfl | rfl | rfl | rfl | rfl | rfl | rfl | rfl | rfl | rfl | rfl | rfl | rfl | rfl | rfl : b_7 = 0 ∨ b_7 = 1 ∨ b_7 = 2 ∨ b_7 = 3 ∨ b_7 = 4 ∨ b_7 = 5 ∨ b_7 = 6 ∨ b_7 = 7 ∨ b_7 = 8 ∨ b_7 = 9 ∨ b_7 = 10 ∨ b_7 = 11 ∨ b_7 = 12 ∨ b_7 = 13 ∨ b_7 = 14 ∨ b_7 = 15 := by omega
  · skip
    refine lv_tableOut (tgt := 510) hx hb dL_act_259 (Or.inl (by decide +kernel)) (by decide) ?_
    exact sg_wish l g κ zz hF hS hd hg hi (j := b_2) (by omega) hx hb hr hml hown hlocks hX (lv_sub hl [0, 1, 2, 3, 4, 5] rfl)
  · skip
    refine lv_tableOut (tgt := 510) hx hb dL_act_259 (Or.inl (by decide +kernel)) (by decide) ?_
    exact sg_wish l g κ zz hF hS hd hg hi (j := b_2) (by omega) hx hb hr hml hown hlocks hX (lv_sub hl [0, 1, 2, 3, 4, 5] rfl)
  · skip
    refine lv_tableIn (off := 37) (tgt := 296) hx hb dL_act_259 (by decide +kernel) (by decide +kernel) (by decide +kernel) (by decide) ?_
    exact sg_give l g κ zz hF hS hd hg hi (j := b_2) (by omega) hx hb hr hml hown hlocks hX (lv_sub hl [0, 1, 2, 3, 4, 5] rfl)
  · skip
    refine lv_tableIn (off := 91) (tgt := 350) hx hb dL_act_259 (by decide +kernel) (by decide +kernel) (by decide +kernel) (by decide) ?_
    exact sg_fall l g κ zz hF hS hd hg hi (j := b_2) (by omega) hx hb hr hml hown hlocks hX (lv_sub hl [0, 1, 2, 3, 4, 5] rfl)
  · skip
    refine lv_tableIn (off := 155) (tgt := 414) hx hb dL_act_259 (by decide +kernel) (by decide +kernel) (by decide +kernel) (by decide) ?_
    exact sg_forg l g κ zz hF hS hd hg hi (j := b_2) (by omega) hx hb hr hml hown hlocks hX (lv_sub hl [0, 1, 2, 3, 4, 5] rfl)
  · skip
    refine lv_tableIn (off := 203) (tgt := 462) hx hb dL_act_259 (by decide +kernel) (by decide +kernel) (by decide +kernel) (by decide) ?_
    exact sg_pass l g κ zz hF hS hd hg hi (j := b_2) (by omega) hx hb hr hml hown hlocks hX (lv_sub hl [0, 1, 2, 3, 4, 5] rfl)
  · skip
    refine lv_tableIn (off := 203) (tgt := 462) hx hb dL_act_259 (by decide +kernel) (by decide +kernel) (by decide +kernel) (by decide) ?_
    exact sg_pass l g κ zz hF hS hd hg hi (j := b_2) (by omega) hx hb hr hml hown hlocks hX (lv_sub hl [0, 1, 2, 3, 4, 5] rfl)
  · skip
    refine lv_tableIn (off := 203) (tgt := 462) hx hb dL_act_259 (by decide +kernel) (by decide +kernel) (by decide +kernel) (by decide) ?_
    exact sg_pass l g κ zz hF hS hd hg hi (j := b_2) (by omega) hx hb hr hml hown hlocks hX (lv_sub hl [0, 1, 2, 3, 4, 5] rfl)
  · skip
    refine lv_tableOut (tgt := 510) hx hb dL_act_259 (Or.inr (by decide +kernel)) (by decide) ?_
    exact sg_wish l g κ zz hF hS hd hg hi (j := b_2) (by omega) hx hb hr hml hown hlocks hX (lv_sub hl [0, 1, 2, 3, 4, 5] rfl)
  · skip
    refine lv_tableOut (tgt := 510) hx hb dL_act_259 (Or.inr (by decide +kernel)) (by decide) ?_
    exact sg_wish l g κ zz hF hS hd hg hi (j := b_2) (by omega) hx hb hr hml hown hlocks hX (lv_sub hl [0, 1, 2, 3, 4, 5] rfl)
  · skip
    refine lv_tableOut (tgt := 510) hx hb dL_act_259 (Or.inr (by decide +kernel)) (by decide) ?_
    exact sg_wish l g κ zz hF hS hd hg hi (j := b_2) (by omega) hx hb hr hml hown hlocks hX (lv_sub hl [0, 1, 2, 3, 4, 5] rfl)
  · skip
    refine lv_tableOut (tgt := 510) hx hb dL_act_259 (Or.inr (by decide +kernel)) (by decide) ?_
    exact sg_wish l g κ zz hF hS hd hg hi (j := b_2) (by omega) hx hb hr hml hown hlocks hX (lv_sub hl [0, 1, 2, 3, 4, 5] rfl)
  · skip
    refine lv_tableOut (tgt := 510) hx hb dL_act_259 (Or.inr (by decide +kernel)) (by decide) ?_
    exact sg_wish l g κ zz hF hS hd hg hi (j := b_2) (by omega) hx hb hr hml hown hlocks hX (lv_sub hl [0, 1, 2, 3, 4, 5] rfl)
  · skip
    refine lv_tableOut (tgt := 510) hx hb dL_act_259 (Or.inr (by decide +kernel)) (by decide) ?_
    exact sg_wish l g κ zz hF hS hd hg hi (j := b_2) (by omega) hx hb hr hml hown hlocks hX (lv_sub hl [0, 1, 2, 3, 4, 5] rfl)
  · skip
    refine lv_tableOut (tgt := 510) hx hb dL_act_259 (Or.inr (by decide +kernel)) (by decide) ?_
    exact sg_wish l g κ zz hF hS hd hg hi (j := b_2) (by omega) hx hb hr hml hown hlocks hX (lv_sub hl [0, 1, 2, 3, 4, 5] rfl)
  · skip
    refine lv_tableOut (tgt := 510) hx hb dL_act_259 (Or.inr (by decide +kernel)) (by decide) ?_
    exact sg_wish l g κ zz hF hS hd hg hi (j := b_2) (by omega) hx hb hr hml hown hlocks hX (lv_sub hl [0, 1, 2, 3, 4, 5] rfl)

set_option maxHeartbeats 4000000 in
set_option maxRecDepth 100000 in
/-- what a number chooses, done to both; told alike -/
theorem c_L_act (l : Launch) (g : wG) (μ : wMu) (zz : Nat) {o1 o2 i : Nat} {x : Int32} (hW : bW g o1 o2 i μ) (hi : i ≤ 400) : wMet l yL_act cL_act 8 (some .boolean) 9 8 80 200 g [.ref o1, .ref o2, .int x] μ zz (fun r μ' => r = some (.int (nI 1)) ∧ bW g o1 o2 (i + 1) μ') := by
  refine wMet.of (by decide) (Nat.le_of_ble_eq_true rfl) ?_
  intro p e s m below meth c ls hx hb hr hml hown hlocks hin hl hsz hX
  have hl : lv_has ls 8 [(0, .ref o1), (1, .ref o2), (2, .int x)] := hl
  obtain ⟨Λ, Ω, σ, τ, α, β, hκ, hd, hF, hS, rfl, rfl, hg⟩ := hW
  have hX := hX.cast hκ
  have hO := hg.O
  have hT := hg.T
  obtain ⟨⟨-, gh, gc⟩, -⟩ := id hg
  obtain ⟨s1, ⟨fw, s2, s2'⟩, ⟨fc, s3, s3'⟩, s4, s5, s6, s7⟩ := id hS
  obtain ⟨o1, o2, o3, o4, o5, o6, o7⟩ := id hO
  refine lv_aload_n hx hb dL_act_0 rfl (lv_at hl 1 rfl) ?_
  refine gX3_0 hx hb hX hown (mU_r s1) kw628 dL_act_1 ?_
  refine n_alenR hx hb hX (mU_r s2) dL_act_4 ?_
  refine lv_istore_n (lv' := [(3, .int (nI (σ 3 0))), (0, .ref (Λ 0 0)), (1, .ref (Ω 0 0)), (2, .int x)]) hx hb dL_act_5 rfl hl (by decide) rfl (fun ls hl => ?_)
  refine lv_aload_n hx hb dL_act_6 rfl (lv_at hl 2 rfl) ?_
  refine gX3_1 hx hb hX hown (mU_r s1) kw630 dL_act_7 ?_
  refine n_alenR hx hb hX (mU_r s3) dL_act_10 ?_
  refine lv_istore (lv' := [(4, .int (nI (σ 4 0))), (3, .int (nI (σ 3 0))), (0, .ref (Λ 0 0)), (1, .ref (Ω 0 0)), (2, .int x)]) hx hb dL_act_11 hl (by decide) rfl (fun ls hl => ?_)
  refine lv_iload_n hx hb dL_act_13 rfl (lv_at hl 1 rfl) ?_
  refine n_if_eq (tgt := 26) hx hb (by omega) dL_act_14 (by decide) (fun c_1 => ?_) (fun c_1 => ?_)
  · skip
    exact sg_addW l g μ zz hF hS hd hg hi hx hb hr hml hown hlocks hX (lv_sub hl [0, 1, 4, 3, 2] rfl)
  · skip
    refine lv_iload_n hx hb dL_act_17 rfl (lv_at hl 4 rfl) ?_
    refine lv_bipush (v := nI 16) hx hb dL_act_18 (by decide) ?_
    refine w_call (w_runS (n := 2) (As := [.int x, .int (nI 16)]) (rest := []) hx hb hml hown hX (c_L_below l g (mU α β) s.heap.size (by omega) (by omega)) kw509 kw0 kw507 kw508 wn_L_below rfl ⟨Nat.le_of_ble_eq_true rfl, Nat.le_of_ble_eq_true rfl⟩ hl.1 rfl (Nat.le_of_ble_eq_true rfl) dL_act_20 ⟨Nat.le_of_ble_eq_true rfl, Nat.le_of_ble_eq_true rfl⟩) hX (fun r_5 μ_3 H locs q_4 hX hz => ?_)
    obtain ⟨b_2, hb_2, rfl, e_6⟩ := q_4
    rw [e_6] at hX
    refine W.eq (g2 := F0 m 23 ls [.int (nI b_2)]) rfl ?_
    refine n_if_ne (tgt := 105) hx hb (by omega) dL_act_23 (by decide) (fun c_7 => ?_) (fun c_7 => ?_)
    · skip
      refine lv_iload hx hb dL_act_105 (lv_at hl 0 rfl) ?_
      refine n_if_eq (tgt := 120) hx hb (by omega) dL_act_107 (by decide) (fun c_8 => ?_) (fun c_8 => ?_)
      · skip
        exact sg_addC l g μ zz hF hS hd hg hi (by omega) hx hb hr hml hown hlocks hX (lv_sub hl [0, 1, 4, 3, 2] rfl)
      · skip
        refine lv_iload_n hx hb dL_act_110 rfl (lv_at hl 4 rfl) ?_
        refine lv_bipush (v := nI 16) hx hb dL_act_111 (by decide) ?_
        refine w_call (w_runS (n := 2) (As := [.int x, .int (nI 16)]) (rest := []) hx hb hml hown hX (c_L_below l g (mU α β) H.size (by omega) (by omega)) kw509 kw0 kw507 kw508 wn_L_below rfl ⟨Nat.le_of_ble_eq_true rfl, Nat.le_of_ble_eq_true rfl⟩ hl.1 rfl (Nat.le_of_ble_eq_true rfl) dL_act_113 ⟨Nat.le_of_ble_eq_true rfl, Nat.le_of_ble_eq_true rfl⟩) hX (fun r_12 μ_10 H locs q_11 hX hz => ?_)
        obtain ⟨b_9, hb_9, rfl, e_13⟩ := q_11
        rw [e_13] at hX
        refine W.eq (g2 := F0 m 116 ls [.int (nI b_9)]) rfl ?_
        refine lv_iconst (v := nI 1) hx hb dL_act_116 (by decide) ?_
        refine n_ne (tgt := 243) hx hb (by omega) (by omega) dL_act_117 (by decide) (fun c_14 => ?_) (fun c_14 => ?_)
        · skip
          exact sg_sw l g μ zz hF hS hd hg hi (by omega) (by omega) hx hb hr hml hown hlocks hX (lv_sub hl [0, 1, 4, 3, 2] rfl)
        · skip
          exact sg_addC l g μ zz hF hS hd hg hi (by omega) hx hb hr hml hown hlocks hX (lv_sub hl [0, 1, 4, 3, 2] rfl)
    · skip
      exact sg_addW l g μ zz hF hS hd hg hi hx hb hr hml hown hlocks hX (lv_sub hl [0, 1, 4, 3, 2] rfl)

