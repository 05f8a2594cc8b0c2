/-! THE SIM'S HOUR -/
def sQ (σ : sSt) (a b c d : Nat) : sSt := fun f i =>
  if f = 0 ∧ i = 0 then σ 0 0 + b else if f = 7 ∧ i < a then dIn σ i 1 else if f = 10 ∧ i < d then bIn σ i 1 else if f = 11 ∧ i < c then σ 11 i - 1 else σ f i
theorem sQ_eq (σ : sSt) (a b c d f i : Nat) : sQ σ a b c d f i = if f = 0 ∧ i = 0 then σ 0 0 + b else if f = 7 ∧ i < a then dIn σ i 1 else if f = 10 ∧ i < d then bIn σ i 1 else if f = 11 ∧ i < c then σ 11 i - 1 else σ f i := rfl
theorem sQ_end (σ : sSt) : sQ σ (σ 3 0) 1 (σ 4 0) (σ 4 0) = nPas σ 1 := rfl
theorem sQ_0 (σ : sSt) : sQ σ 0 0 0 0 = σ := by
  funext f i
  simp only [sQ, Nat.not_lt_zero, and_false, if_false, Nat.add_zero]
  split
  · rename_i h; rw [h.1, h.2]
  · rfl
theorem sQ_o (σ : sSt) {a b c d f k : Nat} (h : f ≠ 0 ∧ f ≠ 7 ∧ f ≠ 10 ∧ f ≠ 11) : sQ σ a b c d f k = σ f k := by
  rw [sQ_eq, if_neg (show ¬ (f = 0 ∧ k = 0) by omega), if_neg (show ¬ (f = 7 ∧ k < a) by omega), if_neg (show ¬ (f = 10 ∧ k < d) by omega), if_neg (show ¬ (f = 11 ∧ k < c) by omega)]
theorem sQ_00 (σ : sSt) (a b c d : Nat) : sQ σ a b c d 0 0 = σ 0 0 + b := by rw [sQ_eq, if_pos ⟨rfl, rfl⟩]
theorem sQ_7 (σ : sSt) {a b c d k : Nat} (h : k < a) : sQ σ a b c d 7 k = dIn σ k 1 := by
  rw [sQ_eq, if_neg (show ¬ ((7 : Nat) = 0 ∧ k = 0) by omega), if_pos ⟨rfl, h⟩]
theorem sQ_7n (σ : sSt) {a b c d k : Nat} (h : ¬ k < a) : sQ σ a b c d 7 k = σ 7 k := by
  rw [sQ_eq, if_neg (show ¬ ((7 : Nat) = 0 ∧ k = 0) by omega), if_neg (show ¬ ((7 : Nat) = 7 ∧ k < a) by omega), if_neg (show ¬ ((7 : Nat) = 10 ∧ k < d) by omega), if_neg (show ¬ ((7 : Nat) = 11 ∧ k < c) by omega)]
theorem sQ_10 (σ : sSt) {a b c d k : Nat} (h : k < d) : sQ σ a b c d 10 k = bIn σ k 1 := by
  rw [sQ_eq, if_neg (show ¬ ((10 : Nat) = 0 ∧ k = 0) by omega), if_neg (show ¬ ((10 : Nat) = 7 ∧ k < a) by omega), if_pos ⟨rfl, h⟩]
theorem sQ_10n (σ : sSt) {a b c d k : Nat} (h : ¬ k < d) : sQ σ a b c d 10 k = σ 10 k := by
  rw [sQ_eq, if_neg (show ¬ ((10 : Nat) = 0 ∧ k = 0) by omega), if_neg (show ¬ ((10 : Nat) = 7 ∧ k < a) by omega), if_neg (show ¬ ((10 : Nat) = 10 ∧ k < d) by omega), if_neg (show ¬ ((10 : Nat) = 11 ∧ k < c) by omega)]
theorem sQ_11 (σ : sSt) {a b c d k : Nat} (h : k < c) : sQ σ a b c d 11 k = σ 11 k - 1 := by
  rw [sQ_eq, if_neg (show ¬ ((11 : Nat) = 0 ∧ k = 0) by omega), if_neg (show ¬ ((11 : Nat) = 7 ∧ k < a) by omega), if_neg (show ¬ ((11 : Nat) = 10 ∧ k < d) by omega), if_pos ⟨rfl, h⟩]
theorem sQ_11n (σ : sSt) {a b c d k : Nat} (h : ¬ k < c) : sQ σ a b c d 11 k = σ 11 k := by
  rw [sQ_eq, if_neg (show ¬ ((11 : Nat) = 0 ∧ k = 0) by omega), if_neg (show ¬ ((11 : Nat) = 7 ∧ k < a) by omega), if_neg (show ¬ ((11 : Nat) = 10 ∧ k < d) by omega), if_neg (show ¬ ((11 : Nat) = 11 ∧ k < c) by omega)]
/-- one place is another -/
theorem sQ_st (σ : sSt) {a b c d a2 b2 c2 d2 f k : Nat} (h0 : f = 0 → k = 0 → b2 = b) (h7 : f = 7 → (k < a2 ↔ k < a)) (h10 : f = 10 → (k < d2 ↔ k < d)) (h11 : f = 11 → (k < c2 ↔ k < c)) : sQ σ a2 b2 c2 d2 f k = sQ σ a b c d f k := by
  rw [sQ_eq, sQ_eq]
  by_cases e0 : f = 0 ∧ k = 0
  · rw [if_pos e0, if_pos e0, h0 e0.1 e0.2]
  rw [if_neg e0, if_neg e0]
  have e7 : (f = 7 ∧ k < a2) ↔ (f = 7 ∧ k < a) := and_congr_right h7
  have e10 : (f = 10 ∧ k < d2) ↔ (f = 10 ∧ k < d) := and_congr_right h10
  have e11 : (f = 11 ∧ k < c2) ↔ (f = 11 ∧ k < c) := and_congr_right h11
  simp only [e7, e10, e11]
theorem sOk_sQ {σ : sSt} (hO : sOk σ) {a b c d : Nat} (h : σ 0 0 + b ≤ 52000) : sOk (sQ σ a b c d) := by
  obtain ⟨o1, o2, o3, o4, o5, o6, o7⟩ := id hO
  have n : ∀ f k, f ≠ 0 ∧ f ≠ 7 ∧ f ≠ 10 ∧ f ≠ 11 → sQ σ a b c d f k = σ f k := fun f k h => sQ_o σ h
  refine ⟨?_, ?_, ?_, ?_, ?_, ?_, ?_⟩
  · rw [n 3 0 (by omega)]; exact o1
  · rw [n 4 0 (by omega)]; exact o2
  · intro i hi
    rw [n 3 0 (by omega)] at hi
    rw [n 5 i (by omega), n 6 i (by omega)]
    have h1 := o3 i hi
    refine ⟨h1.1, h1.2.1, h1.2.2.1, ?_⟩
    by_cases z : i < a
    · rw [sQ_7 σ z]; exact dIn_le σ i 1
    · rw [sQ_7n σ z]; exact h1.2.2.2
  · intro j hj
    rw [n 4 0 (by omega)] at hj
    rw [n 3 0 (by omega), n 8 j (by omega), n 9 j (by omega), n 12 j (by omega), n 13 j (by omega)]
    have h1 := o4 j hj
    have h2 := bIn_le (j := j) (k := 1) h1.2.2.1
    have h3 : sQ σ a b c d 10 j ≤ 12 := by
      by_cases z : j < d
      · rw [sQ_10 σ z]; exact h2
      · rw [sQ_10n σ z]; exact h1.2.2.1
    have h4 : sQ σ a b c d 11 j ≤ 48 := by
      by_cases z : j < c
      · rw [sQ_11 σ z]; omega
      · rw [sQ_11n σ z]; omega
    exact ⟨h1.1, h1.2.1, h3, h4, h1.2.2.2.2.1, h1.2.2.2.2.2⟩
  · intro j hj
    rw [n 4 0 (by omega)] at hj
    have h1 := o5 j hj
    refine ⟨?_, by rw [n 12 j (by omega)]; exact h1.2⟩
    by_cases z : j < c
    · rw [sQ_11 σ z]; omega
    · rw [sQ_11n σ z]; exact h1.1
  · rw [sQ_00]; exact h
  · rw [n 1 0 (by omega), n 2 0 (by omega)]; exact o7

set_option maxHeartbeats 4000000 in
set_option maxRecDepth 100000 in
/-- an hour -/
theorem c_X3_pass (l : Launch) (g : wG) (μ : wMu) (zz : Nat) {Ω σ : sSt} {τ : Nat → Nat} (hS : sD g Ω τ σ μ) (hO : sOk σ) (h9 : σ 0 0 < 52000) : wMet l yX3_pass cX3_pass 7 (some .int) 1 0 0 21 g [.ref (Ω 0 0)] μ zz (fun r μ' => r = some (.int (nI (sFal σ 1 (σ 3 0)))) ∧ sD g Ω τ (nPas σ 1) μ') := by
  refine wMet.of (by decide) (Nat.le_of_ble_eq_true rfl) ?_
  intro p e s m below meth c ls hx hb hr hml hown hlocks hin hl hsz hX
  have hl : lv_has ls 7 [(0, .ref (Ω 0 0))] := hl
  obtain ⟨s1, ⟨fw, s2, s2'⟩, ⟨fc, s3, s3'⟩, s4, s5, s6, s7⟩ := id hS
  obtain ⟨o1, o2, o3, o4, o5, o6, o7⟩ := id hO
  refine lv_iconst (v := nI 0) hx hb dX3_pass_0 (by decide) ?_
  refine lv_istore_n (lv' := [(1, .int (nI 0)), (0, .ref (Ω 0 0))]) hx hb dX3_pass_1 rfl hl (by decide) rfl (fun ls hl => ?_)
  refine lv_aload_n hx hb dX3_pass_2 rfl (lv_at hl 1 rfl) ?_
  refine gX3_0 hx hb hX hown s1 kw627 dX3_pass_3 ?_
  refine lv_astore_n (lv' := [(2, .ref (Ω 1 0)), (1, .int (nI 0)), (0, .ref (Ω 0 0))]) hx hb dX3_pass_6 rfl hl (by decide) rfl (fun ls hl => ?_)
  refine lv_aload_n hx hb dX3_pass_7 rfl (lv_at hl 0 rfl) ?_
  refine n_alenR hx hb hX s2 dX3_pass_8 ?_
  refine lv_istore_n (lv' := [(3, .int (nI (σ 3 0))), (2, .ref (Ω 1 0)), (1, .int (nI 0)), (0, .ref (Ω 0 0))]) hx hb dX3_pass_9 rfl hl (by decide) rfl (fun ls hl => ?_)
  refine lv_iconst (v := nI 0) hx hb dX3_pass_10 (by decide) ?_
  refine lv_istore (lv' := [(4, .int (nI 0)), (3, .int (nI (σ 3 0))), (2, .ref (Ω 1 0)), (1, .int (nI 0)), (0, .ref (Ω 0 0))]) hx hb dX3_pass_11 hl (by decide) rfl (fun ls hl => ?_)
  have hloop : ∀ (n : Nat) (i : Nat) (ρ : sSt) (ν : wMu) (H : Heap) (locs : List Loc) (ls : Array Slot), σ 3 0 < i + n → i ≤ σ 3 0 → ρ = sQ σ i 0 0 0 → sD g Ω τ ρ ν → wX g (wA μ zz) s H locs ν → lv_has ls 7 [(4, .int (nI i)), (3, .int (nI (σ 3 0))), (2, .ref (Ω 1 0)), (1, .int (nI (sFal σ 1 i))), (0, .ref (Ω 0 0))] → W p l e ({ frames := 1, cells := 0, slots := 0, locals := 21 } : Room) s m ([.ref (Ω 0 0)] : List Value).toArray below meth c H locs 0 0 (MQ below (wQc g μ zz (fun r μ' => r = some (.int (nI (sFal σ 1 (σ 3 0)))) ∧ sD g Ω τ (nPas σ 1) μ')) ([.ref (Ω 0 0)] : List Value).toArray s 0 0 (wA μ zz)) (F0 m 13 ls []) := by
    intro n
    induction n with
    | zero => intro i ρ ν H locs ls hn hi hρ hS hX hl; exact absurd hn (by omega)
    | succ n ih =>
      intro i ρ ν H locs ls hn hi hρ hS hX hl
      obtain ⟨s1, ⟨fw, s2, s2'⟩, ⟨fc, s3, s3'⟩, s4, s5, s6, s7⟩ := id hS
      have t3z_ : ρ 3 0 = σ 3 0 := by rw [hρ]; exact sQ_o σ (by omega)
      have t4z_ : ρ 4 0 = σ 4 0 := by rw [hρ]; exact sQ_o σ (by omega)
      refine lv_iload hx hb dX3_pass_13 (lv_at hl 0 rfl) ?_
      refine lv_iload_n hx hb dX3_pass_15 rfl (lv_at hl 1 rfl) ?_
      refine n_ge (tgt := 71) hx hb (by omega) (by omega) dX3_pass_16 (by decide) (fun c_1 => ?_) (fun c_1 => ?_)
      · skip
        refine lv_aload_n hx hb dX3_pass_71 rfl (lv_at hl 4 rfl) ?_
        refine gX3_1 hx hb hX hown s1 kw629 dX3_pass_72 ?_
        refine lv_astore_n (lv' := [(2, .ref (Ω 2 0)), (4, .int (nI i)), (3, .int (nI (σ 3 0))), (1, .int (nI (sFal σ 1 i))), (0, .ref (Ω 0 0))]) hx hb dX3_pass_75 rfl hl (by decide) rfl (fun ls hl => ?_)
        refine lv_aload_n hx hb dX3_pass_76 rfl (lv_at hl 0 rfl) ?_
        refine n_alenR hx hb hX s3 dX3_pass_77 ?_
        refine lv_istore_n (lv' := [(3, .int (nI (ρ 4 0))), (2, .ref (Ω 2 0)), (4, .int (nI i)), (1, .int (nI (sFal σ 1 i))), (0, .ref (Ω 0 0))]) hx hb dX3_pass_78 rfl hl (by decide) rfl (fun ls hl => ?_)
        refine lv_iconst (v := nI 0) hx hb dX3_pass_79 (by decide) ?_
        refine lv_istore (lv' := [(4, .int (nI 0)), (3, .int (nI (ρ 4 0))), (2, .ref (Ω 2 0)), (1, .int (nI (sFal σ 1 i))), (0, .ref (Ω 0 0))]) hx hb dX3_pass_80 hl (by decide) rfl (fun ls hl => ?_)
        obtain rfl : i = σ 3 0 := by omega
        have hloop3 : ∀ (n : Nat) (j : Nat) (ρ : sSt) (ν : wMu) (H : Heap) (locs : List Loc) (ls : Array Slot), σ 4 0 < j + n → j ≤ σ 4 0 → ρ = sQ σ (σ 3 0) 0 j 0 → sD g Ω τ ρ ν → wX g (wA μ zz) s H locs ν → lv_has ls 7 [(4, .int (nI j)), (3, .int (nI (σ 4 0))), (2, .ref (Ω 2 0)), (1, .int (nI (sFal σ 1 (σ 3 0)))), (0, .ref (Ω 0 0))] → W p l e ({ frames := 1, cells := 0, slots := 0, locals := 21 } : Room) s m ([.ref (Ω 0 0)] : List Value).toArray below meth c H locs 0 0 (MQ below (wQc g μ zz (fun r μ' => r = some (.int (nI (sFal σ 1 (σ 3 0)))) ∧ sD g Ω τ (nPas σ 1) μ')) ([.ref (Ω 0 0)] : List Value).toArray s 0 0 (wA μ zz)) (F0 m 82 ls []) := by
          intro n
          induction n with
          | zero => intro j ρ ν H locs ls hn hj hρ hS hX hl; exact absurd hn (by omega)
          | succ n ih =>
            intro j ρ ν H locs ls hn hj hρ hS hX hl
            obtain ⟨s1, ⟨fw, s2, s2'⟩, ⟨fc, s3, s3'⟩, s4, s5, s6, s7⟩ := id hS
            have t3z_ : ρ 3 0 = σ 3 0 := by rw [hρ]; exact sQ_o σ (by omega)
            have t4z_ : ρ 4 0 = σ 4 0 := by rw [hρ]; exact sQ_o σ (by omega)
            refine lv_iload hx hb dX3_pass_82 (lv_at hl 0 rfl) ?_
            refine lv_iload_n hx hb dX3_pass_84 rfl (lv_at hl 1 rfl) ?_
            refine n_ge (tgt := 115) hx hb (by omega) (by omega) dX3_pass_85 (by decide) (fun c_2 => ?_) (fun c_2 => ?_)
            · skip
              have t0z_ : ρ 0 0 = σ 0 0 := by rw [hρ]; exact (sQ_00 σ _ _ _ _).trans (Nat.add_zero _)
              refine lv_aload_n hx hb dX3_pass_115 rfl (lv_at hl 4 rfl) ?_
              refine lv_dup hx hb dX3_pass_116 rfl ?_
              refine gX3_2 hx hb hX hown s1 kw631 dX3_pass_117 ?_
              refine lv_iconst (v := nI 1) hx hb dX3_pass_120 (by decide) ?_
              refine n_iadd hx hb dX3_pass_121 (nI_add _ _) ?_
              refine pX3_2 hx hb hX hown s1 kw631 dX3_pass_122 (fun H locs hX => ?_)
              obtain ⟨μ_3, e_4⟩ : ∃ z, z = va_up ν (Ω 0 0) (some (.inr (4, [.ref (Ω 1 0), .ref (Ω 2 0), .int (nI ((ρ 0 0) + 1)), .int (nI (ρ 1 0)), .int (nI (ρ 2 0))]))) := ⟨_, rfl⟩
              rw [← e_4] at hX
              have k_5 : μ_3 (Ω 0 0) = some (.inr (4, [.ref (Ω 1 0), .ref (Ω 2 0), .int (nI ((ρ 0 0) + 1)), .int (nI (ρ 1 0)), .int (nI (ρ 2 0))])) := by rw [e_4]; exact va_up_self _ _ _
              have k_6 := (congrFun e_4 (Ω 1 0)).trans ((va_up_ne _ _ (kd_ne s2 s1 rfl)).trans s2)
              have k_7 := (congrFun e_4 (Ω 2 0)).trans ((va_up_ne _ _ (kd_ne s3 s1 rfl)).trans s3)
              refine lv_iconst (v := nI 0) hx hb dX3_pass_125 (by decide) ?_
              refine lv_istore_n (lv' := [(2, .int (nI 0)), (4, .int (nI j)), (3, .int (nI (σ 4 0))), (1, .int (nI (sFal σ 1 (σ 3 0)))), (0, .ref (Ω 0 0))]) hx hb dX3_pass_126 rfl hl (by decide) rfl (fun ls hl => ?_)
              obtain rfl : j = σ 4 0 := by omega
              have hS2 : sD g Ω τ (sQ σ (σ 3 0) 1 (σ 4 0) 0) μ_3 := by
                refine hS.x1 ?_ (fun q hn => by rw [e_4, va_up_ne _ _ hn]) (fun f k h => by rw [hρ]; exact sQ_st σ (fun a b => absurd ⟨show f ≤ 2 by omega, b⟩ h) (fun z => Iff.rfl) (fun z => Iff.rfl) (fun z => Iff.rfl))
                rw [k_5, t0z_, hρ]; simp only [sS, sQ_00]; rfl
              have hloop4 : ∀ (n : Nat) (j : Nat) (ρ : sSt) (ν : wMu) (H : Heap) (locs : List Loc) (ls : Array Slot), σ 4 0 < j + n → j ≤ σ 4 0 → ρ = sQ σ (σ 3 0) 1 (σ 4 0) j → sD g Ω τ ρ ν → wX g (wA μ zz) s H locs ν → lv_has ls 7 [(2, .int (nI j)), (1, .int (nI (sFal σ 1 (σ 3 0)))), (0, .ref (Ω 0 0))] → W p l e ({ frames := 1, cells := 0, slots := 0, locals := 21 } : Room) s m ([.ref (Ω 0 0)] : List Value).toArray below meth c H locs 0 0 (MQ below (wQc g μ zz (fun r μ' => r = some (.int (nI (sFal σ 1 (σ 3 0)))) ∧ sD g Ω τ (nPas σ 1) μ')) ([.ref (Ω 0 0)] : List Value).toArray s 0 0 (wA μ zz)) (F0 m 127 ls []) := by
                intro n
                induction n with
                | zero => intro j ρ ν H locs ls hn hj hρ hS hX hl; exact absurd hn (by omega)
                | succ n ih =>
                  intro j ρ ν H locs ls hn hj hρ hS hX hl
                  obtain ⟨s1, ⟨fw, s2, s2'⟩, ⟨fc, s3, s3'⟩, s4, s5, s6, s7⟩ := id hS
                  have t3z_ : ρ 3 0 = σ 3 0 := by rw [hρ]; exact sQ_o σ (by omega)
                  have t4z_ : ρ 4 0 = σ 4 0 := by rw [hρ]; exact sQ_o σ (by omega)
                  have t0z_ : ρ 0 0 = σ 0 0 + 1 := by rw [hρ]; exact sQ_00 σ _ _ _ _
                  have hO2 : sOk ρ := by rw [hρ]; exact sOk_sQ hO (by omega)
                  refine lv_iload_n hx hb dX3_pass_127 rfl (lv_at hl 0 rfl) ?_
                  refine lv_aload_n hx hb dX3_pass_128 rfl (lv_at hl 2 rfl) ?_
                  refine gX3_1 hx hb hX hown s1 kw629 dX3_pass_129 ?_
                  refine n_alenR hx hb hX s3 dX3_pass_132 ?_
                  refine n_ge (tgt := 174) hx hb (by omega) (by omega) dX3_pass_133 (by decide) (fun c_8 => ?_) (fun c_8 => ?_)
                  · skip
                    refine lv_iload_n hx hb dX3_pass_174 rfl (lv_at hl 1 rfl) ?_
                    obtain rfl : j = σ 4 0 := by omega
                    rw [hρ, sQ_end] at hS
                    exact w_iret hx hb hr hlocks hX ⟨rfl, hS⟩ ⟨Nat.le_of_ble_eq_true rfl, Nat.le_of_ble_eq_true rfl⟩ dX3_pass_175
                  · skip
                    have ojb := o4 j (by omega)
                    have t8_ : ρ 8 j = σ 8 j := by rw [hρ]; exact sQ_o σ (by omega)
                    have t9_ : ρ 9 j = σ 9 j := by rw [hρ]; exact sQ_o σ (by omega)
                    have t12_ : ρ 12 j = σ 12 j := by rw [hρ]; exact sQ_o σ (by omega)
                    have t10_ : ρ 10 j = σ 10 j := by rw [hρ]; exact sQ_10n σ (by omega)
                    have t11_ : ρ 11 j = σ 11 j - 1 := by rw [hρ]; exact sQ_11 σ (by omega)
                    have hbs := bIn_s σ j 0
                    rw [bIn_0, Nat.add_zero] at hbs
                    refine lv_aload_n hx hb dX3_pass_136 rfl (lv_at hl 2 rfl) ?_
                    refine gX3_2 hx hb hX hown s1 kw631 dX3_pass_137 ?_
                    refine lv_bipush (v := nI 24) hx hb dX3_pass_140 (by decide) ?_
                    refine n_irem hx hb dX3_pass_142 (by decide) (pk_rem (by omega) (by decide) (by decide)) ?_
                    refine n_if_ne (tgt := 168) hx hb (by omega) dX3_pass_143 (by decide) (fun c_9 => ?_) (fun c_9 => ?_)
                    · skip
                      refine lv_iinc (v := nI (j + 1)) (lv' := [(2, .int (nI (j + 1))), (1, .int (nI (sFal σ 1 (σ 3 0)))), (0, .ref (Ω 0 0))]) hx hb dX3_pass_168 hl (k := 0) rfl (nI_inc _) (by decide) rfl (fun ls hl => ?_)
                      refine lv_goto (tgt := 127) hx hb dX3_pass_171 (by decide) ?_
                      obtain ⟨h_11, kr_10, r_12⟩ := s5 j (by omega)
                      have hS2 : sD g Ω τ (sQ σ (σ 3 0) 1 (σ 4 0) (j + 1)) ν := by
                        refine hS.c1 (j := j) (by omega) kr_10 ?_ (fun q _ => rfl) (fun f k h => by rw [hρ]; exact sQ_st σ (fun _ _ => rfl) (fun z => by omega) (fun z => by omega) (fun z => by omega)) (fun _ _ => rfl)
                        show rC _ _ _ _ _ _ _
                        have hv9 : bIn σ j 1 = ρ 10 j := by rw [← hbs]; unfold bstH; rw [if_neg (by omega)]; exact t10_.symm
                        rw [sQ_o σ (show (8 : Nat) ≠ 0 ∧ _ by omega), sQ_o σ (show (9 : Nat) ≠ 0 ∧ _ by omega), sQ_o σ (show (12 : Nat) ≠ 0 ∧ _ by omega), sQ_10 σ (Nat.lt_succ_self j), sQ_11 σ (show j < σ 4 0 by omega), hv9, ← t8_, ← t9_, ← t11_, ← t12_]
                        exact r_12
                      refine ih (j + 1) _ _ H locs ls (by omega) (by omega) rfl hS2 hX ?_
                      exact lv_sub hl [0, 1, 2] rfl
                    · skip
                      refine lv_aload_n hx hb dX3_pass_146 rfl (lv_at hl 2 rfl) ?_
                      refine gX3_1 hx hb hX hown s1 kw629 dX3_pass_147 ?_
                      refine lv_iload_n hx hb dX3_pass_150 rfl (lv_at hl 0 rfl) ?_
                      refine n_aaldRv hx hb hX s3 (by omega) (by omega) dX3_pass_151 (s3' j (by omega)) ?_
                      obtain ⟨h_14, kr_13, r_15⟩ := s5 j (by omega)
                      refine lv_iconst (v := nI 2) hx hb dX3_pass_152 (by decide) ?_
                      refine lv_aload_n hx hb dX3_pass_153 rfl (lv_at hl 2 rfl) ?_
                      refine lv_iload_n hx hb dX3_pass_154 rfl (lv_at hl 0 rfl) ?_
                      refine w_call (w_runV (n := 1) (As := [.int (nI j)]) (rest := [.int (nI 2), .ref (Ω 4 j)]) hx hb hml hown hX (c_X3_isBirthday l g ν H.size hS hO2 (by omega)) kw470 kw7 kw467 kw468 kw469 wn_X3_isBirthday rfl s1 rfl ⟨Nat.le_of_ble_eq_true rfl, Nat.le_of_ble_eq_true rfl⟩ hl.1 rfl (Nat.le_of_ble_eq_true rfl) dX3_pass_155 ⟨Nat.le_of_ble_eq_true rfl, Nat.le_of_ble_eq_true rfl⟩) hX (fun r_18 μ_16 H locs q_17 hX hz => ?_)
                      obtain ⟨q_20, e_19⟩ := q_17
                      rw [e_19] at hX
                      obtain ⟨rfl, hp⟩ | ⟨rfl, hp⟩ := q_20
                      · skip
                        refine W.eq (g2 := F0 m 158 ls [.int (nI 1), .int (nI 2), .ref (Ω 4 j)]) rfl ?_
                        refine n_if_eq (tgt := 166) hx hb (by omega) dX3_pass_158 (by decide) (fun h => absurd h (by omega)) (fun _ => ?_)
                        refine lv_bipush (v := nI 12) hx hb dX3_pass_161 (by decide) ?_
                        refine lv_goto (tgt := 167) hx hb dX3_pass_163 (by decide) ?_
                        refine n_iast hx hb hX kr_13 (by omega) (by omega) dX3_pass_167 (fun H locs hX => ?_)
                        obtain ⟨h_21, eh_22⟩ : ∃ z, z = upd h_14 2 (nI 12) := ⟨_, rfl⟩
                        rw [← eh_22] at hX
                        have r_23 : rC (ρ 8 j) (ρ 9 j) 12 (ρ 11 j) (ρ 12 j) (τ j) h_21 := by rw [eh_22]; exact r_15.s2 _
                        obtain ⟨μ_24, e_25⟩ : ∃ z, z = va_up ν (Ω 4 j) (some (sR g 6 h_21)) := ⟨_, rfl⟩
                        rw [← e_25] at hX
                        have k_26 : μ_24 (Ω 4 j) = some (sR g 6 h_21) := by rw [e_25]; exact va_up_self _ _ _
                        have k_27 := (congrFun e_25 (Ω 0 0)).trans ((va_up_ne _ _ (kd_ne s1 kr_13 rfl)).trans s1)
                        have k_28 := (congrFun e_25 (Ω 1 0)).trans ((va_up_ne _ _ (kd_ne s2 kr_13 rfl)).trans s2)
                        have k_29 := (congrFun e_25 (Ω 2 0)).trans ((va_up_ne _ _ (kd_ne s3 kr_13 rfl)).trans s3)
                        refine lv_iinc (v := nI (j + 1)) (lv' := [(2, .int (nI (j + 1))), (1, .int (nI (sFal σ 1 (σ 3 0)))), (0, .ref (Ω 0 0))]) hx hb dX3_pass_168 hl (k := 0) rfl (nI_inc _) (by decide) rfl (fun ls hl => ?_)
                        refine lv_goto (tgt := 127) hx hb dX3_pass_171 (by decide) ?_
                        have hS2 : sD g Ω τ (sQ σ (σ 3 0) 1 (σ 4 0) (j + 1)) μ_24 := by
                          refine hS.c1 (j := j) (by omega) k_26 ?_ (fun q hn => by rw [e_25, va_up_ne _ _ hn]) (fun f k h => by rw [hρ]; exact sQ_st σ (fun _ _ => rfl) (fun z => by omega) (fun z => by omega) (fun z => by omega)) (fun _ _ => rfl)
                          show rC _ _ _ _ _ _ _
                          have hv9 : bIn σ j 1 = 12 := by rw [← hbs]; unfold bstH bstD; rw [if_pos (by omega), if_pos (by omega)]
                          rw [sQ_o σ (show (8 : Nat) ≠ 0 ∧ _ by omega), sQ_o σ (show (9 : Nat) ≠ 0 ∧ _ by omega), sQ_o σ (show (12 : Nat) ≠ 0 ∧ _ by omega), sQ_10 σ (Nat.lt_succ_self j), sQ_11 σ (show j < σ 4 0 by omega), hv9, ← t8_, ← t9_, ← t11_, ← t12_]
                          exact r_23
                        refine ih (j + 1) _ _ H locs ls (by omega) (by omega) rfl hS2 hX ?_
                        exact lv_sub hl [0, 1, 2] rfl
                      · skip
                        refine W.eq (g2 := F0 m 158 ls [.int (nI 0), .int (nI 2), .ref (Ω 4 j)]) rfl ?_
                        refine n_if_eq (tgt := 166) hx hb (by omega) dX3_pass_158 (by decide) (fun _ => ?_) (fun h => absurd h (by omega))
                        refine lv_iconst (v := nI 0) hx hb dX3_pass_166 (by decide) ?_
                        refine n_iast hx hb hX kr_13 (by omega) (by omega) dX3_pass_167 (fun H locs hX => ?_)
                        obtain ⟨h_30, eh_31⟩ : ∃ z, z = upd h_14 2 (nI 0) := ⟨_, rfl⟩
                        rw [← eh_31] at hX
                        have r_32 : rC (ρ 8 j) (ρ 9 j) 0 (ρ 11 j) (ρ 12 j) (τ j) h_30 := by rw [eh_31]; exact r_15.s2 _
                        obtain ⟨μ_33, e_34⟩ : ∃ z, z = va_up ν (Ω 4 j) (some (sR g 6 h_30)) := ⟨_, rfl⟩
                        rw [← e_34] at hX
                        have k_35 : μ_33 (Ω 4 j) = some (sR g 6 h_30) := by rw [e_34]; exact va_up_self _ _ _
                        have k_36 := (congrFun e_34 (Ω 0 0)).trans ((va_up_ne _ _ (kd_ne s1 kr_13 rfl)).trans s1)
                        have k_37 := (congrFun e_34 (Ω 1 0)).trans ((va_up_ne _ _ (kd_ne s2 kr_13 rfl)).trans s2)
                        have k_38 := (congrFun e_34 (Ω 2 0)).trans ((va_up_ne _ _ (kd_ne s3 kr_13 rfl)).trans s3)
                        refine lv_iinc (v := nI (j + 1)) (lv' := [(2, .int (nI (j + 1))), (1, .int (nI (sFal σ 1 (σ 3 0)))), (0, .ref (Ω 0 0))]) hx hb dX3_pass_168 hl (k := 0) rfl (nI_inc _) (by decide) rfl (fun ls hl => ?_)
                        refine lv_goto (tgt := 127) hx hb dX3_pass_171 (by decide) ?_
                        have hS2 : sD g Ω τ (sQ σ (σ 3 0) 1 (σ 4 0) (j + 1)) μ_33 := by
                          refine hS.c1 (j := j) (by omega) k_35 ?_ (fun q hn => by rw [e_34, va_up_ne _ _ hn]) (fun f k h => by rw [hρ]; exact sQ_st σ (fun _ _ => rfl) (fun z => by omega) (fun z => by omega) (fun z => by omega)) (fun _ _ => rfl)
                          show rC _ _ _ _ _ _ _
                          have hv9 : bIn σ j 1 = 0 := by rw [← hbs]; unfold bstH bstD; rw [if_pos (by omega), if_neg (by omega)]
                          rw [sQ_o σ (show (8 : Nat) ≠ 0 ∧ _ by omega), sQ_o σ (show (9 : Nat) ≠ 0 ∧ _ by omega), sQ_o σ (show (12 : Nat) ≠ 0 ∧ _ by omega), sQ_10 σ (Nat.lt_succ_self j), sQ_11 σ (show j < σ 4 0 by omega), hv9, ← t8_, ← t9_, ← t11_, ← t12_]
                          exact r_32
                        refine ih (j + 1) _ _ H locs ls (by omega) (by omega) rfl hS2 hX ?_
                        exact lv_sub hl [0, 1, 2] rfl
              exact hloop4 (σ 4 0 + 1) 0 _ μ_3 H _ _ (by omega) (by omega) rfl hS2 hX (lv_sub hl [0, 3, 4] rfl)
            · skip
              refine lv_aload_n hx hb dX3_pass_88 rfl (lv_at hl 2 rfl) ?_
              refine lv_iload hx hb dX3_pass_89 (lv_at hl 0 rfl) ?_
              have ojb := o4 j (by omega)
              have t8_ : ρ 8 j = σ 8 j := by rw [hρ]; exact sQ_o σ (by omega)
              have t9_ : ρ 9 j = σ 9 j := by rw [hρ]; exact sQ_o σ (by omega)
              have t12_ : ρ 12 j = σ 12 j := by rw [hρ]; exact sQ_o σ (by omega)
              have t10_ : ρ 10 j = σ 10 j := by rw [hρ]; exact sQ_10n σ (by omega)
              have t11_ : ρ 11 j = σ 11 j := by rw [hρ]; exact sQ_11n σ (by omega)
              refine n_aaldRv hx hb hX s3 (by omega) (by omega) dX3_pass_91 (s3' j (by omega)) ?_
              obtain ⟨h_40, kr_39, r_41⟩ := s5 j (by omega)
              refine lv_astore (lv' := [(5, .ref (Ω 4 j)), (4, .int (nI j)), (3, .int (nI (σ 4 0))), (2, .ref (Ω 2 0)), (1, .int (nI (sFal σ 1 (σ 3 0)))), (0, .ref (Ω 0 0))]) hx hb dX3_pass_92 hl (by decide) rfl (fun ls hl => ?_)
              refine lv_aload hx hb dX3_pass_94 (lv_at hl 0 rfl) ?_
              refine lv_iconst (v := nI 3) hx hb dX3_pass_96 (by decide) ?_
              refine n_ialdv hx hb hX kr_39 (by omega) (by omega) dX3_pass_97 r_41.2.2.2.1 ?_
              refine n_if_le (tgt := 109) hx hb (by omega) dX3_pass_98 (by decide) (fun c_42 => ?_) (fun c_42 => ?_)
              · skip
                refine lv_iinc (v := nI (j + 1)) (lv' := [(4, .int (nI (j + 1))), (5, .ref (Ω 4 j)), (3, .int (nI (σ 4 0))), (2, .ref (Ω 2 0)), (1, .int (nI (sFal σ 1 (σ 3 0)))), (0, .ref (Ω 0 0))]) hx hb dX3_pass_109 hl (k := 1) rfl (nI_inc _) (by decide) rfl (fun ls hl => ?_)
                refine lv_goto (tgt := 82) hx hb dX3_pass_112 (by decide) ?_
                have hS2 : sD g Ω τ (sQ σ (σ 3 0) 0 (j + 1) 0) ν := by
                  refine hS.c1 (j := j) (by omega) kr_39 ?_ (fun q _ => rfl) (fun f k h => by rw [hρ]; exact sQ_st σ (fun _ _ => rfl) (fun z => by omega) (fun z => by omega) (fun z => by omega)) (fun _ _ => rfl)
                  show rC _ _ _ _ _ _ _
                  rw [sQ_o σ (show (8 : Nat) ≠ 0 ∧ _ by omega), sQ_o σ (show (9 : Nat) ≠ 0 ∧ _ by omega), sQ_o σ (show (12 : Nat) ≠ 0 ∧ _ by omega), sQ_10n σ (Nat.not_lt_zero j), sQ_11 σ (Nat.lt_succ_self j), show σ 11 j - 1 = ρ 11 j by omega, ← t8_, ← t9_, ← t10_, ← t12_]
                  exact r_41
                refine ih (j + 1) _ _ H locs ls (by omega) (by omega) rfl hS2 hX ?_
                exact lv_sub hl [0, 2, 3, 4, 5] rfl
              · skip
                refine lv_aload hx hb dX3_pass_101 (lv_at hl 0 rfl) ?_
                refine lv_iconst (v := nI 3) hx hb dX3_pass_103 (by decide) ?_
                refine lv_dup2_11 hx hb dX3_pass_104 rfl rfl ?_
                refine n_ialdv hx hb hX kr_39 (by omega) (by omega) dX3_pass_105 r_41.2.2.2.1 ?_
                refine lv_iconst (v := nI 1) hx hb dX3_pass_106 (by decide) ?_
                refine n_isub hx hb dX3_pass_107 (pk_sub (by omega)) ?_
                refine n_iast hx hb hX kr_39 (by omega) (by omega) dX3_pass_108 (fun H locs hX => ?_)
                obtain ⟨h_43, eh_44⟩ : ∃ z, z = upd h_40 3 (nI ((ρ 11 j) - 1)) := ⟨_, rfl⟩
                rw [← eh_44] at hX
                have r_45 : rC (ρ 8 j) (ρ 9 j) (ρ 10 j) ((ρ 11 j) - 1) (ρ 12 j) (τ j) h_43 := by rw [eh_44]; exact r_41.s3 _
                obtain ⟨μ_46, e_47⟩ : ∃ z, z = va_up ν (Ω 4 j) (some (sR g 6 h_43)) := ⟨_, rfl⟩
                rw [← e_47] at hX
                have k_48 : μ_46 (Ω 4 j) = some (sR g 6 h_43) := by rw [e_47]; exact va_up_self _ _ _
                have k_49 := (congrFun e_47 (Ω 0 0)).trans ((va_up_ne _ _ (kd_ne s1 kr_39 rfl)).trans s1)
                have k_50 := (congrFun e_47 (Ω 1 0)).trans ((va_up_ne _ _ (kd_ne s2 kr_39 rfl)).trans s2)
                have k_51 := (congrFun e_47 (Ω 2 0)).trans ((va_up_ne _ _ (kd_ne s3 kr_39 rfl)).trans s3)
                refine lv_iinc (v := nI (j + 1)) (lv' := [(4, .int (nI (j + 1))), (5, .ref (Ω 4 j)), (3, .int (nI (σ 4 0))), (2, .ref (Ω 2 0)), (1, .int (nI (sFal σ 1 (σ 3 0)))), (0, .ref (Ω 0 0))]) hx hb dX3_pass_109 hl (k := 1) rfl (nI_inc _) (by decide) rfl (fun ls hl => ?_)
                refine lv_goto (tgt := 82) hx hb dX3_pass_112 (by decide) ?_
                have hS2 : sD g Ω τ (sQ σ (σ 3 0) 0 (j + 1) 0) μ_46 := by
                  refine hS.c1 (j := j) (by omega) k_48 ?_ (fun q hn => by rw [e_47, va_up_ne _ _ hn]) (fun f k h => by rw [hρ]; exact sQ_st σ (fun _ _ => rfl) (fun z => by omega) (fun z => by omega) (fun z => by omega)) (fun _ _ => rfl)
                  show rC _ _ _ _ _ _ _
                  rw [sQ_o σ (show (8 : Nat) ≠ 0 ∧ _ by omega), sQ_o σ (show (9 : Nat) ≠ 0 ∧ _ by omega), sQ_o σ (show (12 : Nat) ≠ 0 ∧ _ by omega), sQ_10n σ (Nat.not_lt_zero j), sQ_11 σ (Nat.lt_succ_self j), show σ 11 j - 1 = (ρ 11 j) - 1 by omega, ← t8_, ← t9_, ← t10_, ← t12_]
                  exact r_45
                refine ih (j + 1) _ _ H locs ls (by omega) (by omega) rfl hS2 hX ?_
                exact lv_sub hl [0, 2, 3, 4, 5] rfl
        exact hloop3 (σ 4 0 + 1) 0 _ ν H _ _ (by omega) (by omega) rfl (by rw [← hρ]; exact hS) hX (by rw [t4z_] at hl; exact hl)
      · skip
        refine lv_aload_n hx hb dX3_pass_19 rfl (lv_at hl 2 rfl) ?_
        refine lv_iload hx hb dX3_pass_20 (lv_at hl 0 rfl) ?_
        have oib := o3 i (by omega)
        have t5_ : ρ 5 i = σ 5 i := by rw [hρ]; exact sQ_o σ (by omega)
        have t6_ : ρ 6 i = σ 6 i := by rw [hρ]; exact sQ_o σ (by omega)
        have t7_ : ρ 7 i = σ 7 i := by rw [hρ]; exact sQ_7n σ (by omega)
        refine n_aaldRv hx hb hX s2 (by omega) (by omega) dX3_pass_22 (s2' i (by omega)) ?_
        obtain ⟨h_53, kr_52, r_54⟩ := s4 i (by omega)
        refine lv_astore (lv' := [(5, .ref (Ω 3 i)), (4, .int (nI i)), (3, .int (nI (σ 3 0))), (2, .ref (Ω 1 0)), (1, .int (nI (sFal σ 1 i))), (0, .ref (Ω 0 0))]) hx hb dX3_pass_23 hl (by decide) rfl (fun ls hl => ?_)
        refine lv_iconst (v := nI 0) hx hb dX3_pass_25 (by decide) ?_
        refine lv_istore (lv' := [(6, .int (nI 0)), (5, .ref (Ω 3 i)), (4, .int (nI i)), (3, .int (nI (σ 3 0))), (2, .ref (Ω 1 0)), (1, .int (nI (sFal σ 1 i))), (0, .ref (Ω 0 0))]) hx hb dX3_pass_26 hl (by decide) rfl (fun ls hl => ?_)
        have hloop2 : ∀ (n2 : Nat) (k : Nat) (h : Nat → Int32) (ν2 : wMu) (H : Heap) (locs : List Loc) (ls : Array Slot), ρ 6 i < k + n2 → k ≤ ρ 6 i → ρ 7 i + k ≤ ρ 5 i → rW (ρ 5 i) (ρ 6 i) (ρ 7 i + k) h → ν2 (Ω 3 i) = some (sR g 3 h) → (∀ q, q ≠ Ω 3 i → ν2 q = ν q) → wX g (wA μ zz) s H locs ν2 → lv_has ls 7 [(6, .int (nI k)), (5, .ref (Ω 3 i)), (4, .int (nI i)), (3, .int (nI (σ 3 0))), (2, .ref (Ω 1 0)), (1, .int (nI (sFal σ 1 i + k))), (0, .ref (Ω 0 0))] → W p l e ({ frames := 1, cells := 0, slots := 0, locals := 21 } : Room) s m ([.ref (Ω 0 0)] : List Value).toArray below meth c H locs 0 0 (MQ below (wQc g μ zz (fun r μ' => r = some (.int (nI (sFal σ 1 (σ 3 0)))) ∧ sD g Ω τ (nPas σ 1) μ')) ([.ref (Ω 0 0)] : List Value).toArray s 0 0 (wA μ zz)) (F0 m 28 ls []) := by
          intro n2
          induction n2 with
          | zero => intro k h ν2 H locs ls hn2 hk hkb hr hkr hfr hX hl; exact absurd hn2 (by omega)
          | succ n2 ih2 =>
            intro k h ν2 H locs ls hn2 hk hkb hr hkr hfr hX hl
            refine lv_iload hx hb dX3_pass_28 (lv_at hl 0 rfl) ?_
            refine lv_aload hx hb dX3_pass_30 (lv_at hl 1 rfl) ?_
            refine lv_iconst (v := nI 1) hx hb dX3_pass_32 (by decide) ?_
            refine n_ialdv hx hb hX hkr (by omega) (by omega) dX3_pass_33 hr.2.1 ?_
            refine n_ge (tgt := 65) hx hb (by omega) (by omega) dX3_pass_34 (by decide) (fun c_55 => ?_) (fun c_55 => ?_)
            · skip
              refine lv_iinc (v := nI (i + 1)) (lv' := [(4, .int (nI (i + 1))), (6, .int (nI k)), (5, .ref (Ω 3 i)), (3, .int (nI (σ 3 0))), (2, .ref (Ω 1 0)), (1, .int (nI (sFal σ 1 i + k))), (0, .ref (Ω 0 0))]) hx hb dX3_pass_65 hl (k := 2) rfl (nI_inc _) (by decide) rfl (fun ls hl => ?_)
              refine lv_goto (tgt := 13) hx hb dX3_pass_68 (by decide) ?_
              have hkk : k = min (σ 6 i) (σ 5 i - σ 7 i) := by omega
              have hdd : dIn σ i 1 = ρ 7 i + k := by unfold dIn; omega
              have hS2 : sD g Ω τ (sQ σ (i + 1) 0 0 0) ν2 := by
                refine hS.w1 (i := i) (by omega) hkr ?_ hfr (fun f k h => by rw [hρ]; exact sQ_st σ (fun _ _ => rfl) (fun z => by omega) (fun z => by omega) (fun z => by omega))
                show rW _ _ _ _
                rw [sQ_o σ (show (5 : Nat) ≠ 0 ∧ _ by omega), sQ_o σ (show (6 : Nat) ≠ 0 ∧ _ by omega), sQ_7 σ (Nat.lt_succ_self i), hdd, ← t5_, ← t6_]
                exact hr
              rw [show sFal σ 1 i + k = sFal σ 1 (i + 1) by simp only [sFal]; rw [hdd]; omega] at hl
              refine ih (i + 1) _ _ H locs ls (by omega) (by omega) rfl hS2 hX ?_
              exact lv_sub hl [0, 3, 4, 5, 6] rfl
            · skip
              refine lv_aload hx hb dX3_pass_37 (lv_at hl 1 rfl) ?_
              refine lv_iconst (v := nI 2) hx hb dX3_pass_39 (by decide) ?_
              refine n_ialdv hx hb hX hkr (by omega) (by omega) dX3_pass_40 hr.2.2 ?_
              refine lv_aload hx hb dX3_pass_41 (lv_at hl 1 rfl) ?_
              refine lv_iconst (v := nI 0) hx hb dX3_pass_43 (by decide) ?_
              refine n_ialdv hx hb hX hkr (by omega) (by omega) dX3_pass_44 hr.1 ?_
              refine n_ge (tgt := 65) hx hb (by omega) (by omega) dX3_pass_45 (by decide) (fun c_56 => ?_) (fun c_56 => ?_)
              · skip
                refine lv_iinc (v := nI (i + 1)) (lv' := [(4, .int (nI (i + 1))), (6, .int (nI k)), (5, .ref (Ω 3 i)), (3, .int (nI (σ 3 0))), (2, .ref (Ω 1 0)), (1, .int (nI (sFal σ 1 i + k))), (0, .ref (Ω 0 0))]) hx hb dX3_pass_65 hl (k := 2) rfl (nI_inc _) (by decide) rfl (fun ls hl => ?_)
                refine lv_goto (tgt := 13) hx hb dX3_pass_68 (by decide) ?_
                have hkk : k = min (σ 6 i) (σ 5 i - σ 7 i) := by omega
                have hdd : dIn σ i 1 = ρ 7 i + k := by unfold dIn; omega
                have hS2 : sD g Ω τ (sQ σ (i + 1) 0 0 0) ν2 := by
                  refine hS.w1 (i := i) (by omega) hkr ?_ hfr (fun f k h => by rw [hρ]; exact sQ_st σ (fun _ _ => rfl) (fun z => by omega) (fun z => by omega) (fun z => by omega))
                  show rW _ _ _ _
                  rw [sQ_o σ (show (5 : Nat) ≠ 0 ∧ _ by omega), sQ_o σ (show (6 : Nat) ≠ 0 ∧ _ by omega), sQ_7 σ (Nat.lt_succ_self i), hdd, ← t5_, ← t6_]
                  exact hr
                rw [show sFal σ 1 i + k = sFal σ 1 (i + 1) by simp only [sFal]; rw [hdd]; omega] at hl
                refine ih (i + 1) _ _ H locs ls (by omega) (by omega) rfl hS2 hX ?_
                exact lv_sub hl [0, 3, 4, 5, 6] rfl
              · skip
                refine lv_aload hx hb dX3_pass_48 (lv_at hl 1 rfl) ?_
                refine lv_iconst (v := nI 2) hx hb dX3_pass_50 (by decide) ?_
                refine lv_dup2_11 hx hb dX3_pass_51 rfl rfl ?_
                refine n_ialdv hx hb hX hkr (by omega) (by omega) dX3_pass_52 hr.2.2 ?_
                refine lv_iconst (v := nI 1) hx hb dX3_pass_53 (by decide) ?_
                refine n_iadd hx hb dX3_pass_54 (nI_add _ _) ?_
                refine n_iast hx hb hX hkr (by omega) (by omega) dX3_pass_55 (fun H locs hX => ?_)
                obtain ⟨h_57, eh_58⟩ : ∃ z, z = upd h 2 (nI ((ρ 7 i + k) + 1)) := ⟨_, rfl⟩
                rw [← eh_58] at hX
                have r_59 : rW (ρ 5 i) (ρ 6 i) ((ρ 7 i + k) + 1) h_57 := by rw [eh_58]; exact hr.s2 _
                obtain ⟨μ_60, e_61⟩ : ∃ z, z = va_up ν2 (Ω 3 i) (some (sR g 3 h_57)) := ⟨_, rfl⟩
                rw [← e_61] at hX
                have k_62 : μ_60 (Ω 3 i) = some (sR g 3 h_57) := by rw [e_61]; exact va_up_self _ _ _
                refine lv_iinc (v := nI (sFal σ 1 i + k + 1)) (lv' := [(1, .int (nI (sFal σ 1 i + k + 1))), (6, .int (nI k)), (5, .ref (Ω 3 i)), (4, .int (nI i)), (3, .int (nI (σ 3 0))), (2, .ref (Ω 1 0)), (0, .ref (Ω 0 0))]) hx hb dX3_pass_56 hl (k := 5) rfl (nI_inc _) (by decide) rfl (fun ls hl => ?_)
                refine lv_iinc (v := nI (k + 1)) (lv' := [(6, .int (nI (k + 1))), (1, .int (nI (sFal σ 1 i + k + 1))), (5, .ref (Ω 3 i)), (4, .int (nI i)), (3, .int (nI (σ 3 0))), (2, .ref (Ω 1 0)), (0, .ref (Ω 0 0))]) hx hb dX3_pass_59 hl (k := 1) rfl (nI_inc _) (by decide) rfl (fun ls hl => ?_)
                refine lv_goto (tgt := 28) hx hb dX3_pass_62 (by decide) ?_
                refine ih2 (k + 1) _ _ H locs ls (by omega) (by omega) (by omega) r_59 k_62 (fun q hn => by rw [e_61, va_up_ne _ _ hn]; exact hfr q hn) hX ?_
                exact lv_sub hl [0, 2, 3, 4, 5, 1, 6] rfl
        exact hloop2 (ρ 6 i + 1) 0 _ _ H _ _ (by omega) (by omega) (by omega) r_54 kr_52 (fun q _ => rfl) hX hl
  exact hloop (σ 3 0 + 1) 0 σ μ s.heap [] _ (by omega) (by omega) (sQ_0 σ).symm hS hX hl

