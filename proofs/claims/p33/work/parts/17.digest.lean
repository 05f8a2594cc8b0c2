theorem dfX1 : ∀ j, j < 4 → defaultValue (tyX1 j) = vp_V [.int 0, .int 0, .int 0, .int 0] j := by
  intro j hj
  rcases j with _ | _ | _ | _ | j
  all_goals first | rfl | omega
theorem dfX0 : ∀ j, j < 6 → defaultValue (tyX0 j) = vp_V [.null, .int 0, .int 0, .int 0, .int 0, .int 0] j := by
  intro j hj
  rcases j with _ | _ | _ | _ | _ | _ | j
  all_goals first | rfl | omega
theorem dfX2 : ∀ j, j < 7 → defaultValue (tyX2 j) = vp_V [.null, .null, .null, .null, .int 0, .int 0, .int 0] j := by
  intro j hj
  rcases j with _ | _ | _ | _ | _ | _ | _ | j
  all_goals first | rfl | omega
theorem dfJx4a65c : ∀ j, j < 3 → defaultValue (tyJx4a65c j) = vp_V [.int 0, .null, .int 0] j := by
  intro j hj
  rcases j with _ | _ | _ | j
  all_goals first | rfl | omega
theorem wX.nE {g : wG} {A : Nat → Prop} {s : State} {H : Heap} {locs : List Loc} {μ : wMu} (h : wX g A s H locs μ) : μ (gE g) = none := Classical.byContradiction fun z => by
  have h1 := h.2.1 _ (h.dom _ z)
  have h2 := h.1.2.2.2.2.2.2.2.1
  omega
section FDL3
variable {g : wG} {Λ σ σ' : sSt} {xv : Option Int64} {μ μ' : wMu}
theorem arrOK.mono {e n : Nat} {p : Nat → Nat} (h : arrOK g μ e n p) (hm : ∀ z e, μ z = some e → μ' z = some e) : arrOK g μ' e n p := by
  rcases h with h | ⟨f, h1, h2⟩
  · exact Or.inl h
  · exact Or.inr ⟨f, hm _ _ h1, h2⟩
theorem fD.mono (hF : fD g Λ xv σ μ) (hm : ∀ z e, μ z = some e → μ' z = some e) : fD g Λ xv σ μ' := by
  obtain ⟨f1, ⟨m1, f2⟩, ⟨m2, f3⟩, f4, f5, f6, f7, ⟨a, b, c, d, f8⟩, ⟨a1, b1, c1, d1, e1, f9⟩, f10, f11⟩ := hF
  exact ⟨hm _ _ f1, ⟨m1, hm _ _ f2⟩, ⟨m2, hm _ _ f3⟩, f4.mono hm, f5.mono hm, fun i h => hm _ _ (f6 i h), fun i h => hm _ _ (f7 i h), ⟨a, b, c, d, hm _ _ f8⟩, ⟨a1, b1, c1, d1, e1, hm _ _ f9⟩, f10, fun v h => hm _ _ (f11 v h)⟩
theorem fD.addW (hF : fD g Λ xv σ μ) (hO : sOk σ) (hgE : μ (gE g) = none) {ea q a b : Nat} {mc : Int32} {f : Nat → Option Nat} (hq : μ q = none) (hea : μ ea = none ∨ (ea = Λ 3 0 ∧ ∃ f0, μ (Λ 3 0) = some (cO g f0))) (n1 : μ' (Λ 1 0) = some (.inr (0, [.int mc, .ref ea, .int (nI (σ 3 0 + 1))]))) (n2 : μ' ea = some (cO g f)) (n3 : ∀ i, i < σ 3 0 → f i = some (Λ 7 i)) (n4 : f (σ 3 0) = some q) (n5 : μ' q = some (.inr (2, [.int (nI (σ 3 0)), .int (nI a), .int (nI b), .int (nI a)]))) (ho : ∀ z, z ≠ Λ 1 0 → z ≠ ea → z ≠ q → μ' z = μ z) : fD g (up2 (up2 Λ 3 0 ea) 7 (σ 3 0) q) xv (nAddW σ a b) μ' := by
  obtain ⟨f1, ⟨m1, f2⟩, ⟨m2, f3⟩, f4, f5, f6, f7, ⟨t1, t2, t3, t4, f8⟩, ⟨u1, u2, u3, u4, u5, f9⟩, f10, f11⟩ := id hF
  have hnq : ∀ z e, μ z = some e → z ≠ q := fun z e h c => by rw [c, hq] at h; cases h
  have hne : ∀ z e, μ z = some e → kd e ≠ 102 → z ≠ ea := by
    intro z e h h1
    rcases hea with hz | ⟨hz, f0, w⟩
    · exact fun c => by rw [c, hz] at h; cases h
    · rw [hz]; exact kd_nn h w h1
  have hk : ∀ z e, μ z = some e → kd e ≠ 0 → kd e ≠ 102 → μ' z = some e := fun z e h h0 h1 => by
    rw [ho z (kd_nn h f2 h0) (hne z e h h1) (hnq z e h)]; exact h
  have hwi : ∀ i, i < σ 3 0 → up2 (up2 Λ 3 0 ea) 7 (σ 3 0) q 7 i = Λ 7 i := fun i hi => by
    rw [up2_ni _ (by omega), up2_nf _ (by omega)]
  have h9 : ∀ k i, k ≠ 3 → k ≠ 7 → up2 (up2 Λ 3 0 ea) 7 (σ 3 0) q k i = Λ k i := fun k i h3 h7 => by
    rw [up2_nf _ h7, up2_nf _ h3]
  have hs : ∀ k i, k ≠ 3 → ¬ (5 ≤ k ∧ k ≤ 7 ∧ i = σ 3 0) → nAddW σ a b k i = σ k i := fun k i h3 h5 => by
    simp only [nAddW, up2]
    rw [if_neg (by omega), if_neg (by omega), if_neg (by omega), if_neg (by omega)]
  have s3 : nAddW σ a b 3 0 = σ 3 0 + 1 := by simp [nAddW, up2]
  have s4 : nAddW σ a b 4 0 = σ 4 0 := hs 4 0 (by omega) (by omega)
  have ea4 : ea = Λ 4 0 → ea = gE g := by
    intro c
    rcases hea with hz | ⟨hz, -⟩
    · rcases f5 with w | ⟨f', w, -⟩
      · rw [c]; exact w.2
      · rw [← c, hz] at w; cases w
    · rw [hz] at c ⊢; exact f10.2.1 c
  have q5 : up2 (up2 Λ 3 0 ea) 7 (σ 3 0) q 3 0 = ea := by rw [up2_nf _ (by omega), up2_self]
  have q7 : up2 (up2 Λ 3 0 ea) 7 (σ 3 0) q 7 (σ 3 0) = q := up2_self _ _ _ _
  refine ⟨?_, ⟨mc, ?_⟩, ⟨m2, ?_⟩, Or.inr ⟨f, ?_, ?_⟩, ?_, ?_, ?_, ⟨t1, t2, t3, t4, ?_⟩, ⟨u1, u2, u3, u4, u5, ?_⟩, ⟨?_, ?_, ?_, ?_, ?_, ?_⟩, ?_⟩
  · rw [h9 0 0 (by omega) (by omega), hk _ _ f1 (Nat.ne_of_beq_eq_false rfl) (Nat.ne_of_beq_eq_false rfl)]
    simp only [cF, h9 1 0 (by omega) (by omega), h9 2 0 (by omega) (by omega), h9 5 0 (by omega) (by omega), h9 6 0 (by omega) (by omega), hs 0 0 (by omega) (by omega), hs 1 0 (by omega) (by omega), hs 2 0 (by omega) (by omega)]
  · rw [h9 1 0 (by omega) (by omega), q5, s3]; exact n1
  · rw [h9 2 0 (by omega) (by omega), h9 4 0 (by omega) (by omega), s4, ho _ (Ne.symm f10.1) (hne _ _ f3 (Nat.ne_of_beq_eq_false rfl)) (hnq _ _ f3)]; exact f3
  · rw [q5]; exact n2
  · intro i hi
    rw [s3] at hi
    by_cases e : i = σ 3 0
    · rw [e, q7]; exact n4
    · rw [hwi i (by omega)]; exact n3 i (by omega)
  · rw [h9 4 0 (by omega) (by omega), s4]
    rcases f5 with w | ⟨f', w, w2⟩
    · exact Or.inl w
    · exact Or.inr ⟨f', by rw [ho _ (kd_ne w f2 rfl) (fun c => by rw [c, ea4 c.symm, hgE] at w; cases w) (hnq _ _ w)]; exact w, fun i hi => by rw [h9 8 i (by omega) (by omega)]; exact w2 i hi⟩
  · intro i hi
    rw [s3] at hi
    by_cases e : i = σ 3 0
    · rw [e, q7, n5]; simp [cW, nAddW, up2]
    · rw [hwi i (by omega), hk _ _ (f6 i (by omega)) (Nat.ne_of_beq_eq_false rfl) (Nat.ne_of_beq_eq_false rfl)]
      simp only [cW, hs 5 i (by omega) (by omega), hs 6 i (by omega) (by omega), hs 7 i (by omega) (by omega)]
  · intro j hj
    rw [s4] at hj
    rw [h9 8 j (by omega) (by omega), hk _ _ (f7 j hj) (Nat.ne_of_beq_eq_false rfl) (Nat.ne_of_beq_eq_false rfl)]
    simp only [cC, hs 8 j (by omega) (by omega), hs 9 j (by omega) (by omega), hs 10 j (by omega) (by omega), hs 11 j (by omega) (by omega), hs 12 j (by omega) (by omega), hs 13 j (by omega) (by omega), hwi _ (hO.2.2.2.1 j hj).1]
  · rw [h9 5 0 (by omega) (by omega)]; exact hk _ _ f8 (Nat.ne_of_beq_eq_false rfl) (Nat.ne_of_beq_eq_false rfl)
  · rw [h9 6 0 (by omega) (by omega), h9 5 0 (by omega) (by omega)]; exact hk _ _ f9 (Nat.ne_of_beq_eq_false rfl) (Nat.ne_of_beq_eq_false rfl)
  · rw [h9 1 0 (by omega) (by omega), h9 2 0 (by omega) (by omega)]; exact f10.1
  · rw [q5, h9 4 0 (by omega) (by omega)]; exact ea4
  · rw [s3]
    intro i k hi hk2 hh
    by_cases e1 : i = σ 3 0
    · by_cases e2 : k = σ 3 0
      · omega
      · rw [e1, q7, hwi k (by omega)] at hh; exact absurd hh.symm (hnq _ _ (f6 k (by omega)))
    · by_cases e2 : k = σ 3 0
      · rw [e2, q7, hwi i (by omega)] at hh; exact absurd hh (hnq _ _ (f6 i (by omega)))
      · rw [hwi i (by omega), hwi k (by omega)] at hh; exact f10.2.2.1 i k (by omega) (by omega) hh
  · rw [s4]
    intro i k hi hk2 hh
    rw [h9 8 i (by omega) (by omega), h9 8 k (by omega) (by omega)] at hh; exact f10.2.2.2.1 i k hi hk2 hh
  · rw [s3, h9 5 0 (by omega) (by omega)]
    intro i hi
    by_cases e : i = σ 3 0
    · rw [e, q7]; exact Ne.symm (hnq _ _ f8)
    · rw [hwi i (by omega)]; exact f10.2.2.2.2.1 i (by omega)
  · rw [s4, h9 6 0 (by omega) (by omega)]
    intro j hj
    rw [h9 8 j (by omega) (by omega)]; exact f10.2.2.2.2.2 j hj
  · intro v hv
    rw [h9 9 0 (by omega) (by omega)]; exact hk _ _ (f11 v hv) (Nat.ne_of_beq_eq_false rfl) (Nat.ne_of_beq_eq_false rfl)
theorem fD.addC (hF : fD g Λ xv σ μ) (hO : sOk σ) (hgE : μ (gE g) = none) {ea q a b : Nat} (ha : a < σ 3 0) {mc : Int32} {f : Nat → Option Nat} (hq : μ q = none) (hea : μ ea = none ∨ (ea = Λ 4 0 ∧ ∃ f0, μ (Λ 4 0) = some (cO g f0))) (n1 : μ' (Λ 2 0) = some (.inr (0, [.int mc, .ref ea, .int (nI (σ 4 0 + 1))]))) (n2 : μ' ea = some (cO g f)) (n3 : ∀ i, i < σ 4 0 → f i = some (Λ 8 i)) (n4 : f (σ 4 0) = some q) (n5 : μ' q = some (.inr (1, [.ref (Λ 7 a), .int (nI b), .int (nI (bstD b (σ 0 0 / 24))), .int (nI 0), .int (nI 0), .int (nI 4)]))) (ho : ∀ z, z ≠ Λ 2 0 → z ≠ ea → z ≠ q → μ' z = μ z) : fD g (up2 (up2 Λ 4 0 ea) 8 (σ 4 0) q) xv (nAddC σ a b) μ' := by
  obtain ⟨f1, ⟨m1, f2⟩, ⟨m2, f3⟩, f4, f5, f6, f7, ⟨t1, t2, t3, t4, f8⟩, ⟨u1, u2, u3, u4, u5, f9⟩, f10, f11⟩ := id hF
  have hnq : ∀ z e, μ z = some e → z ≠ q := fun z e h c => by rw [c, hq] at h; cases h
  have hne : ∀ z e, μ z = some e → kd e ≠ 102 → z ≠ ea := by
    intro z e h h1
    rcases hea with hz | ⟨hz, f0, w⟩
    · exact fun c => by rw [c, hz] at h; cases h
    · rw [hz]; exact kd_nn h w h1
  have hk : ∀ z e, μ z = some e → kd e ≠ 0 → kd e ≠ 102 → μ' z = some e := fun z e h h0 h1 => by
    rw [ho z (kd_nn h f3 h0) (hne z e h h1) (hnq z e h)]; exact h
  have hwi : ∀ i, i < σ 4 0 → up2 (up2 Λ 4 0 ea) 8 (σ 4 0) q 8 i = Λ 8 i := fun i hi => by
    rw [up2_ni _ (by omega), up2_nf _ (by omega)]
  have h9 : ∀ k i, k ≠ 4 → k ≠ 8 → up2 (up2 Λ 4 0 ea) 8 (σ 4 0) q k i = Λ k i := fun k i h3 h7 => by
    rw [up2_nf _ h7, up2_nf _ h3]
  have hs : ∀ k i, k ≠ 4 → ¬ (8 ≤ k ∧ k ≤ 13 ∧ i = σ 4 0) → nAddC σ a b k i = σ k i := fun k i h3 h5 => by
    simp only [nAddC, up2]
    rw [if_neg (by omega), if_neg (by omega), if_neg (by omega), if_neg (by omega), if_neg (by omega)]
  have s4 : nAddC σ a b 4 0 = σ 4 0 + 1 := by simp [nAddC, up2]
  have s3 : nAddC σ a b 3 0 = σ 3 0 := hs 3 0 (by omega) (by omega)
  have ea4 : Λ 3 0 = ea → Λ 3 0 = gE g := by
    intro c
    rcases hea with hz | ⟨hz, -⟩
    · rcases f4 with w | ⟨f', w, -⟩
      · exact w.2
      · rw [c, hz] at w; cases w
    · exact f10.2.1 (c.trans hz)
  have q5 : up2 (up2 Λ 4 0 ea) 8 (σ 4 0) q 4 0 = ea := by rw [up2_nf _ (by omega), up2_self]
  have q7 : up2 (up2 Λ 4 0 ea) 8 (σ 4 0) q 8 (σ 4 0) = q := up2_self _ _ _ _
  have z5 := hO.2.2.2.2.1 (σ 4 0) (Nat.le_refl _)
  refine ⟨?_, ⟨m1, ?_⟩, ⟨mc, ?_⟩, ?_, Or.inr ⟨f, ?_, ?_⟩, ?_, ?_, ⟨t1, t2, t3, t4, ?_⟩, ⟨u1, u2, u3, u4, u5, ?_⟩, ⟨?_, ?_, ?_, ?_, ?_, ?_⟩, ?_⟩
  · rw [h9 0 0 (by omega) (by omega), hk _ _ f1 (Nat.ne_of_beq_eq_false rfl) (Nat.ne_of_beq_eq_false rfl)]
    simp only [cF, h9 1 0 (by omega) (by omega), h9 2 0 (by omega) (by omega), h9 5 0 (by omega) (by omega), h9 6 0 (by omega) (by omega), hs 0 0 (by omega) (by omega), hs 1 0 (by omega) (by omega), hs 2 0 (by omega) (by omega)]
  · rw [h9 1 0 (by omega) (by omega), h9 3 0 (by omega) (by omega), s3, ho _ f10.1 (hne _ _ f2 (Nat.ne_of_beq_eq_false rfl)) (hnq _ _ f2)]; exact f2
  · rw [h9 2 0 (by omega) (by omega), q5, s4]; exact n1
  · rw [h9 3 0 (by omega) (by omega), s3]
    rcases f4 with w | ⟨f', w, w2⟩
    · exact Or.inl w
    · exact Or.inr ⟨f', by rw [ho _ (kd_ne w f3 rfl) (fun c => by rw [ea4 c, hgE] at w; cases w) (hnq _ _ w)]; exact w, fun i hi => by rw [h9 7 i (by omega) (by omega)]; exact w2 i hi⟩
  · rw [q5]; exact n2
  · intro i hi
    rw [s4] at hi
    by_cases e : i = σ 4 0
    · rw [e, q7]; exact n4
    · rw [hwi i (by omega)]; exact n3 i (by omega)
  · intro i hi
    rw [s3] at hi
    rw [h9 7 i (by omega) (by omega), hk _ _ (f6 i (by omega)) (Nat.ne_of_beq_eq_false rfl) (Nat.ne_of_beq_eq_false rfl)]
    simp only [cW, hs 5 i (by omega) (by omega), hs 6 i (by omega) (by omega), hs 7 i (by omega) (by omega)]
  · intro j hj
    rw [s4] at hj
    by_cases e : j = σ 4 0
    · rw [e, q7, n5]; simp [cC, nAddC, up2, z5.1, z5.2]
    · rw [hwi j (by omega), hk _ _ (f7 j (by omega)) (Nat.ne_of_beq_eq_false rfl) (Nat.ne_of_beq_eq_false rfl)]
      simp only [cC, hs 8 j (by omega) (by omega), hs 9 j (by omega) (by omega), hs 10 j (by omega) (by omega), hs 11 j (by omega) (by omega), hs 12 j (by omega) (by omega), hs 13 j (by omega) (by omega), h9 7 _ (show (7 : Nat) ≠ 4 by omega) (show (7 : Nat) ≠ 8 by omega)]
  · rw [h9 5 0 (by omega) (by omega)]; exact hk _ _ f8 (Nat.ne_of_beq_eq_false rfl) (Nat.ne_of_beq_eq_false rfl)
  · rw [h9 6 0 (by omega) (by omega), h9 5 0 (by omega) (by omega)]; exact hk _ _ f9 (Nat.ne_of_beq_eq_false rfl) (Nat.ne_of_beq_eq_false rfl)
  · rw [h9 1 0 (by omega) (by omega), h9 2 0 (by omega) (by omega)]; exact f10.1
  · rw [q5, h9 3 0 (by omega) (by omega)]; exact ea4
  · rw [s3]
    intro i k hi hk2 hh
    rw [h9 7 i (by omega) (by omega), h9 7 k (by omega) (by omega)] at hh; exact f10.2.2.1 i k hi hk2 hh
  · rw [s4]
    intro i k hi hk2 hh
    by_cases e1 : i = σ 4 0
    · by_cases e2 : k = σ 4 0
      · omega
      · rw [e1, q7, hwi k (by omega)] at hh; exact absurd hh.symm (hnq _ _ (f7 k (by omega)))
    · by_cases e2 : k = σ 4 0
      · rw [e2, q7, hwi i (by omega)] at hh; exact absurd hh (hnq _ _ (f7 i (by omega)))
      · rw [hwi i (by omega), hwi k (by omega)] at hh; exact f10.2.2.2.1 i k (by omega) (by omega) hh
  · rw [s3, h9 5 0 (by omega) (by omega)]
    intro i hi
    rw [h9 7 i (by omega) (by omega)]; exact f10.2.2.2.2.1 i (by omega)
  · rw [s4, h9 6 0 (by omega) (by omega)]
    intro j hj
    by_cases e : j = σ 4 0
    · rw [e, q7]; exact Ne.symm (hnq _ _ f9)
    · rw [hwi j (by omega)]; exact f10.2.2.2.2.2 j (by omega)
  · intro v hv
    rw [h9 9 0 (by omega) (by omega)]; exact hk _ _ (f11 v hv) (Nat.ne_of_beq_eq_false rfl) (Nat.ne_of_beq_eq_false rfl)
end FDL3
def dgK (σ : sSt) (d : Int64) (j : Nat) : Int64 := mix (mix (mix (mix (mix (mix (mix (mix (mix (mix d (nI (σ 8 j))) (nI (σ 10 j))) (nI (σ 11 j))) (nI (σ 12 j))) (nI (σ 13 j))) (nI (vDay σ j))) (nI (vGrt σ j))) (utl σ j 10 101 0)) (nI (tws σ j 4 12 (σ 6 (σ 8 j))))) (wtd σ j 3 21 0)

set_option maxHeartbeats 4000000 in
set_option maxRecDepth 100000 in
/-- a wand mixed in -/
theorem c_X2_withWand (l : Launch) (g : wG) (μ : wMu) (zz : Nat) {Λ σ : sSt} {xv : Option Int64} (hF : fD g Λ xv σ μ) (hO : sOk σ) {a : Int64} {i : Nat} (hi : i < σ 3 0) : wMet l yX2_withWand cX2_withWand 6 (some .long) 5 0 0 109 g [.ref (Λ 0 0), .long a, .int (nI i)] μ zz (fun r μ' => r = some (.long (mix (mix (mix a (nI (σ 7 i))) (nI (cUsr σ i (σ 4 0)))) (vFul σ i))) ∧ μ' = μ) := by
  refine wMet.of (by decide) (Nat.le_of_ble_eq_true rfl) ?_
  intro p e s m below meth c ls hx hb hr hml hown hlocks hin hl hsz hX
  have hl : lv_has ls 6 [(0, .ref (Λ 0 0)), (1, .long a), (3, .int (nI i))] := hl
  obtain ⟨f1, ⟨m1, f2⟩, ⟨m2, f3⟩, f4, f5, f6, f7, ⟨t1, t2, t3, t4, f8⟩, ⟨u1, u2, u3, u4, u5, f9⟩, f10, f11⟩ := id hF
  obtain ⟨o1, o2, o3, o4, o5, o6, o7⟩ := id hO
  refine lv_lload_n hx hb dX2_withWand_0 rfl (lv_at hl 1 rfl) ?_
  refine lv_lstore (lv' := [(4, .long a), (0, .ref (Λ 0 0)), (1, .long a), (3, .int (nI i))]) hx hb dX2_withWand_1 hl (by decide) rfl (fun ls hl => ?_)
  refine lv_lload hx hb dX2_withWand_3 (lv_at hl 0 rfl) ?_
  refine lv_aload_n hx hb dX2_withWand_5 rfl (lv_at hl 1 rfl) ?_
  refine lv_iload_n hx hb dX2_withWand_6 rfl (lv_at hl 3 rfl) ?_
  refine w_call (w_runV (n := 1) (As := [.int (nI i)]) (rest := [.long a]) hx hb hml hown hX (c_X2_dustIn_g l g μ s.heap.size hF hO hi) kw333 kw1 kw439 kw331 kw332 wn_X2_dustIn rfl f1 rfl ⟨Nat.le_of_ble_eq_true rfl, Nat.le_of_ble_eq_true rfl⟩ hl.1 rfl (Nat.le_of_ble_eq_true rfl) dX2_withWand_7 ⟨Nat.le_of_ble_eq_true rfl, Nat.le_of_ble_eq_true rfl⟩) hX (fun r_3 μ_1 H locs q_2 hX hz => ?_)
  obtain ⟨rfl, e_4⟩ := q_2
  rw [e_4] at hX
  refine W.eq (g2 := F0 m 10 ls [.int (nI (σ 7 i)), .long a]) rfl ?_
  refine w_call (w_runS (n := 2) (As := [.long a, .int (nI (σ 7 i))]) (rest := []) hx hb hml hown hX (c_X2_mixed l g μ H.size) kw427 kw1 kw425 kw426 wn_X2_mixed rfl ⟨Nat.le_of_ble_eq_true rfl, Nat.le_of_ble_eq_true rfl⟩ hl.1 rfl (Nat.le_of_ble_eq_true rfl) dX2_withWand_10 ⟨Nat.le_of_ble_eq_true rfl, Nat.le_of_ble_eq_true rfl⟩) hX (fun r_7 μ_5 H locs q_6 hX hz => ?_)
  obtain ⟨rfl, e_8⟩ := q_6
  rw [e_8] at hX
  refine W.eq (g2 := F0 m 13 ls [.long (mix a (nI (σ 7 i)))]) rfl ?_
  refine lv_lstore (lv' := [(4, .long (mix a (nI (σ 7 i)))), (0, .ref (Λ 0 0)), (1, .long a), (3, .int (nI i))]) hx hb dX2_withWand_13 hl (by decide) rfl (fun ls hl => ?_)
  refine lv_lload hx hb dX2_withWand_15 (lv_at hl 0 rfl) ?_
  refine lv_aload_n hx hb dX2_withWand_17 rfl (lv_at hl 1 rfl) ?_
  refine lv_iload_n hx hb dX2_withWand_18 rfl (lv_at hl 3 rfl) ?_
  refine w_call (w_runV (n := 1) (As := [.int (nI i)]) (rest := [.long (mix a (nI (σ 7 i)))]) hx hb hml hown hX (c_X2_users_g l g μ H.size hF hO hi) kw342 kw1 kw440 kw340 kw341 wn_X2_users rfl f1 rfl ⟨Nat.le_of_ble_eq_true rfl, Nat.le_of_ble_eq_true rfl⟩ hl.1 rfl (Nat.le_of_ble_eq_true rfl) dX2_withWand_19 ⟨Nat.le_of_ble_eq_true rfl, Nat.le_of_ble_eq_true rfl⟩) hX (fun r_11 μ_9 H locs q_10 hX hz => ?_)
  obtain ⟨rfl, e_12⟩ := q_10
  rw [e_12] at hX
  refine W.eq (g2 := F0 m 22 ls [.int (nI (cUsr σ i (σ 4 0))), .long (mix a (nI (σ 7 i)))]) rfl ?_
  refine w_call (w_runS (n := 2) (As := [.long (mix a (nI (σ 7 i))), .int (nI (cUsr σ i (σ 4 0)))]) (rest := []) hx hb hml hown hX (c_X2_mixed l g μ H.size) kw427 kw1 kw425 kw426 wn_X2_mixed rfl ⟨Nat.le_of_ble_eq_true rfl, Nat.le_of_ble_eq_true rfl⟩ hl.1 rfl (Nat.le_of_ble_eq_true rfl) dX2_withWand_22 ⟨Nat.le_of_ble_eq_true rfl, Nat.le_of_ble_eq_true rfl⟩) hX (fun r_15 μ_13 H locs q_14 hX hz => ?_)
  obtain ⟨rfl, e_16⟩ := q_14
  rw [e_16] at hX
  refine W.eq (g2 := F0 m 25 ls [.long (mix (mix a (nI (σ 7 i))) (nI (cUsr σ i (σ 4 0))))]) rfl ?_
  refine lv_lstore (lv' := [(4, .long (mix (mix a (nI (σ 7 i))) (nI (cUsr σ i (σ 4 0))))), (0, .ref (Λ 0 0)), (1, .long a), (3, .int (nI i))]) hx hb dX2_withWand_25 hl (by decide) rfl (fun ls hl => ?_)
  refine lv_lload hx hb dX2_withWand_27 (lv_at hl 0 rfl) ?_
  refine lv_aload_n hx hb dX2_withWand_29 rfl (lv_at hl 1 rfl) ?_
  refine lv_iload_n hx hb dX2_withWand_30 rfl (lv_at hl 3 rfl) ?_
  refine w_call (w_runV (n := 1) (As := [.int (nI i)]) (rest := [.long (mix (mix a (nI (σ 7 i))) (nI (cUsr σ i (σ 4 0))))]) hx hb hml hown hX (c_X2_hoursUntilFull_g l g μ H.size hF hO hi) kw409 kw1 kw441 kw407 kw408 wn_X2_hoursUntilFull rfl f1 rfl ⟨Nat.le_of_ble_eq_true rfl, Nat.le_of_ble_eq_true rfl⟩ hl.1 rfl (Nat.le_of_ble_eq_true rfl) dX2_withWand_31 ⟨Nat.le_of_ble_eq_true rfl, Nat.le_of_ble_eq_true rfl⟩) hX (fun r_19 μ_17 H locs q_18 hX hz => ?_)
  obtain ⟨rfl, e_20⟩ := q_18
  rw [e_20] at hX
  refine W.eq (g2 := F0 m 34 ls [.int (vFul σ i), .long (mix (mix a (nI (σ 7 i))) (nI (cUsr σ i (σ 4 0))))]) rfl ?_
  refine w_call (w_runS (n := 2) (As := [.long (mix (mix a (nI (σ 7 i))) (nI (cUsr σ i (σ 4 0)))), .int (vFul σ i)]) (rest := []) hx hb hml hown hX (c_X2_mixed l g μ H.size) kw427 kw1 kw425 kw426 wn_X2_mixed rfl ⟨Nat.le_of_ble_eq_true rfl, Nat.le_of_ble_eq_true rfl⟩ hl.1 rfl (Nat.le_of_ble_eq_true rfl) dX2_withWand_34 ⟨Nat.le_of_ble_eq_true rfl, Nat.le_of_ble_eq_true rfl⟩) hX (fun r_23 μ_21 H locs q_22 hX hz => ?_)
  obtain ⟨rfl, e_24⟩ := q_22
  rw [e_24] at hX
  refine W.eq (g2 := F0 m 37 ls [.long (mix (mix (mix a (nI (σ 7 i))) (nI (cUsr σ i (σ 4 0)))) (vFul σ i))]) rfl ?_
  refine lv_lstore (lv' := [(4, .long (mix (mix (mix a (nI (σ 7 i))) (nI (cUsr σ i (σ 4 0)))) (vFul σ i))), (0, .ref (Λ 0 0)), (1, .long a), (3, .int (nI i))]) hx hb dX2_withWand_37 hl (by decide) rfl (fun ls hl => ?_)
  refine lv_lload hx hb dX2_withWand_39 (lv_at hl 0 rfl) ?_
  exact w_lret hx hb hr hlocks hX ⟨rfl, rfl⟩ ⟨Nat.le_of_ble_eq_true rfl, Nat.le_of_ble_eq_true rfl⟩ dX2_withWand_41

set_option maxHeartbeats 4000000 in
set_option maxRecDepth 100000 in
/-- a child mixed in -/
theorem c_X2_withChild (l : Launch) (g : wG) (μ : wMu) (zz : Nat) {Λ σ : sSt} {xv : Option Int64} (hF : fD g Λ xv σ μ) (hO : sOk σ) {a : Int64} {i : Nat} (hi : i < σ 4 0) : wMet l yX2_withChild cX2_withChild 6 (some .long) 6 0 0 133 g [.ref (Λ 0 0), .long a, .int (nI i)] μ zz (fun r μ' => r = some (.long (dgK σ a i)) ∧ fD g Λ xv σ μ') := by
  refine wMet.of (by decide) (Nat.le_of_ble_eq_true rfl) ?_
  intro p e s m below meth c ls hx hb hr hml hown hlocks hin hl hsz hX
  have hl : lv_has ls 6 [(0, .ref (Λ 0 0)), (1, .long a), (3, .int (nI i))] := hl
  obtain ⟨f1, ⟨m1, f2⟩, ⟨m2, f3⟩, f4, f5, f6, f7, ⟨t1, t2, t3, t4, f8⟩, ⟨u1, u2, u3, u4, u5, f9⟩, f10, f11⟩ := id hF
  obtain ⟨o1, o2, o3, o4, o5, o6, o7⟩ := id hO
  refine lv_lload_n hx hb dX2_withChild_0 rfl (lv_at hl 1 rfl) ?_
  refine lv_lstore (lv' := [(4, .long a), (0, .ref (Λ 0 0)), (1, .long a), (3, .int (nI i))]) hx hb dX2_withChild_1 hl (by decide) rfl (fun ls hl => ?_)
  refine lv_lload hx hb dX2_withChild_3 (lv_at hl 0 rfl) ?_
  refine lv_aload_n hx hb dX2_withChild_5 rfl (lv_at hl 1 rfl) ?_
  refine lv_iload_n hx hb dX2_withChild_6 rfl (lv_at hl 3 rfl) ?_
  refine w_call (w_runV (n := 1) (As := [.int (nI i)]) (rest := [.long a]) hx hb hml hown hX (c_X2_wandOf_g l g μ s.heap.size hF hO hi) kw346 kw1 kw446 kw344 kw345 wn_X2_wandOf rfl f1 rfl ⟨Nat.le_of_ble_eq_true rfl, Nat.le_of_ble_eq_true rfl⟩ hl.1 rfl (Nat.le_of_ble_eq_true rfl) dX2_withChild_7 ⟨Nat.le_of_ble_eq_true rfl, Nat.le_of_ble_eq_true rfl⟩) hX (fun r_3 μ_1 H locs q_2 hX hz => ?_)
  obtain ⟨rfl, e_4⟩ := q_2
  rw [e_4] at hX
  refine W.eq (g2 := F0 m 10 ls [.int (nI (σ 8 i)), .long a]) rfl ?_
  refine w_call (w_runS (n := 2) (As := [.long a, .int (nI (σ 8 i))]) (rest := []) hx hb hml hown hX (c_X2_mixed l g μ H.size) kw427 kw1 kw425 kw426 wn_X2_mixed rfl ⟨Nat.le_of_ble_eq_true rfl, Nat.le_of_ble_eq_true rfl⟩ hl.1 rfl (Nat.le_of_ble_eq_true rfl) dX2_withChild_10 ⟨Nat.le_of_ble_eq_true rfl, Nat.le_of_ble_eq_true rfl⟩) hX (fun r_7 μ_5 H locs q_6 hX hz => ?_)
  obtain ⟨rfl, e_8⟩ := q_6
  rw [e_8] at hX
  refine W.eq (g2 := F0 m 13 ls [.long (mix a (nI (σ 8 i)))]) rfl ?_
  refine lv_lstore (lv' := [(4, .long (mix a (nI (σ 8 i)))), (0, .ref (Λ 0 0)), (1, .long a), (3, .int (nI i))]) hx hb dX2_withChild_13 hl (by decide) rfl (fun ls hl => ?_)
  refine lv_lload hx hb dX2_withChild_15 (lv_at hl 0 rfl) ?_
  refine lv_aload_n hx hb dX2_withChild_17 rfl (lv_at hl 1 rfl) ?_
  refine lv_iload_n hx hb dX2_withChild_18 rfl (lv_at hl 3 rfl) ?_
  refine w_call (w_runV (n := 1) (As := [.int (nI i)]) (rest := [.long (mix a (nI (σ 8 i)))]) hx hb hml hown hX (c_X2_burstOf_g l g μ H.size hF hO hi) kw350 kw1 kw447 kw348 kw349 wn_X2_burstOf rfl f1 rfl ⟨Nat.le_of_ble_eq_true rfl, Nat.le_of_ble_eq_true rfl⟩ hl.1 rfl (Nat.le_of_ble_eq_true rfl) dX2_withChild_19 ⟨Nat.le_of_ble_eq_true rfl, Nat.le_of_ble_eq_true rfl⟩) hX (fun r_11 μ_9 H locs q_10 hX hz => ?_)
  obtain ⟨rfl, e_12⟩ := q_10
  rw [e_12] at hX
  refine W.eq (g2 := F0 m 22 ls [.int (nI (σ 10 i)), .long (mix a (nI (σ 8 i)))]) rfl ?_
  refine w_call (w_runS (n := 2) (As := [.long (mix a (nI (σ 8 i))), .int (nI (σ 10 i))]) (rest := []) hx hb hml hown hX (c_X2_mixed l g μ H.size) kw427 kw1 kw425 kw426 wn_X2_mixed rfl ⟨Nat.le_of_ble_eq_true rfl, Nat.le_of_ble_eq_true rfl⟩ hl.1 rfl (Nat.le_of_ble_eq_true rfl) dX2_withChild_22 ⟨Nat.le_of_ble_eq_true rfl, Nat.le_of_ble_eq_true rfl⟩) hX (fun r_15 μ_13 H locs q_14 hX hz => ?_)
  obtain ⟨rfl, e_16⟩ := q_14
  rw [e_16] at hX
  refine W.eq (g2 := F0 m 25 ls [.long (mix (mix a (nI (σ 8 i))) (nI (σ 10 i)))]) rfl ?_
  refine lv_lstore (lv' := [(4, .long (mix (mix a (nI (σ 8 i))) (nI (σ 10 i)))), (0, .ref (Λ 0 0)), (1, .long a), (3, .int (nI i))]) hx hb dX2_withChild_25 hl (by decide) rfl (fun ls hl => ?_)
  refine lv_lload hx hb dX2_withChild_27 (lv_at hl 0 rfl) ?_
  refine lv_aload_n hx hb dX2_withChild_29 rfl (lv_at hl 1 rfl) ?_
  refine lv_iload_n hx hb dX2_withChild_30 rfl (lv_at hl 3 rfl) ?_
  refine w_call (w_runV (n := 1) (As := [.int (nI i)]) (rest := [.long (mix (mix a (nI (σ 8 i))) (nI (σ 10 i)))]) hx hb hml hown hX (c_X2_punishedFor_g l g μ H.size hF hO hi) kw354 kw1 kw448 kw352 kw353 wn_X2_punishedFor rfl f1 rfl ⟨Nat.le_of_ble_eq_true rfl, Nat.le_of_ble_eq_true rfl⟩ hl.1 rfl (Nat.le_of_ble_eq_true rfl) dX2_withChild_31 ⟨Nat.le_of_ble_eq_true rfl, Nat.le_of_ble_eq_true rfl⟩) hX (fun r_19 μ_17 H locs q_18 hX hz => ?_)
  obtain ⟨rfl, e_20⟩ := q_18
  rw [e_20] at hX
  refine W.eq (g2 := F0 m 34 ls [.int (nI (σ 11 i)), .long (mix (mix a (nI (σ 8 i))) (nI (σ 10 i)))]) rfl ?_
  refine w_call (w_runS (n := 2) (As := [.long (mix (mix a (nI (σ 8 i))) (nI (σ 10 i))), .int (nI (σ 11 i))]) (rest := []) hx hb hml hown hX (c_X2_mixed l g μ H.size) kw427 kw1 kw425 kw426 wn_X2_mixed rfl ⟨Nat.le_of_ble_eq_true rfl, Nat.le_of_ble_eq_true rfl⟩ hl.1 rfl (Nat.le_of_ble_eq_true rfl) dX2_withChild_34 ⟨Nat.le_of_ble_eq_true rfl, Nat.le_of_ble_eq_true rfl⟩) hX (fun r_23 μ_21 H locs q_22 hX hz => ?_)
  obtain ⟨rfl, e_24⟩ := q_22
  rw [e_24] at hX
  refine W.eq (g2 := F0 m 37 ls [.long (mix (mix (mix a (nI (σ 8 i))) (nI (σ 10 i))) (nI (σ 11 i)))]) rfl ?_
  refine lv_lstore (lv' := [(4, .long (mix (mix (mix a (nI (σ 8 i))) (nI (σ 10 i))) (nI (σ 11 i)))), (0, .ref (Λ 0 0)), (1, .long a), (3, .int (nI i))]) hx hb dX2_withChild_37 hl (by decide) rfl (fun ls hl => ?_)
  refine lv_lload hx hb dX2_withChild_39 (lv_at hl 0 rfl) ?_
  refine lv_aload_n hx hb dX2_withChild_41 rfl (lv_at hl 1 rfl) ?_
  refine lv_iload_n hx hb dX2_withChild_42 rfl (lv_at hl 3 rfl) ?_
  refine w_call (w_runV (n := 1) (As := [.int (nI i)]) (rest := [.long (mix (mix (mix a (nI (σ 8 i))) (nI (σ 10 i))) (nI (σ 11 i)))]) hx hb hml hown hX (c_X2_marksOf_g l g μ H.size hF hO hi) kw358 kw1 kw449 kw356 kw357 wn_X2_marksOf rfl f1 rfl ⟨Nat.le_of_ble_eq_true rfl, Nat.le_of_ble_eq_true rfl⟩ hl.1 rfl (Nat.le_of_ble_eq_true rfl) dX2_withChild_43 ⟨Nat.le_of_ble_eq_true rfl, Nat.le_of_ble_eq_true rfl⟩) hX (fun r_27 μ_25 H locs q_26 hX hz => ?_)
  obtain ⟨rfl, e_28⟩ := q_26
  rw [e_28] at hX
  refine W.eq (g2 := F0 m 46 ls [.int (nI (σ 12 i)), .long (mix (mix (mix a (nI (σ 8 i))) (nI (σ 10 i))) (nI (σ 11 i)))]) rfl ?_
  refine w_call (w_runS (n := 2) (As := [.long (mix (mix (mix a (nI (σ 8 i))) (nI (σ 10 i))) (nI (σ 11 i))), .int (nI (σ 12 i))]) (rest := []) hx hb hml hown hX (c_X2_mixed l g μ H.size) kw427 kw1 kw425 kw426 wn_X2_mixed rfl ⟨Nat.le_of_ble_eq_true rfl, Nat.le_of_ble_eq_true rfl⟩ hl.1 rfl (Nat.le_of_ble_eq_true rfl) dX2_withChild_46 ⟨Nat.le_of_ble_eq_true rfl, Nat.le_of_ble_eq_true rfl⟩) hX (fun r_31 μ_29 H locs q_30 hX hz => ?_)
  obtain ⟨rfl, e_32⟩ := q_30
  rw [e_32] at hX
  refine W.eq (g2 := F0 m 49 ls [.long (mix (mix (mix (mix a (nI (σ 8 i))) (nI (σ 10 i))) (nI (σ 11 i))) (nI (σ 12 i)))]) rfl ?_
  refine lv_lstore (lv' := [(4, .long (mix (mix (mix (mix a (nI (σ 8 i))) (nI (σ 10 i))) (nI (σ 11 i))) (nI (σ 12 i)))), (0, .ref (Λ 0 0)), (1, .long a), (3, .int (nI i))]) hx hb dX2_withChild_49 hl (by decide) rfl (fun ls hl => ?_)
  refine lv_lload hx hb dX2_withChild_51 (lv_at hl 0 rfl) ?_
  refine lv_aload_n hx hb dX2_withChild_53 rfl (lv_at hl 1 rfl) ?_
  refine lv_iload_n hx hb dX2_withChild_54 rfl (lv_at hl 3 rfl) ?_
  refine w_call (w_runV (n := 1) (As := [.int (nI i)]) (rest := [.long (mix (mix (mix (mix a (nI (σ 8 i))) (nI (σ 10 i))) (nI (σ 11 i))) (nI (σ 12 i)))]) hx hb hml hown hX (c_X2_nextPunishment_g l g μ H.size hF hO hi) kw362 kw1 kw450 kw360 kw361 wn_X2_nextPunishment rfl f1 rfl ⟨Nat.le_of_ble_eq_true rfl, Nat.le_of_ble_eq_true rfl⟩ hl.1 rfl (Nat.le_of_ble_eq_true rfl) dX2_withChild_55 ⟨Nat.le_of_ble_eq_true rfl, Nat.le_of_ble_eq_true rfl⟩) hX (fun r_35 μ_33 H locs q_34 hX hz => ?_)
  obtain ⟨rfl, e_36⟩ := q_34
  rw [e_36] at hX
  refine W.eq (g2 := F0 m 58 ls [.int (nI (σ 13 i)), .long (mix (mix (mix (mix a (nI (σ 8 i))) (nI (σ 10 i))) (nI (σ 11 i))) (nI (σ 12 i)))]) rfl ?_
  refine w_call (w_runS (n := 2) (As := [.long (mix (mix (mix (mix a (nI (σ 8 i))) (nI (σ 10 i))) (nI (σ 11 i))) (nI (σ 12 i))), .int (nI (σ 13 i))]) (rest := []) hx hb hml hown hX (c_X2_mixed l g μ H.size) kw427 kw1 kw425 kw426 wn_X2_mixed rfl ⟨Nat.le_of_ble_eq_true rfl, Nat.le_of_ble_eq_true rfl⟩ hl.1 rfl (Nat.le_of_ble_eq_true rfl) dX2_withChild_58 ⟨Nat.le_of_ble_eq_true rfl, Nat.le_of_ble_eq_true rfl⟩) hX (fun r_39 μ_37 H locs q_38 hX hz => ?_)
  obtain ⟨rfl, e_40⟩ := q_38
  rw [e_40] at hX
  refine W.eq (g2 := F0 m 61 ls [.long (mix (mix (mix (mix (mix a (nI (σ 8 i))) (nI (σ 10 i))) (nI (σ 11 i))) (nI (σ 12 i))) (nI (σ 13 i)))]) rfl ?_
  refine lv_lstore (lv' := [(4, .long (mix (mix (mix (mix (mix a (nI (σ 8 i))) (nI (σ 10 i))) (nI (σ 11 i))) (nI (σ 12 i))) (nI (σ 13 i)))), (0, .ref (Λ 0 0)), (1, .long a), (3, .int (nI i))]) hx hb dX2_withChild_61 hl (by decide) rfl (fun ls hl => ?_)
  refine lv_lload hx hb dX2_withChild_63 (lv_at hl 0 rfl) ?_
  refine lv_aload_n hx hb dX2_withChild_65 rfl (lv_at hl 1 rfl) ?_
  refine lv_iload_n hx hb dX2_withChild_66 rfl (lv_at hl 3 rfl) ?_
  refine w_call (w_runV (n := 1) (As := [.int (nI i)]) (rest := [.long (mix (mix (mix (mix (mix a (nI (σ 8 i))) (nI (σ 10 i))) (nI (σ 11 i))) (nI (σ 12 i))) (nI (σ 13 i)))]) hx hb hml hown hX (c_X2_daysToBirthday_g l g μ H.size hF hO hi) kw366 kw1 kw451 kw364 kw365 wn_X2_daysToBirthday rfl f1 rfl ⟨Nat.le_of_ble_eq_true rfl, Nat.le_of_ble_eq_true rfl⟩ hl.1 rfl (Nat.le_of_ble_eq_true rfl) dX2_withChild_67 ⟨Nat.le_of_ble_eq_true rfl, Nat.le_of_ble_eq_true rfl⟩) hX (fun r_43 μ_41 H locs q_42 hX hz => ?_)
  obtain ⟨rfl, e_44⟩ := q_42
  rw [e_44] at hX
  refine W.eq (g2 := F0 m 70 ls [.int (nI (vDay σ i)), .long (mix (mix (mix (mix (mix a (nI (σ 8 i))) (nI (σ 10 i))) (nI (σ 11 i))) (nI (σ 12 i))) (nI (σ 13 i)))]) rfl ?_
  refine w_call (w_runS (n := 2) (As := [.long (mix (mix (mix (mix (mix a (nI (σ 8 i))) (nI (σ 10 i))) (nI (σ 11 i))) (nI (σ 12 i))) (nI (σ 13 i))), .int (nI (vDay σ i))]) (rest := []) hx hb hml hown hX (c_X2_mixed l g μ H.size) kw427 kw1 kw425 kw426 wn_X2_mixed rfl ⟨Nat.le_of_ble_eq_true rfl, Nat.le_of_ble_eq_true rfl⟩ hl.1 rfl (Nat.le_of_ble_eq_true rfl) dX2_withChild_70 ⟨Nat.le_of_ble_eq_true rfl, Nat.le_of_ble_eq_true rfl⟩) hX (fun r_47 μ_45 H locs q_46 hX hz => ?_)
  obtain ⟨rfl, e_48⟩ := q_46
  rw [e_48] at hX
  refine W.eq (g2 := F0 m 73 ls [.long (mix (mix (mix (mix (mix (mix a (nI (σ 8 i))) (nI (σ 10 i))) (nI (σ 11 i))) (nI (σ 12 i))) (nI (σ 13 i))) (nI (vDay σ i)))]) rfl ?_
  refine lv_lstore (lv' := [(4, .long (mix (mix (mix (mix (mix (mix a (nI (σ 8 i))) (nI (σ 10 i))) (nI (σ 11 i))) (nI (σ 12 i))) (nI (σ 13 i))) (nI (vDay σ i)))), (0, .ref (Λ 0 0)), (1, .long a), (3, .int (nI i))]) hx hb dX2_withChild_73 hl (by decide) rfl (fun ls hl => ?_)
  refine lv_lload hx hb dX2_withChild_75 (lv_at hl 0 rfl) ?_
  refine lv_aload_n hx hb dX2_withChild_77 rfl (lv_at hl 1 rfl) ?_
  refine lv_iload_n hx hb dX2_withChild_78 rfl (lv_at hl 3 rfl) ?_
  refine w_call (w_runV (n := 1) (As := [.int (nI i)]) (rest := [.long (mix (mix (mix (mix (mix (mix a (nI (σ 8 i))) (nI (σ 10 i))) (nI (σ 11 i))) (nI (σ 12 i))) (nI (σ 13 i))) (nI (vDay σ i)))]) hx hb hml hown hX (c_X2_greatestWish_g l g μ H.size hF hO hi) kw374 kw1 kw452 kw372 kw373 wn_X2_greatestWish rfl f1 rfl ⟨Nat.le_of_ble_eq_true rfl, Nat.le_of_ble_eq_true rfl⟩ hl.1 rfl (Nat.le_of_ble_eq_true rfl) dX2_withChild_79 ⟨Nat.le_of_ble_eq_true rfl, Nat.le_of_ble_eq_true rfl⟩) hX (fun r_51 μ_49 H locs q_50 hX hz => ?_)
  obtain ⟨rfl, e_52⟩ := q_50
  rw [e_52] at hX
  refine W.eq (g2 := F0 m 82 ls [.int (nI (vGrt σ i)), .long (mix (mix (mix (mix (mix (mix a (nI (σ 8 i))) (nI (σ 10 i))) (nI (σ 11 i))) (nI (σ 12 i))) (nI (σ 13 i))) (nI (vDay σ i)))]) rfl ?_
  refine w_call (w_runS (n := 2) (As := [.long (mix (mix (mix (mix (mix (mix a (nI (σ 8 i))) (nI (σ 10 i))) (nI (σ 11 i))) (nI (σ 12 i))) (nI (σ 13 i))) (nI (vDay σ i))), .int (nI (vGrt σ i))]) (rest := []) hx hb hml hown hX (c_X2_mixed l g μ H.size) kw427 kw1 kw425 kw426 wn_X2_mixed rfl ⟨Nat.le_of_ble_eq_true rfl, Nat.le_of_ble_eq_true rfl⟩ hl.1 rfl (Nat.le_of_ble_eq_true rfl) dX2_withChild_82 ⟨Nat.le_of_ble_eq_true rfl, Nat.le_of_ble_eq_true rfl⟩) hX (fun r_55 μ_53 H locs q_54 hX hz => ?_)
  obtain ⟨rfl, e_56⟩ := q_54
  rw [e_56] at hX
  refine W.eq (g2 := F0 m 85 ls [.long (mix (mix (mix (mix (mix (mix (mix a (nI (σ 8 i))) (nI (σ 10 i))) (nI (σ 11 i))) (nI (σ 12 i))) (nI (σ 13 i))) (nI (vDay σ i))) (nI (vGrt σ i)))]) rfl ?_
  refine lv_lstore (lv' := [(4, .long (mix (mix (mix (mix (mix (mix (mix a (nI (σ 8 i))) (nI (σ 10 i))) (nI (σ 11 i))) (nI (σ 12 i))) (nI (σ 13 i))) (nI (vDay σ i))) (nI (vGrt σ i)))), (0, .ref (Λ 0 0)), (1, .long a), (3, .int (nI i))]) hx hb dX2_withChild_85 hl (by decide) rfl (fun ls hl => ?_)
  refine lv_lload hx hb dX2_withChild_87 (lv_at hl 0 rfl) ?_
  refine lv_aload_n hx hb dX2_withChild_89 rfl (lv_at hl 1 rfl) ?_
  refine lv_iload_n hx hb dX2_withChild_90 rfl (lv_at hl 3 rfl) ?_
  refine lv_bipush (v := nI 10) hx hb dX2_withChild_91 (by decide) ?_
  refine w_call (w_runV (n := 2) (As := [.int (nI i), .int (nI 10)]) (rest := [.long (mix (mix (mix (mix (mix (mix (mix a (nI (σ 8 i))) (nI (σ 10 i))) (nI (σ 11 i))) (nI (σ 12 i))) (nI (σ 13 i))) (nI (vDay σ i))) (nI (vGrt σ i)))]) hx hb hml hown hX (c_X2_hoursUntil_g l g μ H.size hF hO hi (by omega) (by omega)) kw380 kw1 kw453 kw378 kw379 wn_X2_hoursUntil rfl f1 rfl ⟨Nat.le_of_ble_eq_true rfl, Nat.le_of_ble_eq_true rfl⟩ hl.1 rfl (Nat.le_of_ble_eq_true rfl) dX2_withChild_93 ⟨Nat.le_of_ble_eq_true rfl, Nat.le_of_ble_eq_true rfl⟩) hX (fun r_59 μ_57 H locs q_58 hX hz => ?_)
  obtain ⟨rfl, hF2⟩ := q_58
  refine W.eq (g2 := F0 m 96 ls [.int (utl σ i 10 101 0), .long (mix (mix (mix (mix (mix (mix (mix a (nI (σ 8 i))) (nI (σ 10 i))) (nI (σ 11 i))) (nI (σ 12 i))) (nI (σ 13 i))) (nI (vDay σ i))) (nI (vGrt σ i)))]) rfl ?_
  refine w_call (w_runS (n := 2) (As := [.long (mix (mix (mix (mix (mix (mix (mix a (nI (σ 8 i))) (nI (σ 10 i))) (nI (σ 11 i))) (nI (σ 12 i))) (nI (σ 13 i))) (nI (vDay σ i))) (nI (vGrt σ i))), .int (utl σ i 10 101 0)]) (rest := []) hx hb hml hown hX (c_X2_mixed l g μ_57 H.size) kw427 kw1 kw425 kw426 wn_X2_mixed rfl ⟨Nat.le_of_ble_eq_true rfl, Nat.le_of_ble_eq_true rfl⟩ hl.1 rfl (Nat.le_of_ble_eq_true rfl) dX2_withChild_96 ⟨Nat.le_of_ble_eq_true rfl, Nat.le_of_ble_eq_true rfl⟩) hX (fun r_62 μ_60 H locs q_61 hX hz => ?_)
  obtain ⟨rfl, e_63⟩ := q_61
  rw [e_63] at hX
  refine W.eq (g2 := F0 m 99 ls [.long (mix (mix (mix (mix (mix (mix (mix (mix a (nI (σ 8 i))) (nI (σ 10 i))) (nI (σ 11 i))) (nI (σ 12 i))) (nI (σ 13 i))) (nI (vDay σ i))) (nI (vGrt σ i))) (utl σ i 10 101 0))]) rfl ?_
  refine lv_lstore (lv' := [(4, .long (mix (mix (mix (mix (mix (mix (mix (mix a (nI (σ 8 i))) (nI (σ 10 i))) (nI (σ 11 i))) (nI (σ 12 i))) (nI (σ 13 i))) (nI (vDay σ i))) (nI (vGrt σ i))) (utl σ i 10 101 0))), (0, .ref (Λ 0 0)), (1, .long a), (3, .int (nI i))]) hx hb dX2_withChild_99 hl (by decide) rfl (fun ls hl => ?_)
  refine lv_lload hx hb dX2_withChild_101 (lv_at hl 0 rfl) ?_
  refine lv_aload_n hx hb dX2_withChild_103 rfl (lv_at hl 1 rfl) ?_
  refine lv_iload_n hx hb dX2_withChild_104 rfl (lv_at hl 3 rfl) ?_
  refine lv_iconst (v := nI 4) hx hb dX2_withChild_105 (by decide) ?_
  refine lv_bipush (v := nI 12) hx hb dX2_withChild_106 (by decide) ?_
  refine w_call (w_runV (n := 3) (As := [.int (nI i), .int (nI 4), .int (nI 12)]) (rest := [.long (mix (mix (mix (mix (mix (mix (mix (mix a (nI (σ 8 i))) (nI (σ 10 i))) (nI (σ 11 i))) (nI (σ 12 i))) (nI (σ 13 i))) (nI (vDay σ i))) (nI (vGrt σ i))) (utl σ i 10 101 0))]) hx hb hml hown hX (c_X2_grantedIn_g l g μ_57 H.size hF2 hO hi (by omega) (by omega) (by omega) (by omega)) kw401 kw1 kw454 kw399 kw400 wn_X2_grantedIn rfl hF2.1 rfl ⟨Nat.le_of_ble_eq_true rfl, Nat.le_of_ble_eq_true rfl⟩ hl.1 rfl (Nat.le_of_ble_eq_true rfl) dX2_withChild_108 ⟨Nat.le_of_ble_eq_true rfl, Nat.le_of_ble_eq_true rfl⟩) hX (fun r_66 μ_64 H locs q_65 hX hz => ?_)
  obtain ⟨rfl, hF3⟩ := q_65
  refine W.eq (g2 := F0 m 111 ls [.int (nI (tws σ i 4 12 (σ 6 (σ 8 i)))), .long (mix (mix (mix (mix (mix (mix (mix (mix a (nI (σ 8 i))) (nI (σ 10 i))) (nI (σ 11 i))) (nI (σ 12 i))) (nI (σ 13 i))) (nI (vDay σ i))) (nI (vGrt σ i))) (utl σ i 10 101 0))]) rfl ?_
  refine w_call (w_runS (n := 2) (As := [.long (mix (mix (mix (mix (mix (mix (mix (mix a (nI (σ 8 i))) (nI (σ 10 i))) (nI (σ 11 i))) (nI (σ 12 i))) (nI (σ 13 i))) (nI (vDay σ i))) (nI (vGrt σ i))) (utl σ i 10 101 0)), .int (nI (tws σ i 4 12 (σ 6 (σ 8 i))))]) (rest := []) hx hb hml hown hX (c_X2_mixed l g μ_64 H.size) kw427 kw1 kw425 kw426 wn_X2_mixed rfl ⟨Nat.le_of_ble_eq_true rfl, Nat.le_of_ble_eq_true rfl⟩ hl.1 rfl (Nat.le_of_ble_eq_true rfl) dX2_withChild_111 ⟨Nat.le_of_ble_eq_true rfl, Nat.le_of_ble_eq_true rfl⟩) hX (fun r_69 μ_67 H locs q_68 hX hz => ?_)
  obtain ⟨rfl, e_70⟩ := q_68
  rw [e_70] at hX
  refine W.eq (g2 := F0 m 114 ls [.long (mix (mix (mix (mix (mix (mix (mix (mix (mix a (nI (σ 8 i))) (nI (σ 10 i))) (nI (σ 11 i))) (nI (σ 12 i))) (nI (σ 13 i))) (nI (vDay σ i))) (nI (vGrt σ i))) (utl σ i 10 101 0)) (nI (tws σ i 4 12 (σ 6 (σ 8 i)))))]) rfl ?_
  refine lv_lstore (lv' := [(4, .long (mix (mix (mix (mix (mix (mix (mix (mix (mix a (nI (σ 8 i))) (nI (σ 10 i))) (nI (σ 11 i))) (nI (σ 12 i))) (nI (σ 13 i))) (nI (vDay σ i))) (nI (vGrt σ i))) (utl σ i 10 101 0)) (nI (tws σ i 4 12 (σ 6 (σ 8 i)))))), (0, .ref (Λ 0 0)), (1, .long a), (3, .int (nI i))]) hx hb dX2_withChild_114 hl (by decide) rfl (fun ls hl => ?_)
  refine lv_lload hx hb dX2_withChild_116 (lv_at hl 0 rfl) ?_
  refine lv_aload_n hx hb dX2_withChild_118 rfl (lv_at hl 1 rfl) ?_
  refine lv_iload_n hx hb dX2_withChild_119 rfl (lv_at hl 3 rfl) ?_
  refine lv_iconst (v := nI 3) hx hb dX2_withChild_120 (by decide) ?_
  refine w_call (w_runV (n := 2) (As := [.int (nI i), .int (nI 3)]) (rest := [.long (mix (mix (mix (mix (mix (mix (mix (mix (mix a (nI (σ 8 i))) (nI (σ 10 i))) (nI (σ 11 i))) (nI (σ 12 i))) (nI (σ 13 i))) (nI (vDay σ i))) (nI (vGrt σ i))) (utl σ i 10 101 0)) (nI (tws σ i 4 12 (σ 6 (σ 8 i)))))]) hx hb hml hown hX (c_X2_fallWanted_g l g μ_64 H.size hF3 hO hi (by omega) (by omega)) kw458 kw1 kw455 kw456 kw457 wn_X2_fallWanted rfl hF3.1 rfl ⟨Nat.le_of_ble_eq_true rfl, Nat.le_of_ble_eq_true rfl⟩ hl.1 rfl (Nat.le_of_ble_eq_true rfl) dX2_withChild_121 ⟨Nat.le_of_ble_eq_true rfl, Nat.le_of_ble_eq_true rfl⟩) hX (fun r_73 μ_71 H locs q_72 hX hz => ?_)
  obtain ⟨rfl, hF4⟩ := q_72
  refine W.eq (g2 := F0 m 124 ls [.int (wtd σ i 3 21 0), .long (mix (mix (mix (mix (mix (mix (mix (mix (mix a (nI (σ 8 i))) (nI (σ 10 i))) (nI (σ 11 i))) (nI (σ 12 i))) (nI (σ 13 i))) (nI (vDay σ i))) (nI (vGrt σ i))) (utl σ i 10 101 0)) (nI (tws σ i 4 12 (σ 6 (σ 8 i)))))]) rfl ?_
  refine w_call (w_runS (n := 2) (As := [.long (mix (mix (mix (mix (mix (mix (mix (mix (mix a (nI (σ 8 i))) (nI (σ 10 i))) (nI (σ 11 i))) (nI (σ 12 i))) (nI (σ 13 i))) (nI (vDay σ i))) (nI (vGrt σ i))) (utl σ i 10 101 0)) (nI (tws σ i 4 12 (σ 6 (σ 8 i))))), .int (wtd σ i 3 21 0)]) (rest := []) hx hb hml hown hX (c_X2_mixed l g μ_71 H.size) kw427 kw1 kw425 kw426 wn_X2_mixed rfl ⟨Nat.le_of_ble_eq_true rfl, Nat.le_of_ble_eq_true rfl⟩ hl.1 rfl (Nat.le_of_ble_eq_true rfl) dX2_withChild_124 ⟨Nat.le_of_ble_eq_true rfl, Nat.le_of_ble_eq_true rfl⟩) hX (fun r_76 μ_74 H locs q_75 hX hz => ?_)
  obtain ⟨rfl, e_77⟩ := q_75
  rw [e_77] at hX
  refine W.eq (g2 := F0 m 127 ls [.long (mix (mix (mix (mix (mix (mix (mix (mix (mix (mix a (nI (σ 8 i))) (nI (σ 10 i))) (nI (σ 11 i))) (nI (σ 12 i))) (nI (σ 13 i))) (nI (vDay σ i))) (nI (vGrt σ i))) (utl σ i 10 101 0)) (nI (tws σ i 4 12 (σ 6 (σ 8 i))))) (wtd σ i 3 21 0))]) rfl ?_
  refine lv_lstore (lv' := [(4, .long (mix (mix (mix (mix (mix (mix (mix (mix (mix (mix a (nI (σ 8 i))) (nI (σ 10 i))) (nI (σ 11 i))) (nI (σ 12 i))) (nI (σ 13 i))) (nI (vDay σ i))) (nI (vGrt σ i))) (utl σ i 10 101 0)) (nI (tws σ i 4 12 (σ 6 (σ 8 i))))) (wtd σ i 3 21 0))), (0, .ref (Λ 0 0)), (1, .long a), (3, .int (nI i))]) hx hb dX2_withChild_127 hl (by decide) rfl (fun ls hl => ?_)
  refine lv_lload hx hb dX2_withChild_129 (lv_at hl 0 rfl) ?_
  exact w_lret hx hb hr hlocks hX ⟨rfl, hF4⟩ ⟨Nat.le_of_ble_eq_true rfl, Nat.le_of_ble_eq_true rfl⟩ dX2_withChild_131

set_option maxHeartbeats 4000000 in
set_option maxRecDepth 100000 in
/-- the digest -/
theorem c_X2_digest (l : Launch) (g : wG) (μ : wMu) (zz : Nat) {Λ σ : sSt} {xv : Option Int64} (hF : fD g Λ xv σ μ) (hO : sOk σ)  : wMet l yX2_digest cX2_digest 4 (some .long) 7 0 0 158 g [.ref (Λ 0 0)] μ zz (fun r μ' => r = some (.long (vDig σ)) ∧ fD g Λ xv σ μ') := by
  refine wMet.of (by decide) (Nat.le_of_ble_eq_true rfl) ?_
  intro p e s m below meth c ls hx hb hr hml hown hlocks hin hl hsz hX
  have hl : lv_has ls 4 [(0, .ref (Λ 0 0))] := hl
  obtain ⟨f1, ⟨m1, f2⟩, ⟨m2, f3⟩, f4, f5, f6, f7, ⟨t1, t2, t3, t4, f8⟩, ⟨u1, u2, u3, u4, u5, f9⟩, f10, f11⟩ := id hF
  obtain ⟨o1, o2, o3, o4, o5, o6, o7⟩ := id hO
  refine lv_ldc2 (v := 2267) hx hb hown (hX.w kw423) dX2_digest_0 ?_
  refine lv_lstore_n (lv' := [(1, .long (2267 : Int64)), (0, .ref (Λ 0 0))]) hx hb dX2_digest_3 rfl hl (by decide) rfl (fun ls hl => ?_)
  refine lv_lload_n hx hb dX2_digest_4 rfl (lv_at hl 0 rfl) ?_
  refine lv_aload_n hx hb dX2_digest_5 rfl (lv_at hl 1 rfl) ?_
  refine w_call (w_runV (n := 0) (As := []) (rest := [.long (2267 : Int64)]) hx hb hml hown hX (c_X2_hour l g μ s.heap.size hF hO) kw304 kw1 kw424 kw302 kw303 wn_X2_hour rfl f1 rfl ⟨Nat.le_of_ble_eq_true rfl, Nat.le_of_ble_eq_true rfl⟩ hl.1 rfl (Nat.le_of_ble_eq_true rfl) dX2_digest_6 ⟨Nat.le_of_ble_eq_true rfl, Nat.le_of_ble_eq_true rfl⟩) hX (fun r_3 μ_1 H locs q_2 hX hz => ?_)
  obtain ⟨rfl, e_4⟩ := q_2
  rw [e_4] at hX
  refine W.eq (g2 := F0 m 9 ls [.int (nI (σ 0 0)), .long (2267 : Int64)]) rfl ?_
  refine w_call (w_runS (n := 2) (As := [.long (2267 : Int64), .int (nI (σ 0 0))]) (rest := []) hx hb hml hown hX (c_X2_mixed l g μ H.size) kw427 kw1 kw425 kw426 wn_X2_mixed rfl ⟨Nat.le_of_ble_eq_true rfl, Nat.le_of_ble_eq_true rfl⟩ hl.1 rfl (Nat.le_of_ble_eq_true rfl) dX2_digest_9 ⟨Nat.le_of_ble_eq_true rfl, Nat.le_of_ble_eq_true rfl⟩) hX (fun r_7 μ_5 H locs q_6 hX hz => ?_)
  obtain ⟨rfl, e_8⟩ := q_6
  rw [e_8] at hX
  refine W.eq (g2 := F0 m 12 ls [.long (mix (2267 : Int64) (nI (σ 0 0)))]) rfl ?_
  refine lv_lstore_n (lv' := [(1, .long (mix (2267 : Int64) (nI (σ 0 0)))), (0, .ref (Λ 0 0))]) hx hb dX2_digest_12 rfl hl (by decide) rfl (fun ls hl => ?_)
  refine lv_lload_n hx hb dX2_digest_13 rfl (lv_at hl 0 rfl) ?_
  refine lv_aload_n hx hb dX2_digest_14 rfl (lv_at hl 1 rfl) ?_
  refine w_call (w_runV (n := 0) (As := []) (rest := [.long (mix (2267 : Int64) (nI (σ 0 0)))]) hx hb hml hown hX (c_X2_day l g μ H.size hF hO) kw308 kw1 kw367 kw306 kw307 wn_X2_day rfl f1 rfl ⟨Nat.le_of_ble_eq_true rfl, Nat.le_of_ble_eq_true rfl⟩ hl.1 rfl (Nat.le_of_ble_eq_true rfl) dX2_digest_15 ⟨Nat.le_of_ble_eq_true rfl, Nat.le_of_ble_eq_true rfl⟩) hX (fun r_11 μ_9 H locs q_10 hX hz => ?_)
  obtain ⟨rfl, e_12⟩ := q_10
  rw [e_12] at hX
  refine W.eq (g2 := F0 m 18 ls [.int (nI (σ 0 0 / 24)), .long (mix (2267 : Int64) (nI (σ 0 0)))]) rfl ?_
  refine w_call (w_runS (n := 2) (As := [.long (mix (2267 : Int64) (nI (σ 0 0))), .int (nI (σ 0 0 / 24))]) (rest := []) hx hb hml hown hX (c_X2_mixed l g μ H.size) kw427 kw1 kw425 kw426 wn_X2_mixed rfl ⟨Nat.le_of_ble_eq_true rfl, Nat.le_of_ble_eq_true rfl⟩ hl.1 rfl (Nat.le_of_ble_eq_true rfl) dX2_digest_18 ⟨Nat.le_of_ble_eq_true rfl, Nat.le_of_ble_eq_true rfl⟩) hX (fun r_15 μ_13 H locs q_14 hX hz => ?_)
  obtain ⟨rfl, e_16⟩ := q_14
  rw [e_16] at hX
  refine W.eq (g2 := F0 m 21 ls [.long (mix (mix (2267 : Int64) (nI (σ 0 0))) (nI (σ 0 0 / 24)))]) rfl ?_
  refine lv_lstore_n (lv' := [(1, .long (mix (mix (2267 : Int64) (nI (σ 0 0))) (nI (σ 0 0 / 24)))), (0, .ref (Λ 0 0))]) hx hb dX2_digest_21 rfl hl (by decide) rfl (fun ls hl => ?_)
  refine lv_lload_n hx hb dX2_digest_22 rfl (lv_at hl 0 rfl) ?_
  refine lv_aload_n hx hb dX2_digest_23 rfl (lv_at hl 1 rfl) ?_
  refine w_call (w_runV (n := 0) (As := []) (rest := [.long (mix (mix (2267 : Int64) (nI (σ 0 0))) (nI (σ 0 0 / 24)))]) hx hb hml hown hX (c_X2_wands l g μ H.size hF hO) kw312 kw1 kw429 kw310 kw311 wn_X2_wands rfl f1 rfl ⟨Nat.le_of_ble_eq_true rfl, Nat.le_of_ble_eq_true rfl⟩ hl.1 rfl (Nat.le_of_ble_eq_true rfl) dX2_digest_24 ⟨Nat.le_of_ble_eq_true rfl, Nat.le_of_ble_eq_true rfl⟩) hX (fun r_19 μ_17 H locs q_18 hX hz => ?_)
  obtain ⟨rfl, e_20⟩ := q_18
  rw [e_20] at hX
  refine W.eq (g2 := F0 m 27 ls [.int (nI (σ 3 0)), .long (mix (mix (2267 : Int64) (nI (σ 0 0))) (nI (σ 0 0 / 24)))]) rfl ?_
  refine w_call (w_runS (n := 2) (As := [.long (mix (mix (2267 : Int64) (nI (σ 0 0))) (nI (σ 0 0 / 24))), .int (nI (σ 3 0))]) (rest := []) hx hb hml hown hX (c_X2_mixed l g μ H.size) kw427 kw1 kw425 kw426 wn_X2_mixed rfl ⟨Nat.le_of_ble_eq_true rfl, Nat.le_of_ble_eq_true rfl⟩ hl.1 rfl (Nat.le_of_ble_eq_true rfl) dX2_digest_27 ⟨Nat.le_of_ble_eq_true rfl, Nat.le_of_ble_eq_true rfl⟩) hX (fun r_23 μ_21 H locs q_22 hX hz => ?_)
  obtain ⟨rfl, e_24⟩ := q_22
  rw [e_24] at hX
  refine W.eq (g2 := F0 m 30 ls [.long (mix (mix (mix (2267 : Int64) (nI (σ 0 0))) (nI (σ 0 0 / 24))) (nI (σ 3 0)))]) rfl ?_
  refine lv_lstore_n (lv' := [(1, .long (mix (mix (mix (2267 : Int64) (nI (σ 0 0))) (nI (σ 0 0 / 24))) (nI (σ 3 0)))), (0, .ref (Λ 0 0))]) hx hb dX2_digest_30 rfl hl (by decide) rfl (fun ls hl => ?_)
  refine lv_lload_n hx hb dX2_digest_31 rfl (lv_at hl 0 rfl) ?_
  refine lv_aload_n hx hb dX2_digest_32 rfl (lv_at hl 1 rfl) ?_
  refine w_call (w_runV (n := 0) (As := []) (rest := [.long (mix (mix (mix (2267 : Int64) (nI (σ 0 0))) (nI (σ 0 0 / 24))) (nI (σ 3 0)))]) hx hb hml hown hX (c_X2_children l g μ H.size hF hO) kw316 kw1 kw430 kw314 kw315 wn_X2_children rfl f1 rfl ⟨Nat.le_of_ble_eq_true rfl, Nat.le_of_ble_eq_true rfl⟩ hl.1 rfl (Nat.le_of_ble_eq_true rfl) dX2_digest_33 ⟨Nat.le_of_ble_eq_true rfl, Nat.le_of_ble_eq_true rfl⟩) hX (fun r_27 μ_25 H locs q_26 hX hz => ?_)
  obtain ⟨rfl, e_28⟩ := q_26
  rw [e_28] at hX
  refine W.eq (g2 := F0 m 36 ls [.int (nI (σ 4 0)), .long (mix (mix (mix (2267 : Int64) (nI (σ 0 0))) (nI (σ 0 0 / 24))) (nI (σ 3 0)))]) rfl ?_
  refine w_call (w_runS (n := 2) (As := [.long (mix (mix (mix (2267 : Int64) (nI (σ 0 0))) (nI (σ 0 0 / 24))) (nI (σ 3 0))), .int (nI (σ 4 0))]) (rest := []) hx hb hml hown hX (c_X2_mixed l g μ H.size) kw427 kw1 kw425 kw426 wn_X2_mixed rfl ⟨Nat.le_of_ble_eq_true rfl, Nat.le_of_ble_eq_true rfl⟩ hl.1 rfl (Nat.le_of_ble_eq_true rfl) dX2_digest_36 ⟨Nat.le_of_ble_eq_true rfl, Nat.le_of_ble_eq_true rfl⟩) hX (fun r_31 μ_29 H locs q_30 hX hz => ?_)
  obtain ⟨rfl, e_32⟩ := q_30
  rw [e_32] at hX
  refine W.eq (g2 := F0 m 39 ls [.long (mix (mix (mix (mix (2267 : Int64) (nI (σ 0 0))) (nI (σ 0 0 / 24))) (nI (σ 3 0))) (nI (σ 4 0)))]) rfl ?_
  refine lv_lstore_n (lv' := [(1, .long (mix (mix (mix (mix (2267 : Int64) (nI (σ 0 0))) (nI (σ 0 0 / 24))) (nI (σ 3 0))) (nI (σ 4 0)))), (0, .ref (Λ 0 0))]) hx hb dX2_digest_39 rfl hl (by decide) rfl (fun ls hl => ?_)
  refine lv_lload_n hx hb dX2_digest_40 rfl (lv_at hl 0 rfl) ?_
  refine lv_aload_n hx hb dX2_digest_41 rfl (lv_at hl 1 rfl) ?_
  refine w_call (w_runV (n := 0) (As := []) (rest := [.long (mix (mix (mix (mix (2267 : Int64) (nI (σ 0 0))) (nI (σ 0 0 / 24))) (nI (σ 3 0))) (nI (σ 4 0)))]) hx hb hml hown hX (c_X2_granted l g μ H.size hF hO) kw320 kw1 kw431 kw318 kw319 wn_X2_granted rfl f1 rfl ⟨Nat.le_of_ble_eq_true rfl, Nat.le_of_ble_eq_true rfl⟩ hl.1 rfl (Nat.le_of_ble_eq_true rfl) dX2_digest_42 ⟨Nat.le_of_ble_eq_true rfl, Nat.le_of_ble_eq_true rfl⟩) hX (fun r_35 μ_33 H locs q_34 hX hz => ?_)
  obtain ⟨rfl, e_36⟩ := q_34
  rw [e_36] at hX
  refine W.eq (g2 := F0 m 45 ls [.int (nI (σ 1 0)), .long (mix (mix (mix (mix (2267 : Int64) (nI (σ 0 0))) (nI (σ 0 0 / 24))) (nI (σ 3 0))) (nI (σ 4 0)))]) rfl ?_
  refine w_call (w_runS (n := 2) (As := [.long (mix (mix (mix (mix (2267 : Int64) (nI (σ 0 0))) (nI (σ 0 0 / 24))) (nI (σ 3 0))) (nI (σ 4 0))), .int (nI (σ 1 0))]) (rest := []) hx hb hml hown hX (c_X2_mixed l g μ H.size) kw427 kw1 kw425 kw426 wn_X2_mixed rfl ⟨Nat.le_of_ble_eq_true rfl, Nat.le_of_ble_eq_true rfl⟩ hl.1 rfl (Nat.le_of_ble_eq_true rfl) dX2_digest_45 ⟨Nat.le_of_ble_eq_true rfl, Nat.le_of_ble_eq_true rfl⟩) hX (fun r_39 μ_37 H locs q_38 hX hz => ?_)
  obtain ⟨rfl, e_40⟩ := q_38
  rw [e_40] at hX
  refine W.eq (g2 := F0 m 48 ls [.long (mix (mix (mix (mix (mix (2267 : Int64) (nI (σ 0 0))) (nI (σ 0 0 / 24))) (nI (σ 3 0))) (nI (σ 4 0))) (nI (σ 1 0)))]) rfl ?_
  refine lv_lstore_n (lv' := [(1, .long (mix (mix (mix (mix (mix (2267 : Int64) (nI (σ 0 0))) (nI (σ 0 0 / 24))) (nI (σ 3 0))) (nI (σ 4 0))) (nI (σ 1 0)))), (0, .ref (Λ 0 0))]) hx hb dX2_digest_48 rfl hl (by decide) rfl (fun ls hl => ?_)
  refine lv_lload_n hx hb dX2_digest_49 rfl (lv_at hl 0 rfl) ?_
  refine lv_aload_n hx hb dX2_digest_50 rfl (lv_at hl 1 rfl) ?_
  refine w_call (w_runV (n := 0) (As := []) (rest := [.long (mix (mix (mix (mix (mix (2267 : Int64) (nI (σ 0 0))) (nI (σ 0 0 / 24))) (nI (σ 3 0))) (nI (σ 4 0))) (nI (σ 1 0)))]) hx hb hml hown hX (c_X2_denied l g μ H.size hF hO) kw324 kw1 kw432 kw322 kw323 wn_X2_denied rfl f1 rfl ⟨Nat.le_of_ble_eq_true rfl, Nat.le_of_ble_eq_true rfl⟩ hl.1 rfl (Nat.le_of_ble_eq_true rfl) dX2_digest_51 ⟨Nat.le_of_ble_eq_true rfl, Nat.le_of_ble_eq_true rfl⟩) hX (fun r_43 μ_41 H locs q_42 hX hz => ?_)
  obtain ⟨rfl, e_44⟩ := q_42
  rw [e_44] at hX
  refine W.eq (g2 := F0 m 54 ls [.int (nI (σ 2 0)), .long (mix (mix (mix (mix (mix (2267 : Int64) (nI (σ 0 0))) (nI (σ 0 0 / 24))) (nI (σ 3 0))) (nI (σ 4 0))) (nI (σ 1 0)))]) rfl ?_
  refine w_call (w_runS (n := 2) (As := [.long (mix (mix (mix (mix (mix (2267 : Int64) (nI (σ 0 0))) (nI (σ 0 0 / 24))) (nI (σ 3 0))) (nI (σ 4 0))) (nI (σ 1 0))), .int (nI (σ 2 0))]) (rest := []) hx hb hml hown hX (c_X2_mixed l g μ H.size) kw427 kw1 kw425 kw426 wn_X2_mixed rfl ⟨Nat.le_of_ble_eq_true rfl, Nat.le_of_ble_eq_true rfl⟩ hl.1 rfl (Nat.le_of_ble_eq_true rfl) dX2_digest_54 ⟨Nat.le_of_ble_eq_true rfl, Nat.le_of_ble_eq_true rfl⟩) hX (fun r_47 μ_45 H locs q_46 hX hz => ?_)
  obtain ⟨rfl, e_48⟩ := q_46
  rw [e_48] at hX
  refine W.eq (g2 := F0 m 57 ls [.long (mix (mix (mix (mix (mix (mix (2267 : Int64) (nI (σ 0 0))) (nI (σ 0 0 / 24))) (nI (σ 3 0))) (nI (σ 4 0))) (nI (σ 1 0))) (nI (σ 2 0)))]) rfl ?_
  refine lv_lstore_n (lv' := [(1, .long (mix (mix (mix (mix (mix (mix (2267 : Int64) (nI (σ 0 0))) (nI (σ 0 0 / 24))) (nI (σ 3 0))) (nI (σ 4 0))) (nI (σ 1 0))) (nI (σ 2 0)))), (0, .ref (Λ 0 0))]) hx hb dX2_digest_57 rfl hl (by decide) rfl (fun ls hl => ?_)
  refine lv_lload_n hx hb dX2_digest_58 rfl (lv_at hl 0 rfl) ?_
  refine lv_aload_n hx hb dX2_digest_59 rfl (lv_at hl 1 rfl) ?_
  refine w_call (w_runV (n := 0) (As := []) (rest := [.long (mix (mix (mix (mix (mix (mix (2267 : Int64) (nI (σ 0 0))) (nI (σ 0 0 / 24))) (nI (σ 3 0))) (nI (σ 4 0))) (nI (σ 1 0))) (nI (σ 2 0)))]) hx hb hml hown hX (c_X2_punished l g μ H.size hF hO) kw328 kw1 kw433 kw326 kw327 wn_X2_punished rfl f1 rfl ⟨Nat.le_of_ble_eq_true rfl, Nat.le_of_ble_eq_true rfl⟩ hl.1 rfl (Nat.le_of_ble_eq_true rfl) dX2_digest_60 ⟨Nat.le_of_ble_eq_true rfl, Nat.le_of_ble_eq_true rfl⟩) hX (fun r_51 μ_49 H locs q_50 hX hz => ?_)
  obtain ⟨rfl, e_52⟩ := q_50
  rw [e_52] at hX
  refine W.eq (g2 := F0 m 63 ls [.int (nI (cHel σ (σ 4 0))), .long (mix (mix (mix (mix (mix (mix (2267 : Int64) (nI (σ 0 0))) (nI (σ 0 0 / 24))) (nI (σ 3 0))) (nI (σ 4 0))) (nI (σ 1 0))) (nI (σ 2 0)))]) rfl ?_
  refine w_call (w_runS (n := 2) (As := [.long (mix (mix (mix (mix (mix (mix (2267 : Int64) (nI (σ 0 0))) (nI (σ 0 0 / 24))) (nI (σ 3 0))) (nI (σ 4 0))) (nI (σ 1 0))) (nI (σ 2 0))), .int (nI (cHel σ (σ 4 0)))]) (rest := []) hx hb hml hown hX (c_X2_mixed l g μ H.size) kw427 kw1 kw425 kw426 wn_X2_mixed rfl ⟨Nat.le_of_ble_eq_true rfl, Nat.le_of_ble_eq_true rfl⟩ hl.1 rfl (Nat.le_of_ble_eq_true rfl) dX2_digest_63 ⟨Nat.le_of_ble_eq_true rfl, Nat.le_of_ble_eq_true rfl⟩) hX (fun r_55 μ_53 H locs q_54 hX hz => ?_)
  obtain ⟨rfl, e_56⟩ := q_54
  rw [e_56] at hX
  refine W.eq (g2 := F0 m 66 ls [.long (mix (mix (mix (mix (mix (mix (mix (2267 : Int64) (nI (σ 0 0))) (nI (σ 0 0 / 24))) (nI (σ 3 0))) (nI (σ 4 0))) (nI (σ 1 0))) (nI (σ 2 0))) (nI (cHel σ (σ 4 0))))]) rfl ?_
  refine lv_lstore_n (lv' := [(1, .long (mix (mix (mix (mix (mix (mix (mix (2267 : Int64) (nI (σ 0 0))) (nI (σ 0 0 / 24))) (nI (σ 3 0))) (nI (σ 4 0))) (nI (σ 1 0))) (nI (σ 2 0))) (nI (cHel σ (σ 4 0))))), (0, .ref (Λ 0 0))]) hx hb dX2_digest_66 rfl hl (by decide) rfl (fun ls hl => ?_)
  refine lv_lload_n hx hb dX2_digest_67 rfl (lv_at hl 0 rfl) ?_
  refine lv_aload_n hx hb dX2_digest_68 rfl (lv_at hl 1 rfl) ?_
  refine lv_iconst (v := nI 5) hx hb dX2_digest_69 (by decide) ?_
  refine w_call (w_runV (n := 1) (As := [.int (nI 5)]) (rest := [.long (mix (mix (mix (mix (mix (mix (mix (2267 : Int64) (nI (σ 0 0))) (nI (σ 0 0 / 24))) (nI (σ 3 0))) (nI (σ 4 0))) (nI (σ 1 0))) (nI (σ 2 0))) (nI (cHel σ (σ 4 0))))]) hx hb hml hown hX (c_X2_bestChild_g l g μ H.size hF hO (by omega) (by omega)) kw417 kw1 kw434 kw415 kw416 wn_X2_bestChild rfl f1 rfl ⟨Nat.le_of_ble_eq_true rfl, Nat.le_of_ble_eq_true rfl⟩ hl.1 rfl (Nat.le_of_ble_eq_true rfl) dX2_digest_70 ⟨Nat.le_of_ble_eq_true rfl, Nat.le_of_ble_eq_true rfl⟩) hX (fun r_59 μ_57 H locs q_58 hX hz => ?_)
  obtain ⟨rfl, e_60⟩ := q_58
  rw [e_60] at hX
  refine W.eq (g2 := F0 m 73 ls [.int (vBst σ 5), .long (mix (mix (mix (mix (mix (mix (mix (2267 : Int64) (nI (σ 0 0))) (nI (σ 0 0 / 24))) (nI (σ 3 0))) (nI (σ 4 0))) (nI (σ 1 0))) (nI (σ 2 0))) (nI (cHel σ (σ 4 0))))]) rfl ?_
  refine w_call (w_runS (n := 2) (As := [.long (mix (mix (mix (mix (mix (mix (mix (2267 : Int64) (nI (σ 0 0))) (nI (σ 0 0 / 24))) (nI (σ 3 0))) (nI (σ 4 0))) (nI (σ 1 0))) (nI (σ 2 0))) (nI (cHel σ (σ 4 0)))), .int (vBst σ 5)]) (rest := []) hx hb hml hown hX (c_X2_mixed l g μ H.size) kw427 kw1 kw425 kw426 wn_X2_mixed rfl ⟨Nat.le_of_ble_eq_true rfl, Nat.le_of_ble_eq_true rfl⟩ hl.1 rfl (Nat.le_of_ble_eq_true rfl) dX2_digest_73 ⟨Nat.le_of_ble_eq_true rfl, Nat.le_of_ble_eq_true rfl⟩) hX (fun r_63 μ_61 H locs q_62 hX hz => ?_)
  obtain ⟨rfl, e_64⟩ := q_62
  rw [e_64] at hX
  refine W.eq (g2 := F0 m 76 ls [.long (mix (mix (mix (mix (mix (mix (mix (mix (2267 : Int64) (nI (σ 0 0))) (nI (σ 0 0 / 24))) (nI (σ 3 0))) (nI (σ 4 0))) (nI (σ 1 0))) (nI (σ 2 0))) (nI (cHel σ (σ 4 0)))) (vBst σ 5))]) rfl ?_
  refine lv_lstore_n (lv' := [(1, .long (mix (mix (mix (mix (mix (mix (mix (mix (2267 : Int64) (nI (σ 0 0))) (nI (σ 0 0 / 24))) (nI (σ 3 0))) (nI (σ 4 0))) (nI (σ 1 0))) (nI (σ 2 0))) (nI (cHel σ (σ 4 0)))) (vBst σ 5))), (0, .ref (Λ 0 0))]) hx hb dX2_digest_76 rfl hl (by decide) rfl (fun ls hl => ?_)
  refine lv_iconst (v := nI 0) hx hb dX2_digest_77 (by decide) ?_
  refine lv_istore_n (lv' := [(3, .int (nI 0)), (1, .long (mix (mix (mix (mix (mix (mix (mix (mix (2267 : Int64) (nI (σ 0 0))) (nI (σ 0 0 / 24))) (nI (σ 3 0))) (nI (σ 4 0))) (nI (σ 1 0))) (nI (σ 2 0))) (nI (cHel σ (σ 4 0)))) (vBst σ 5))), (0, .ref (Λ 0 0))]) hx hb dX2_digest_78 rfl hl (by decide) rfl (fun ls hl => ?_)
  have hloop : ∀ (n : Nat) (i : Nat) (H : Heap) (locs : List Loc) (ls : Array Slot), σ 3 0 < i + n → i ≤ σ 3 0 → wX g (wA μ zz) s H locs μ → lv_has ls 4 [(3, .int (nI i)), (1, .long (dgW σ (dg0 σ) i)), (0, .ref (Λ 0 0))] → W p l e ({ frames := 7, cells := 0, slots := 0, locals := 158 } : Room) s m ([.ref (Λ 0 0)] : List Value).toArray below meth c H locs 0 0 (MQ below (wQc g μ zz (fun r μ' => r = some (.long (vDig σ)) ∧ fD g Λ xv σ μ')) ([.ref (Λ 0 0)] : List Value).toArray s 0 0 (wA μ zz)) (F0 m 79 ls []) := by
    intro n
    induction n with
    | zero => intro i H locs ls hn hi hX hl; exact absurd hn (by omega)
    | succ n ih =>
      intro i H locs ls hn hi hX hl
      refine lv_iload_n hx hb dX2_digest_79 rfl (lv_at hl 0 rfl) ?_
      refine lv_aload_n hx hb dX2_digest_80 rfl (lv_at hl 2 rfl) ?_
      refine gX2_0 hx hb hX hown f1 kw108 dX2_digest_81 ?_
      refine w_call (w_runV (n := 0) (As := []) (rest := [.int (nI i)]) hx hb hml hown hX (c_Jx4a65c_size_8abf5 l g μ H.size f2) kw141 kw4 kw138 kw139 kw140 wn_Jx4a65c_size_8abf5 rfl f2 rfl ⟨Nat.le_of_ble_eq_true rfl, Nat.le_of_ble_eq_true rfl⟩ hl.1 rfl (Nat.le_of_ble_eq_true rfl) dX2_digest_84 ⟨Nat.le_of_ble_eq_true rfl, Nat.le_of_ble_eq_true rfl⟩) hX (fun r_67 μ_65 H locs q_66 hX hz => ?_)
      obtain ⟨rfl, e_68⟩ := q_66
      rw [e_68] at hX
      refine W.eq (g2 := F0 m 87 ls [.int (nI (σ 3 0)), .int (nI i)]) rfl ?_
      refine n_ge (tgt := 103) hx hb (by omega) (by omega) dX2_digest_87 (by decide) (fun c_69 => ?_) (fun c_69 => ?_)
      · skip
        refine lv_iconst (v := nI 0) hx hb dX2_digest_103 (by decide) ?_
        refine lv_istore_n (lv' := [(3, .int (nI 0)), (1, .long (dgW σ (dg0 σ) i)), (0, .ref (Λ 0 0))]) hx hb dX2_digest_104 rfl hl (by decide) rfl (fun ls hl => ?_)
        obtain rfl : i = σ 3 0 := by omega
        have hloop2 : ∀ (n : Nat) (i : Nat) (ν : wMu) (H : Heap) (locs : List Loc) (ls : Array Slot), σ 4 0 < i + n → i ≤ σ 4 0 → fD g Λ xv σ ν → wX g (wA μ zz) s H locs ν → lv_has ls 4 [(3, .int (nI i)), (1, .long (dgC σ (dgW σ (dg0 σ) (σ 3 0)) i)), (0, .ref (Λ 0 0))] → W p l e ({ frames := 7, cells := 0, slots := 0, locals := 158 } : Room) s m ([.ref (Λ 0 0)] : List Value).toArray below meth c H locs 0 0 (MQ below (wQc g μ zz (fun r μ' => r = some (.long (vDig σ)) ∧ fD g Λ xv σ μ')) ([.ref (Λ 0 0)] : List Value).toArray s 0 0 (wA μ zz)) (F0 m 105 ls []) := by
          intro n
          induction n with
          | zero => intro i ν H locs ls hn hi hF hX hl; exact absurd hn (by omega)
          | succ n ih =>
            intro i ν H locs ls hn hi hF hX hl
            obtain ⟨f1, ⟨m1, f2⟩, ⟨m2, f3⟩, f4, f5, f6, f7, ⟨t1, t2, t3, t4, f8⟩, ⟨u1, u2, u3, u4, u5, f9⟩, f10, f11⟩ := id hF
            refine lv_iload_n hx hb dX2_digest_105 rfl (lv_at hl 0 rfl) ?_
            refine lv_aload_n hx hb dX2_digest_106 rfl (lv_at hl 2 rfl) ?_
            refine gX2_1 hx hb hX hown f1 kw109 dX2_digest_107 ?_
            refine w_call (w_runV (n := 0) (As := []) (rest := [.int (nI i)]) hx hb hml hown hX (c_Jx4a65c_size_8abf5 l g ν H.size f3) kw141 kw4 kw138 kw139 kw140 wn_Jx4a65c_size_8abf5 rfl f3 rfl ⟨Nat.le_of_ble_eq_true rfl, Nat.le_of_ble_eq_true rfl⟩ hl.1 rfl (Nat.le_of_ble_eq_true rfl) dX2_digest_110 ⟨Nat.le_of_ble_eq_true rfl, Nat.le_of_ble_eq_true rfl⟩) hX (fun r_72 μ_70 H locs q_71 hX hz => ?_)
            obtain ⟨rfl, e_73⟩ := q_71
            rw [e_73] at hX
            refine W.eq (g2 := F0 m 113 ls [.int (nI (σ 4 0)), .int (nI i)]) rfl ?_
            refine n_ge (tgt := 129) hx hb (by omega) (by omega) dX2_digest_113 (by decide) (fun c_74 => ?_) (fun c_74 => ?_)
            · skip
              refine lv_lload_n hx hb dX2_digest_129 rfl (lv_at hl 1 rfl) ?_
              obtain rfl : i = σ 4 0 := by omega
              exact w_lret hx hb hr hlocks hX ⟨rfl, hF⟩ ⟨Nat.le_of_ble_eq_true rfl, Nat.le_of_ble_eq_true rfl⟩ dX2_digest_130
            · skip
              refine lv_aload_n hx hb dX2_digest_116 rfl (lv_at hl 2 rfl) ?_
              refine lv_lload_n hx hb dX2_digest_117 rfl (lv_at hl 1 rfl) ?_
              refine lv_iload_n hx hb dX2_digest_118 rfl (lv_at hl 0 rfl) ?_
              refine w_call (w_runV (n := 2) (As := [.long (dgC σ (dgW σ (dg0 σ) (σ 3 0)) i), .int (nI i)]) (rest := []) hx hb hml hown hX (c_X2_withChild l g ν H.size hF hO (show i < σ 4 0 by omega)) kw445 kw1 kw442 kw444 kp21 wn_X2_withChild rfl f1 rfl ⟨Nat.le_of_ble_eq_true rfl, Nat.le_of_ble_eq_true rfl⟩ hl.1 rfl (Nat.le_of_ble_eq_true rfl) dX2_digest_119 ⟨Nat.le_of_ble_eq_true rfl, Nat.le_of_ble_eq_true rfl⟩) hX (fun r_77 μ_75 H locs q_76 hX hz => ?_)
              obtain ⟨rfl, hF2⟩ := q_76
              refine W.eq (g2 := F0 m 122 ls [.long (dgC σ (dgW σ (dg0 σ) (σ 3 0)) (i + 1))]) rfl ?_
              refine lv_lstore_n (lv' := [(1, .long (dgC σ (dgW σ (dg0 σ) (σ 3 0)) (i + 1))), (3, .int (nI i)), (0, .ref (Λ 0 0))]) hx hb dX2_digest_122 rfl hl (by decide) rfl (fun ls hl => ?_)
              refine lv_iinc (v := nI (i + 1)) (lv' := [(3, .int (nI (i + 1))), (1, .long (dgC σ (dgW σ (dg0 σ) (σ 3 0)) (i + 1))), (0, .ref (Λ 0 0))]) hx hb dX2_digest_123 hl (k := 1) rfl (nI_inc _) (by decide) rfl (fun ls hl => ?_)
              refine lv_goto (tgt := 105) hx hb dX2_digest_126 (by decide) ?_
              refine ih (i + 1) _ H locs ls (by omega) (by omega) hF2 hX ?_
              exact lv_sub hl [0, 1, 2] rfl
        exact hloop2 (σ 4 0 + 1) 0 μ H _ ls (by omega) (by omega) hF hX hl
      · skip
        refine lv_aload_n hx hb dX2_digest_90 rfl (lv_at hl 2 rfl) ?_
        refine lv_lload_n hx hb dX2_digest_91 rfl (lv_at hl 1 rfl) ?_
        refine lv_iload_n hx hb dX2_digest_92 rfl (lv_at hl 0 rfl) ?_
        refine w_call (w_runV (n := 2) (As := [.long (dgW σ (dg0 σ) i), .int (nI i)]) (rest := []) hx hb hml hown hX (c_X2_withWand l g μ H.size hF hO (show i < σ 3 0 by omega)) kw438 kw1 kw435 kw437 kp20 wn_X2_withWand rfl f1 rfl ⟨Nat.le_of_ble_eq_true rfl, Nat.le_of_ble_eq_true rfl⟩ hl.1 rfl (Nat.le_of_ble_eq_true rfl) dX2_digest_93 ⟨Nat.le_of_ble_eq_true rfl, Nat.le_of_ble_eq_true rfl⟩) hX (fun r_80 μ_78 H locs q_79 hX hz => ?_)
        obtain ⟨rfl, e_81⟩ := q_79
        rw [e_81] at hX
        refine W.eq (g2 := F0 m 96 ls [.long (dgW σ (dg0 σ) (i + 1))]) rfl ?_
        refine lv_lstore_n (lv' := [(1, .long (dgW σ (dg0 σ) (i + 1))), (3, .int (nI i)), (0, .ref (Λ 0 0))]) hx hb dX2_digest_96 rfl hl (by decide) rfl (fun ls hl => ?_)
        refine lv_iinc (v := nI (i + 1)) (lv' := [(3, .int (nI (i + 1))), (1, .long (dgW σ (dg0 σ) (i + 1))), (0, .ref (Λ 0 0))]) hx hb dX2_digest_97 hl (k := 1) rfl (nI_inc _) (by decide) rfl (fun ls hl => ?_)
        refine lv_goto (tgt := 79) hx hb dX2_digest_100 (by decide) ?_
        refine ih (i + 1) H locs ls (by omega) (by omega) hX ?_
        exact lv_sub hl [0, 1, 2] rfl
  exact hloop (σ 3 0 + 1) 0 H _ ls (by omega) (by omega) hX hl

