/-! WHAT EVERY STEP KEEPS -/
def gd (σ : sSt) (i : Nat) : Prop := sOk σ ∧ σ 0 0 ≤ 100 * i ∧ σ 1 0 + σ 2 0 ≤ i
theorem gd.up {σ : sSt} {i : Nat} (h : gd σ i) : gd σ (i + 1) := ⟨h.1, by have := h.2.1; omega, by have := h.2.2; omega⟩
theorem gd.zero : gd (fun _ _ => 0) 0 := ⟨⟨Nat.zero_le _, Nat.zero_le _, fun i h => absurd h (Nat.not_lt_zero i), fun i h => absurd h (Nat.not_lt_zero i), fun _ _ => ⟨rfl, rfl⟩, Nat.zero_le _, Nat.zero_le _⟩, Nat.zero_le _, Nat.zero_le _⟩
section GDL
variable {σ : sSt} {i : Nat}
theorem gd.addW (h : gd σ i) {a b : Nat} (h1 : 1 ≤ a) (h2 : a ≤ 60) (h3 : b ≤ 9) (h4 : σ 3 0 < 4) : gd (nAddW σ a b) (i + 1) := by
  obtain ⟨⟨o1, o2, o3, o4, o5, o6, o7⟩, g1, g2⟩ := h
  have hs : ∀ k j, k ≠ 3 → ¬ (5 ≤ k ∧ k ≤ 7 ∧ j = σ 3 0) → nAddW σ a b k j = σ k j := fun k j h3 h5 => by
    simp only [nAddW, up2]
    rw [if_neg (by omega), if_neg (by omega), if_neg (by omega), if_neg (by omega)]
  have s3 : nAddW σ a b 3 0 = σ 3 0 + 1 := by simp [nAddW, up2]
  have s4 : nAddW σ a b 4 0 = σ 4 0 := hs 4 0 (by omega) (by omega)
  have e0 := hs 0 0 (by omega) (by omega)
  have e1 := hs 1 0 (by omega) (by omega)
  have e2 := hs 2 0 (by omega) (by omega)
  refine ⟨⟨by omega, by omega, ?_, ?_, ?_, by omega, by omega⟩, by omega, by omega⟩
  · intro k hk
    rw [s3] at hk
    by_cases e : k = σ 3 0
    · have q5 : nAddW σ a b 5 k = a := by rw [e]; simp [nAddW, up2]
      have q6 : nAddW σ a b 6 k = b := by rw [e]; simp [nAddW, up2]
      have q7 : nAddW σ a b 7 k = a := by rw [e]; simp [nAddW, up2]
      omega
    · have := o3 k (by omega)
      rw [hs 5 k (by omega) (by omega), hs 6 k (by omega) (by omega), hs 7 k (by omega) (by omega)]
      exact this
  · intro j hj
    rw [s4] at hj
    have := o4 j hj
    rw [hs 8 j (by omega) (by omega), hs 9 j (by omega) (by omega), hs 10 j (by omega) (by omega), hs 11 j (by omega) (by omega), hs 12 j (by omega) (by omega), hs 13 j (by omega) (by omega), s3]
    omega
  · intro j hj
    rw [s4] at hj
    rw [hs 11 j (by omega) (by omega), hs 12 j (by omega) (by omega)]
    exact o5 j hj
theorem gd.addC (h : gd σ i) {a b : Nat} (h1 : a < σ 3 0) (h2 : b ≤ 29) (h4 : σ 4 0 < 10) : gd (nAddC σ a b) (i + 1) := by
  obtain ⟨⟨o1, o2, o3, o4, o5, o6, o7⟩, g1, g2⟩ := h
  have hs : ∀ k j, k ≠ 4 → ¬ (8 ≤ k ∧ k ≤ 13 ∧ k ≠ 11 ∧ k ≠ 12 ∧ j = σ 4 0) → nAddC σ a b k j = σ k j := fun k j h3 h5 => by
    simp only [nAddC, up2]
    rw [if_neg (by omega), if_neg (by omega), if_neg (by omega), if_neg (by omega), if_neg (by omega)]
  have s4 : nAddC σ a b 4 0 = σ 4 0 + 1 := by simp [nAddC, up2]
  have s3 : nAddC σ a b 3 0 = σ 3 0 := hs 3 0 (by omega) (by omega)
  have e0 := hs 0 0 (by omega) (by omega)
  have e1 := hs 1 0 (by omega) (by omega)
  have e2 := hs 2 0 (by omega) (by omega)
  have hbd : bstD b (σ 0 0 / 24) ≤ 12 := by unfold bstD; split <;> omega
  have z5 := o5 (σ 4 0) (Nat.le_refl _)
  refine ⟨⟨by omega, by omega, ?_, ?_, ?_, by omega, by omega⟩, by omega, by omega⟩
  · intro k hk
    rw [s3] at hk
    rw [hs 5 k (by omega) (by omega), hs 6 k (by omega) (by omega), hs 7 k (by omega) (by omega)]
    exact o3 k hk
  · intro j hj
    rw [s4] at hj
    rw [s3]
    by_cases e : j = σ 4 0
    · have q8 : nAddC σ a b 8 j = a := by rw [e]; simp [nAddC, up2]
      have q9 : nAddC σ a b 9 j = b := by rw [e]; simp [nAddC, up2]
      have q10 : nAddC σ a b 10 j = bstD b (σ 0 0 / 24) := by rw [e]; simp [nAddC, up2]
      have q11 : nAddC σ a b 11 j = 0 := by rw [hs 11 j (by omega) (by omega), e]; exact z5.1
      have q12 : nAddC σ a b 12 j = 0 := by rw [hs 12 j (by omega) (by omega), e]; exact z5.2
      have q13 : nAddC σ a b 13 j = 4 := by rw [e]; simp [nAddC, up2]
      omega
    · have := o4 j (by omega)
      rw [hs 8 j (by omega) (by omega), hs 9 j (by omega) (by omega), hs 10 j (by omega) (by omega), hs 11 j (by omega) (by omega), hs 12 j (by omega) (by omega), hs 13 j (by omega) (by omega)]
      exact this
  · intro j hj
    rw [s4] at hj
    rw [hs 11 j (by omega) (by omega), hs 12 j (by omega) (by omega)]
    exact o5 j (by omega)
theorem gd.row (h : gd σ i) {σ' : sSt} (hs : ∀ k j, (k ≤ 5 ∨ k = 9) → σ' k j = σ k j) (hw : ∀ k, k < σ 3 0 → σ' 6 k ≤ 9 ∧ σ' 7 k ≤ σ 5 k) (hc : ∀ j, j < σ 4 0 → σ' 8 j < σ 3 0 ∧ σ' 10 j ≤ 12 ∧ σ' 11 j ≤ 48 ∧ σ' 12 j ≤ 2 ∧ σ' 13 j ≤ 32) (hn : ∀ j, σ 4 0 ≤ j → σ' 11 j = 0 ∧ σ' 12 j = 0) : gd σ' i := by
  obtain ⟨⟨o1, o2, o3, o4, o5, o6, o7⟩, g1, g2⟩ := h
  have e0 := hs 0 0 (by omega)
  have e1 := hs 1 0 (by omega)
  have e2 := hs 2 0 (by omega)
  have e3 := hs 3 0 (by omega)
  have e4 := hs 4 0 (by omega)
  refine ⟨⟨by omega, by omega, ?_, ?_, ?_, by omega, by omega⟩, by omega, by omega⟩
  · intro k hk
    rw [e3] at hk
    have := o3 k hk
    have := hw k hk
    rw [hs 5 k (by omega)]
    omega
  · intro j hj
    rw [e4] at hj
    have := o4 j hj
    have := hc j hj
    rw [e3, hs 9 j (by omega)]
    omega
  · intro j hj
    rw [e4] at hj
    exact hn j hj
theorem gd.give (h : gd σ i) {j w : Nat} (h1 : j < σ 4 0) (h2 : w < σ 3 0) : gd (up2 σ 8 j w) (i + 1) := by
  refine (gd.row h (fun k j hk => up2_nf _ (by omega)) (fun k hk => ?_) (fun k hk => ?_) (fun k hk => ?_)).up
  · have := h.1.2.2.1 k hk
    rw [up2_nf _ (by omega), up2_nf _ (by omega)]
    omega
  · have := h.1.2.2.2.1 k hk
    rw [up2_nf (f' := 10) _ (by omega), up2_nf (f' := 11) _ (by omega), up2_nf (f' := 12) _ (by omega), up2_nf (f' := 13) _ (by omega)]
    by_cases e : k = j
    · rw [e, up2_self]; rw [e] at this; omega
    · rw [up2_ni _ e]; omega
  · rw [up2_nf _ (by omega), up2_nf _ (by omega)]
    exact h.1.2.2.2.2.1 k hk
theorem gd.fall (h : gd σ i) {w b : Nat} (h1 : w < σ 3 0) (h2 : b ≤ 9) : gd (up2 σ 6 w b) (i + 1) := by
  refine (gd.row h (fun k j hk => up2_nf _ (by omega)) (fun k hk => ?_) (fun k hk => ?_) (fun k hk => ?_)).up
  · have := h.1.2.2.1 k hk
    rw [up2_nf (f' := 7) _ (by omega)]
    by_cases e : k = w
    · rw [e, up2_self]; rw [e] at this; omega
    · rw [up2_ni _ e]; omega
  · have := h.1.2.2.2.1 k hk
    rw [up2_nf (f' := 8) _ (by omega), up2_nf (f' := 10) _ (by omega), up2_nf (f' := 11) _ (by omega), up2_nf (f' := 12) _ (by omega), up2_nf (f' := 13) _ (by omega)]
    omega
  · rw [up2_nf _ (by omega), up2_nf _ (by omega)]
    exact h.1.2.2.2.2.1 k hk
theorem gd.forg (h : gd σ i) {j : Nat} : gd (nFor σ j) (i + 1) := by
  have hz : ∀ f k, f ≠ 11 → f ≠ 12 → nFor σ j f k = σ f k := fun f k h1 h2 => by unfold nFor; rw [up2_nf _ h2, up2_nf _ h1]
  have h11 : ∀ k, nFor σ j 11 k = if k = j then 0 else σ 11 k := fun k => by simp [nFor, up2]
  have h12 : ∀ k, nFor σ j 12 k = if k = j then 0 else σ 12 k := fun k => by simp [nFor, up2]
  refine (gd.row h (fun k j hk => hz _ _ (by omega) (by omega)) (fun k hk => ?_) (fun k hk => ?_) (fun k hk => ?_)).up
  · have := h.1.2.2.1 k hk
    rw [hz 6 k (by omega) (by omega), hz 7 k (by omega) (by omega)]
    omega
  · have := h.1.2.2.2.1 k hk
    rw [hz 8 k (by omega) (by omega), hz 10 k (by omega) (by omega), hz 13 k (by omega) (by omega), h11, h12]
    split <;> omega
  · have := h.1.2.2.2.2.1 k hk
    rw [h11, h12]
    split
    · exact ⟨rfl, rfl⟩
    · exact this
theorem gd.wis (h : gd σ i) {j sz : Nat} (h1 : j < σ 4 0) (hi : i ≤ 999) : gd (nWis σ j sz) (i + 1) := by
  have hc := h.1.2.2.2.1 j h1
  have hw := h.1.2.2.1 _ hc.1
  obtain ⟨b1, b2, b3, b4, b5⟩ := fw_b (sz := sz) (du := σ 7 (σ 8 j)) (bu := σ 10 j) (he := σ 11 j) (mr := σ 12 j) (nx := σ 13 j) (by omega) (by omega) (by omega) (by omega)
  have hz : ∀ f k, f ≠ 7 → f ≠ 10 → f ≠ 11 → f ≠ 12 → f ≠ 13 → nWi0 σ j sz f k = σ f k := fun f k q1 q2 q3 q4 q5 => by
    unfold nWi0; rw [up2_nf _ q5, up2_nf _ q4, up2_nf _ q3, up2_nf _ q2, up2_nf _ q1]
  have r7 : ∀ k, nWi0 σ j sz 7 k = if k = σ 8 j then fwD sz (σ 7 (σ 8 j)) (σ 10 j) (σ 11 j) else σ 7 k := fun k => by simp [nWi0, up2]
  have r10 : ∀ k, nWi0 σ j sz 10 k = if k = j then fwB sz (σ 7 (σ 8 j)) (σ 10 j) (σ 11 j) else σ 10 k := fun k => by simp [nWi0, up2]
  have r11 : ∀ k, nWi0 σ j sz 11 k = if k = j then fwH sz (σ 7 (σ 8 j)) (σ 10 j) (σ 11 j) (σ 12 j) (σ 13 j) else σ 11 k := fun k => by simp [nWi0, up2]
  have r12 : ∀ k, nWi0 σ j sz 12 k = if k = j then fwM sz (σ 7 (σ 8 j)) (σ 10 j) (σ 11 j) (σ 12 j) else σ 12 k := fun k => by simp [nWi0, up2]
  have r13 : ∀ k, nWi0 σ j sz 13 k = if k = j then fwN sz (σ 7 (σ 8 j)) (σ 10 j) (σ 11 j) (σ 12 j) (σ 13 j) else σ 13 k := fun k => by simp [nWi0, up2]
  have g0 : gd (nWi0 σ j sz) i := by
    refine gd.row h (fun k j hk => hz _ _ (by omega) (by omega) (by omega) (by omega) (by omega)) (fun k hk => ?_) (fun k hk => ?_) (fun k hk => ?_)
    · have := h.1.2.2.1 k hk
      rw [hz 6 k (by omega) (by omega) (by omega) (by omega) (by omega), r7]
      split
      · rename_i e; rw [e]; omega
      · omega
    · have := h.1.2.2.2.1 k hk
      rw [hz 8 k (by omega) (by omega) (by omega) (by omega) (by omega), r10, r11, r12, r13]
      by_cases e : k = j
      · simp only [if_pos e]; omega
      · simp only [if_neg e]; omega
    · have := h.1.2.2.2.2.1 k hk
      rw [r11, r12, if_neg (by omega), if_neg (by omega)]
      exact this
  obtain ⟨⟨o1, o2, o3, o4, o5, o6, o7⟩, g1, g2⟩ := g0
  have hup : ∀ f v, (f = 1 ∨ f = 2) → (v ≤ (nWi0 σ j sz f 0) + 1) → gd (up2 (nWi0 σ j sz) f 0 v) (i + 1) := by
    intro f v hf hv
    have z : ∀ f' k, f' ≠ f → up2 (nWi0 σ j sz) f 0 v f' k = nWi0 σ j sz f' k := fun f' k q => up2_nf _ q
    have zc : up2 (nWi0 σ j sz) f 0 v 1 0 + up2 (nWi0 σ j sz) f 0 v 2 0 ≤ nWi0 σ j sz 1 0 + nWi0 σ j sz 2 0 + 1 := by
      rcases hf with rfl | rfl
      · rw [up2_self, up2_nf _ (by omega)]; omega
      · rw [up2_self, up2_nf _ (by omega)]; omega
    refine ⟨⟨by rw [z 3 0 (by omega)]; exact o1, by rw [z 4 0 (by omega)]; exact o2, ?_, ?_, ?_, by rw [z 0 0 (by omega)]; exact o6, by omega⟩, by rw [z 0 0 (by omega)]; omega, by omega⟩
    · intro k hk
      rw [z 3 0 (by omega)] at hk
      rw [z 5 k (by omega), z 6 k (by omega), z 7 k (by omega)]
      exact o3 k hk
    · intro k hk
      rw [z 4 0 (by omega)] at hk
      rw [z 3 0 (by omega), z 8 k (by omega), z 9 k (by omega), z 10 k (by omega), z 11 k (by omega), z 12 k (by omega), z 13 k (by omega)]
      exact o4 k hk
    · intro k hk
      rw [z 4 0 (by omega)] at hk
      rw [z 11 k (by omega), z 12 k (by omega)]
      exact o5 k hk
  by_cases hg : fwG sz (σ 7 (σ 8 j)) (σ 10 j) (σ 11 j) = 0
  · rw [nWis_n hg]
    exact hup 2 _ (Or.inr rfl) (by rw [hz 2 0 (by omega) (by omega) (by omega) (by omega) (by omega)]; exact Nat.le_refl _)
  · rw [nWis_y hg]
    exact hup 1 _ (Or.inl rfl) (by rw [hz 1 0 (by omega) (by omega) (by omega) (by omega) (by omega)]; exact Nat.le_refl _)
theorem gd.pas (h : gd σ i) {k : Nat} (h1 : k ≤ 100) (hi : i ≤ 519) : gd (nPas σ k) (i + 1) := by
  obtain ⟨hO, g1, g2⟩ := h
  refine ⟨hO.pas (by omega), by rw [nPas_00]; omega, ?_⟩
  rw [nPas_o σ (show _ by omega : ¬ ((1 : Nat) = 0 ∧ 0 = 0) ∧ _), nPas_o σ (show _ by omega : ¬ ((2 : Nat) = 0 ∧ 0 = 0) ∧ _)]
  omega
end GDL
def pX (τ : Nat → Nat) (σ : sSt) : Prop := ∀ j, j < σ 4 0 → σ 13 j = nxt (τ j) ∧ τ j ≤ σ 2 0 ∧ (0 < σ 10 j → σ 0 0 / 24 % 30 = σ 9 j) ∧ (0 < σ 11 j → σ 12 j = 0)
def pG (τ : Nat → Nat) (σ : sSt) (i : Nat) : Prop := gd σ i ∧ pX τ σ
def tAdd (τ : Nat → Nat) (n : Nat) : Nat → Nat := fun k => if k = n then 0 else τ k
section PGL
variable {τ : Nat → Nat} {σ : sSt} {i : Nat}
theorem pX.T (h : pX τ σ) : sT τ σ := fun j hj => ⟨(h j hj).1, (h j hj).2.1⟩
theorem pG.O (h : pG τ σ i) : sOk σ := h.1.1
theorem pG.T (h : pG τ σ i) : sT τ σ := h.2.T
theorem pG.up (h : pG τ σ i) : pG τ σ (i + 1) := ⟨h.1.up, h.2⟩
theorem pG.zero : pG (fun _ => 0) (fun _ _ => 0) 0 := ⟨gd.zero, fun j hj => absurd hj (Nat.not_lt_zero _)⟩
theorem nAddW_o (σ : sSt) (a b : Nat) {f k : Nat} (h3 : f ≠ 3) (h : ¬ (5 ≤ f ∧ f ≤ 7 ∧ k = σ 3 0)) : nAddW σ a b f k = σ f k := by
  simp only [nAddW, up2]
  rw [if_neg (by omega), if_neg (by omega), if_neg (by omega), if_neg (by omega)]
theorem nAddC_o (σ : sSt) (a b : Nat) {f k : Nat} (h3 : f ≠ 4) (h : ¬ (8 ≤ f ∧ f ≤ 13 ∧ k = σ 4 0)) : nAddC σ a b f k = σ f k := by
  simp only [nAddC, up2]
  rw [if_neg (by omega), if_neg (by omega), if_neg (by omega), if_neg (by omega), if_neg (by omega)]
theorem nAddW_3 (σ : sSt) (a b : Nat) : nAddW σ a b 3 0 = σ 3 0 + 1 ∧ nAddW σ a b 5 (σ 3 0) = a ∧ nAddW σ a b 6 (σ 3 0) = b ∧ nAddW σ a b 7 (σ 3 0) = a := by
  refine ⟨?_, ?_, ?_, ?_⟩ <;> simp [nAddW, up2]
theorem nAddC_4 (σ : sSt) (a b : Nat) : nAddC σ a b 4 0 = σ 4 0 + 1 ∧ nAddC σ a b 8 (σ 4 0) = a ∧ nAddC σ a b 9 (σ 4 0) = b ∧ nAddC σ a b 10 (σ 4 0) = bstD b (σ 0 0 / 24) ∧ nAddC σ a b 11 (σ 4 0) = σ 11 (σ 4 0) ∧ nAddC σ a b 12 (σ 4 0) = σ 12 (σ 4 0) ∧ nAddC σ a b 13 (σ 4 0) = 4 := by
  refine ⟨?_, ?_, ?_, ?_, ?_, ?_, ?_⟩ <;> simp [nAddC, up2]
theorem pG.addW (h : pG τ σ i) {a b : Nat} (h1 : 1 ≤ a) (h2 : a ≤ 60) (h3 : b ≤ 9) (h4 : σ 3 0 < 4) : pG τ (nAddW σ a b) (i + 1) := by
  refine ⟨h.1.addW h1 h2 h3 h4, fun j hj => ?_⟩
  rw [nAddW_o σ a b (show (4 : Nat) ≠ 3 by omega) (by omega)] at hj
  have := h.2 j hj
  rw [nAddW_o σ a b (show (13 : Nat) ≠ 3 by omega) (by omega), nAddW_o σ a b (show (2 : Nat) ≠ 3 by omega) (by omega), nAddW_o σ a b (show (10 : Nat) ≠ 3 by omega) (by omega), nAddW_o σ a b (show (0 : Nat) ≠ 3 by omega) (by omega), nAddW_o σ a b (show (9 : Nat) ≠ 3 by omega) (by omega), nAddW_o σ a b (show (11 : Nat) ≠ 3 by omega) (by omega), nAddW_o σ a b (show (12 : Nat) ≠ 3 by omega) (by omega)]
  exact this
theorem pG.addC (h : pG τ σ i) {a b : Nat} (h1 : a < σ 3 0) (h2 : b ≤ 29) (h4 : σ 4 0 < 10) : pG (tAdd τ (σ 4 0)) (nAddC σ a b) (i + 1) := by
  refine ⟨h.1.addC h1 h2 h4, fun j hj => ?_⟩
  obtain ⟨q4, q8, q9, q10, q11, q12, q13⟩ := nAddC_4 σ a b
  rw [q4] at hj
  have e2 := nAddC_o σ a b (k := 0) (show (2 : Nat) ≠ 4 by omega) (by omega)
  have e0 := nAddC_o σ a b (k := 0) (show (0 : Nat) ≠ 4 by omega) (by omega)
  by_cases e : j = σ 4 0
  · rw [e, q13, q10, q9, q11, q12, e2, e0, tAdd, if_pos rfl]
    have h5 := h.1.1.2.2.2.2.1 (σ 4 0) (Nat.le_refl _)
    refine ⟨rfl, Nat.zero_le _, fun z => ?_, fun z => by omega⟩
    unfold bstD at z
    split at z
    · assumption
    · omega
  · have := h.2 j (by omega)
    rw [nAddC_o σ a b (show (13 : Nat) ≠ 4 by omega) (by omega), e2, nAddC_o σ a b (show (10 : Nat) ≠ 4 by omega) (by omega), e0, nAddC_o σ a b (show (9 : Nat) ≠ 4 by omega) (by omega), nAddC_o σ a b (show (11 : Nat) ≠ 4 by omega) (by omega), nAddC_o σ a b (show (12 : Nat) ≠ 4 by omega) (by omega), tAdd, if_neg e]
    exact this
theorem pG.give (h : pG τ σ i) {j w : Nat} (h1 : j < σ 4 0) (h2 : w < σ 3 0) : pG τ (up2 σ 8 j w) (i + 1) := by
  refine ⟨h.1.give h1 h2, fun k hk => ?_⟩
  rw [up2_nf (f' := 4) _ (by omega)] at hk
  rw [up2_nf (f' := 13) _ (by omega), up2_nf (f' := 2) _ (by omega), up2_nf (f' := 10) _ (by omega), up2_nf (f' := 0) _ (by omega), up2_nf (f' := 9) _ (by omega), up2_nf (f' := 11) _ (by omega), up2_nf (f' := 12) _ (by omega)]
  exact h.2 k hk
theorem pG.fall (h : pG τ σ i) {w b : Nat} (h1 : w < σ 3 0) (h2 : b ≤ 9) : pG τ (up2 σ 6 w b) (i + 1) := by
  refine ⟨h.1.fall h1 h2, fun k hk => ?_⟩
  rw [up2_nf (f' := 4) _ (by omega)] at hk
  rw [up2_nf (f' := 13) _ (by omega), up2_nf (f' := 2) _ (by omega), up2_nf (f' := 10) _ (by omega), up2_nf (f' := 0) _ (by omega), up2_nf (f' := 9) _ (by omega), up2_nf (f' := 11) _ (by omega), up2_nf (f' := 12) _ (by omega)]
  exact h.2 k hk
theorem pG.forg (h : pG τ σ i) {j : Nat} : pG τ (nFor σ j) (i + 1) := by
  have hz : ∀ f k, f ≠ 11 → f ≠ 12 → nFor σ j f k = σ f k := fun f k h1 h2 => by unfold nFor; rw [up2_nf _ h2, up2_nf _ h1]
  have h11 : ∀ k, nFor σ j 11 k = if k = j then 0 else σ 11 k := fun k => by simp [nFor, up2]
  have h12 : ∀ k, nFor σ j 12 k = if k = j then 0 else σ 12 k := fun k => by simp [nFor, up2]
  refine ⟨h.1.forg, fun k hk => ?_⟩
  rw [hz 4 0 (by omega) (by omega)] at hk
  have := h.2 k hk
  rw [hz 13 k (by omega) (by omega), hz 2 0 (by omega) (by omega), hz 10 k (by omega) (by omega), hz 0 0 (by omega) (by omega), hz 9 k (by omega) (by omega), h11, h12]
  refine ⟨this.1, this.2.1, this.2.2.1, fun z => ?_⟩
  by_cases e : k = j
  · rw [if_pos e]
  · rw [if_neg e] at z ⊢; exact this.2.2.2 z
theorem pG.wis (h : pG τ σ i) {j sz : Nat} (h1 : j < σ 4 0) (hi : i ≤ 999) : pG (tWi σ τ j sz) (nWis σ j sz) (i + 1) := by
  refine ⟨h.1.wis h1 hi, fun k hk => ?_⟩
  have n4 : nWis σ j sz 4 0 = σ 4 0 := nWis_o σ j sz (by omega) (by omega) (by omega)
  rw [n4] at hk
  have hb := h.1.1.2.2.2.1 j h1
  have hv := h.2 k hk
  obtain ⟨a1, a2, a3, a4, a5, a6, a7, a8, a9, a10, a11, a12⟩ := nWis_at σ j sz
  rw [a10, a12]
  by_cases e : k = j
  · subst e
    rw [a9, a6, a5, a7, a8]
    by_cases c1 : σ 11 k = 0 ∧ sz ≤ σ 10 k + σ 7 (σ 8 k)
    · obtain ⟨f1, f2, f3, f4, f5, f6⟩ := fw_y (mk := σ 12 k) (nx := σ 13 k) c1
      rw [f1, f3, f4, f5, f6, show tWi σ τ k sz k = τ k from if_neg (fun z => z.2.1 c1)]
      exact ⟨hv.1, by omega, fun z => hv.2.2.1 (by omega), fun z => by omega⟩
    by_cases c2 : 0 < σ 11 k
    · obtain ⟨f1, f2, f3, f4, f5, f6⟩ := fw_h (sz := sz) (du := σ 7 (σ 8 k)) (bu := σ 10 k) (mk := σ 12 k) (nx := σ 13 k) c2
      rw [f1, f3, f4, f5, f6, show tWi σ τ k sz k = τ k from if_neg (fun z => by omega)]
      exact ⟨hv.1, by omega, hv.2.2.1, fun _ => hv.2.2.2 c2⟩
    by_cases c3 : 2 ≤ σ 12 k
    · obtain ⟨f1, f2, f3, f4, f5, f6⟩ := fw_p (sz := sz) (du := σ 7 (σ 8 k)) (bu := σ 10 k) (he := σ 11 k) (mk := σ 12 k) (nx := σ 13 k) (by omega) c3
      rw [f1, f3, f4, f5, f6, show tWi σ τ k sz k = τ k + 1 from if_pos ⟨rfl, c1, by omega, c3⟩]
      exact ⟨by rw [hv.1]; rfl, by omega, hv.2.2.1, fun _ => rfl⟩
    · obtain ⟨f1, f2, f3, f4, f5, f6⟩ := fw_m (sz := sz) (du := σ 7 (σ 8 k)) (bu := σ 10 k) (he := σ 11 k) (mk := σ 12 k) (nx := σ 13 k) (by omega) c3
      rw [f1, f3, f4, f5, f6, show tWi σ τ k sz k = τ k from if_neg (fun z => by omega)]
      exact ⟨hv.1, by omega, hv.2.2.1, fun z => by omega⟩
  · have z : ∀ f, 8 ≤ f → nWis σ j sz f k = σ f k := fun f hf => nWis_o σ j sz (by omega) (by omega) (by omega)
    rw [z 13 (by omega), z 10 (by omega), z 9 (by omega), z 11 (by omega), z 12 (by omega), tWi_n σ τ j sz e]
    exact ⟨hv.1, by omega, hv.2.2⟩
theorem pG.pas (h : pG τ σ i) {k : Nat} (h1 : k ≤ 100) (hi : i ≤ 519) : pG τ (nPas σ k) (i + 1) := by
  refine ⟨h.1.pas h1 hi, fun j hj => ?_⟩
  rw [nPas_o σ (show _ by omega : ¬ ((4 : Nat) = 0 ∧ 0 = 0) ∧ _)] at hj
  have hv := h.2 j hj
  rw [nPas_o σ (show _ by omega : ¬ ((13 : Nat) = 0 ∧ j = 0) ∧ _), nPas_o σ (show _ by omega : ¬ ((2 : Nat) = 0 ∧ 0 = 0) ∧ _), nPas_o σ (show _ by omega : ¬ ((9 : Nat) = 0 ∧ j = 0) ∧ _), nPas_o σ (show _ by omega : ¬ ((12 : Nat) = 0 ∧ j = 0) ∧ _), nPas_00, nPas_10 σ hj, nPas_11 σ hj]
  refine ⟨hv.1, hv.2.1, fun z => ?_, fun z => hv.2.2.2 (by omega)⟩
  unfold bIn at z
  split at z
  · rename_i e; rw [e]; exact hv.2.2.1 z
  · unfold bstD at z
    split at z
    · assumption
    · omega
end PGL
