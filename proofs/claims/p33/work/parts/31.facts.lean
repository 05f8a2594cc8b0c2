/-! WHAT THE ANSWERS SAY -/
theorem nI_m1 {k : Nat} (h : k < 2 ^ 31) : nI k ≠ -1 := fun z => by
  have h2 := congrArg Int32.toInt z
  rw [nI_toInt h, show (-1 : Int32).toInt = -1 by decide] at h2
  omega
theorem ufl_c (lk fl : Nat) : ∀ n k, (ufl lk fl n k = -1 ∧ ∀ q, k ≤ q → q < k + n → fl * q < lk) ∨ ∃ v, k ≤ v ∧ v < k + n ∧ ufl lk fl n k = nI v ∧ lk ≤ fl * v ∧ ∀ q, k ≤ q → q < v → fl * q < lk
  | 0, k => Or.inl ⟨rfl, fun q h1 h2 => by omega⟩
  | n + 1, k => by
    by_cases h : lk ≤ fl * k
    · refine Or.inr ⟨k, Nat.le_refl _, by omega, ?_, h, fun q h1 h2 => by omega⟩
      simp only [ufl, if_pos h]
    · have e : ufl lk fl (n + 1) k = ufl lk fl n (k + 1) := by simp only [ufl, if_neg h]
      rw [e]
      rcases ufl_c lk fl n (k + 1) with ⟨h1, h2⟩ | ⟨v, h1, h2, h3, h4, h5⟩
      · refine Or.inl ⟨h1, fun q q1 q2 => ?_⟩
        by_cases z : q = k
        · rw [z]; omega
        · exact h2 q (by omega) (by omega)
      · refine Or.inr ⟨v, by omega, by omega, h3, h4, fun q q1 q2 => ?_⟩
        by_cases z : q = k
        · rw [z]; omega
        · exact h5 q (by omega) q2
abbrev uC (σ : sSt) (j sz q : Nat) : Prop := σ 11 j ≤ q ∧ sz ≤ bIn σ j q + dIn σ (σ 8 j) q
theorem utl_c (σ : sSt) (j sz : Nat) : ∀ n k, (utl σ j sz n k = -1 ∧ ∀ q, k ≤ q → q < k + n → ¬ uC σ j sz q) ∨ ∃ v, k ≤ v ∧ v < k + n ∧ utl σ j sz n k = nI v ∧ uC σ j sz v ∧ ∀ q, k ≤ q → q < v → ¬ uC σ j sz q
  | 0, k => Or.inl ⟨rfl, fun q h1 h2 => by omega⟩
  | n + 1, k => by
    by_cases h : uC σ j sz k
    · refine Or.inr ⟨k, Nat.le_refl _, by omega, ?_, h, fun q h1 h2 => by omega⟩
      simp only [utl]
      exact if_pos h
    · have e : utl σ j sz (n + 1) k = utl σ j sz n (k + 1) := by
        simp only [utl]
        exact if_neg h
      rw [e]
      rcases utl_c σ j sz n (k + 1) with ⟨h1, h2⟩ | ⟨v, h1, h2, h3, h4, h5⟩
      · refine Or.inl ⟨h1, fun q q1 q2 => ?_⟩
        by_cases z : q = k
        · rw [z]; exact h
        · exact h2 q (by omega) (by omega)
      · refine Or.inr ⟨v, by omega, by omega, h3, h4, fun q q1 q2 => ?_⟩
        by_cases z : q = k
        · rw [z]; exact h
        · exact h5 q (by omega) q2
section AWL
variable {σ : sSt}
theorem uC_0 (hO : sOk σ) {j sz : Nat} (hj : j < σ 4 0) : uC σ j sz 0 ↔ okW σ j sz := by
  have h1 := hO.2.2.2.1 j hj
  have h2 := hO.2.2.1 _ h1.1
  unfold uC okW
  rw [bIn_0, dIn_0 h2.2.2.2]
  omega
/-- now, or not -/
theorem utl_0 (hO : sOk σ) {j sz : Nat} (hj : j < σ 4 0) : utl σ j sz 101 0 = nI 0 ↔ okW σ j sz := by
  rw [← uC_0 hO hj]
  rcases utl_c σ j sz 101 0 with ⟨h1, h2⟩ | ⟨v, h1, h2, h3, h4, h5⟩
  · rw [h1]
    exact ⟨fun z => absurd z.symm (nI_m1 (by decide)), fun z => absurd z (h2 0 (Nat.le_refl _) (by omega))⟩
  · rw [h3]
    constructor
    · intro z
      rw [(nI_eq (by omega) (by decide)).mp z] at h4
      exact h4
    · intro z
      by_cases e : v = 0
      · rw [e]
      · exact absurd z (h5 0 (Nat.le_refl _) (by omega))
theorem utl_wait {j sz : Nat} (h : 0 ≤ utl σ j sz 101 0) : ∃ v, v < 101 ∧ utl σ j sz 101 0 = nI v ∧ σ 11 j ≤ v := by
  rcases utl_c σ j sz 101 0 with ⟨h1, h2⟩ | ⟨v, h1, h2, h3, h4, h5⟩
  · rw [h1] at h; exact absurd h (by decide)
  · exact ⟨v, by omega, h3, h4.1⟩
/-- the wand is full now, or not -/
theorem vFul_0 {i : Nat} (h : σ 7 i ≤ σ 5 i) : vFul σ i = nI 0 ↔ σ 7 i = σ 5 i := by
  unfold vFul
  rcases ufl_c (σ 5 i - σ 7 i) (σ 6 i) 101 0 with ⟨h1, h2⟩ | ⟨v, h1, h2, h3, h4, h5⟩
  · have := h2 0 (Nat.le_refl _) (by omega)
    rw [h1]
    exact ⟨fun z => absurd z.symm (nI_m1 (by decide)), fun z => by omega⟩
  · rw [h3]
    constructor
    · intro z
      rw [(nI_eq (by omega) (by decide)).mp z] at h4
      omega
    · intro z
      by_cases e : v = 0
      · rw [e]
      · have := h5 0 (Nat.le_refl _) (by omega)
        omega
theorem tws_1 {j fl : Nat} : tws σ j 1 1 fl = if 0 < vGrt σ j then 1 else 0 := by
  have h := grt_iff (σ := σ) (j := j) (sz := 1) (Nat.le_refl _) (by decide)
  unfold tws
  simp only [twc, fwG, Nat.add_zero]
  by_cases e : okW σ j 1
  · rw [if_pos e, if_pos (show 0 < vGrt σ j from h.mp e)]
  · rw [if_neg e, if_neg (show ¬ 0 < vGrt σ j from fun z => e (h.mpr z))]
/-- the sum of the users -/
def uSm (σ : sSt) (n : Nat) : Nat → Nat
  | 0 => 0
  | w + 1 => uSm σ n w + cUsr σ w n
theorem uSm_s (σ : sSt) (n : Nat) : ∀ W, uSm σ (n + 1) W = uSm σ n W + if σ 8 n < W then 1 else 0
  | 0 => by rw [if_neg (Nat.not_lt_zero _)]; rfl
  | W + 1 => by
    have ih := uSm_s σ n W
    simp only [uSm, cUsr]
    rw [ih]
    by_cases h1 : σ 8 n < W
    · rw [if_pos h1, if_neg (by omega), if_pos (by omega)]; omega
    · rw [if_neg h1]
      by_cases h2 : σ 8 n = W
      · rw [if_pos h2, if_pos (by omega)]; omega
      · rw [if_neg h2, if_neg (by omega)]; omega
theorem uSm_0 (σ : sSt) : ∀ W, uSm σ 0 W = 0
  | 0 => rfl
  | W + 1 => by simp only [uSm, uSm_0 σ W, cUsr]
theorem uSm_all {W : Nat} : ∀ n, (∀ j, j < n → σ 8 j < W) → uSm σ n W = n
  | 0, _ => uSm_0 σ W
  | n + 1, h => by rw [uSm_s, uSm_all n (fun j hj => h j (by omega)), if_pos (h n (by omega))]
/-- the best child -/
theorem bst_ok {sz : Nat} : ∀ n, bstC σ sz n ≠ 0 → okW σ (bstC σ sz n - 1) sz ∧ bstC σ sz n - 1 < n
  | 0, h => absurd rfl h
  | n + 1, h => by
    have ih := bst_ok (sz := sz) n
    by_cases c : okW σ n sz ∧ (bstC σ sz n = 0 ∨ lft σ (bstC σ sz n - 1) sz < lft σ n sz)
    · have e : bstC σ sz (n + 1) = n + 1 := by simp only [bstC]; exact if_pos c
      rw [e, Nat.add_sub_cancel]
      exact ⟨c.1, Nat.lt_succ_self n⟩
    · have e : bstC σ sz (n + 1) = bstC σ sz n := by simp only [bstC]; exact if_neg c
      rw [e] at h ⊢
      have := ih h
      exact ⟨this.1, by omega⟩
theorem bst_some {sz c : Nat} (hc : okW σ c sz) : ∀ n, c < n → bstC σ sz n ≠ 0
  | 0, h => absurd h (Nat.not_lt_zero _)
  | n + 1, h => by
    by_cases e : bstC σ sz n = 0
    · have e2 : c = n := Classical.byContradiction fun z => bst_some hc n (by omega) e
      subst e2
      have : bstC σ sz (c + 1) = c + 1 := by simp only [bstC]; exact if_pos ⟨hc, Or.inl e⟩
      omega
    · by_cases q : okW σ n sz ∧ (bstC σ sz n = 0 ∨ lft σ (bstC σ sz n - 1) sz < lft σ n sz)
      · have : bstC σ sz (n + 1) = n + 1 := by simp only [bstC]; exact if_pos q
        omega
      · have : bstC σ sz (n + 1) = bstC σ sz n := by simp only [bstC]; exact if_neg q
        omega
theorem vBst_c (hO : sOk σ) (sz : Nat) : (vBst σ sz = -1 ∧ ∀ c, c < σ 4 0 → ¬ okW σ c sz) ∨ ∃ b, b < σ 4 0 ∧ vBst σ sz = nI b ∧ okW σ b sz := by
  unfold vBst
  by_cases e : bstC σ sz (σ 4 0) = 0
  · exact Or.inl ⟨if_pos e, fun c h1 h2 => bst_some h2 _ h1 e⟩
  · have := bst_ok _ e
    exact Or.inr ⟨_, this.2, if_neg e, this.1⟩
/-- in h hours -/
theorem okW_pas (hO : sOk σ) {j sz h : Nat} (hj : j < σ 4 0) : okW (nPas σ h) j sz ↔ uC σ j sz h := by
  have h1 := hO.2.2.2.1 j hj
  unfold okW uC
  rw [nPas_11 σ hj, nPas_10 σ hj, nPas_o σ (show _ by omega : ¬ ((8 : Nat) = 0 ∧ j = 0) ∧ _), nPas_7 σ h1.1]
  omega
theorem grt_pas (hO : sOk σ) {j sz h : Nat} (hj : j < σ 4 0) (h1 : 1 ≤ sz) (h2 : sz ≤ 20) : sz ≤ vGrt (nPas σ h) j ↔ uC σ j sz h := by
  rw [← grt_iff h1 h2, okW_pas hO hj]
theorem ful_pas (hO : sOk σ) {i h : Nat} (hi : i < σ 3 0) : vFul (nPas σ h) i = nI 0 ↔ σ 5 i - σ 7 i ≤ σ 6 i * h := by
  have h1 := hO.2.2.1 i hi
  rw [vFul_0 (by rw [nPas_7 σ hi, nPas_o σ (show _ by omega : ¬ ((5 : Nat) = 0 ∧ i = 0) ∧ _)]; exact dIn_le σ i h), nPas_7 σ hi, nPas_o σ (show _ by omega : ¬ ((5 : Nat) = 0 ∧ i = 0) ∧ _)]
  unfold dIn
  rw [Nat.mul_comm h]
  omega
/-- full as told: in k hours, not ahead of that -/
theorem ful_c (hO : sOk σ) {i : Nat} (hi : i < σ 3 0) : (vFul σ i = -1 ∧ ∀ h, vFul (nPas σ h) i = -1) ∨ ∃ k, k < 101 ∧ vFul σ i = nI k ∧ ∀ h, (vFul (nPas σ h) i = nI 0 ↔ k ≤ h) := by
  have h1 := hO.2.2.1 i hi
  rcases ufl_c (σ 5 i - σ 7 i) (σ 6 i) 101 0 with ⟨q1, q2⟩ | ⟨v, q1, q2, q3, q4, q5⟩
  · refine Or.inl ⟨q1, fun h => ?_⟩
    have q6 := q2 100 (by omega) (by omega)
    have q7 : σ 6 i = 0 := by omega
    have e7 : nPas σ h 7 i = σ 7 i := by rw [nPas_7 σ hi]; unfold dIn; rw [q7]; omega
    unfold vFul
    rw [e7, nPas_o σ (show _ by omega : ¬ ((5 : Nat) = 0 ∧ i = 0) ∧ _), nPas_o σ (show _ by omega : ¬ ((6 : Nat) = 0 ∧ i = 0) ∧ _)]
    exact q1
  · refine Or.inr ⟨v, by omega, q3, fun h => ?_⟩
    rw [ful_pas hO hi]
    constructor
    · intro z
      exact Nat.le_of_not_lt fun y => by have := q5 h (Nat.zero_le _) y; omega
    · intro z
      exact Nat.le_trans q4 (Nat.mul_le_mul_left _ z)
/-- granted as told -/
theorem utl_p (hO : sOk σ) {j sz : Nat} (hj : j < σ 4 0) (h1 : 1 ≤ sz) (h2 : sz ≤ 20) : (utl σ j sz 101 0 = -1 ∧ ∀ h, h < 101 → vGrt (nPas σ h) j < sz) ∨ ∃ k, k < 101 ∧ utl σ j sz 101 0 = nI k ∧ sz ≤ vGrt (nPas σ k) j ∧ ∀ h, h < k → vGrt (nPas σ h) j < sz := by
  rcases utl_c σ j sz 101 0 with ⟨q1, q2⟩ | ⟨v, q1, q2, q3, q4, q5⟩
  · refine Or.inl ⟨q1, fun h hh => Nat.lt_of_not_le fun z => ?_⟩
    exact q2 h (Nat.zero_le _) (by omega) ((grt_pas hO hj h1 h2).mp z)
  · refine Or.inr ⟨v, by omega, q3, (grt_pas hO hj h1 h2).mpr q4, fun h hh => Nat.lt_of_not_le fun z => ?_⟩
    exact q5 h (Nat.zero_le _) hh ((grt_pas hO hj h1 h2).mp z)
end AWL
