/-! THE START -/
theorem len0 {args : Array Value} {s : State} {t : Term} (h : (Term.length t).eval args s none [] s = some (.int 0)) : ∃ a cell, t.eval args s none [] s = some (.ref a) ∧ s.arrayAt? a = some cell ∧ cell.slots.size = 0 := by
  simp only [Term.eval, Option.bind_eq_bind] at h
  cases ht : t.eval args s none [] s with
  | none => simp [ht] at h
  | some x =>
    cases x <;> simp [ht] at h
    case ref a =>
      obtain ⟨cell, hcell, h⟩ := Option.bind_eq_some_iff.mp h
      by_cases hn : cell.slots.size < 2147483648
      · rw [if_pos hn] at h
        refine ⟨a, cell, rfl, hcell, ?_⟩
        have h2 : nI cell.slots.size = nI 0 := by
          have h3 := Option.some.inj h
          injection h3
        have h4 := congrArg Int32.toInt h2
        rw [nI_toInt hn, nI_toInt (by decide)] at h4
        omega
      · rw [if_neg hn] at h; cases h
theorem wE_start {p : Program} {s : State} {m : MethodId} {meth : Method} {c : Code} {b L : Nat} {xs : Nat → Int32} (C0 : lw_At p s m meth c b L xs) : ∃ g : wG, wE g s ∧ gB g = s.heap.size := by
  obtain ⟨hx, hb, hr, hml, hown, hts, hX, hbl, hlocks, hgv⟩ := id C0
  have hq := flat_of_before _ hgv
  have hG : ∀ w ∈ GW, w.before #[Value.ref b] s = true := fun w h => hts w (List.mem_filter.mp h).1
  have hT : ∀ {w : Cond} (i : Nat), tables_1[i]? = some w → w.before #[Value.ref b] s = true := fun i h => hts _ (List.mem_append_right _ (List.mem_of_getElem? h))
  have hA : ∀ a : Nat, a < s.heap.size → ¬ (fun q : Nat => s.heap.size ≤ q) a := fun a ha => Nat.not_le.mpr ha
  obtain ⟨c0, i0, k0⟩ := u_known (C := RJx4a65c) (T := TJx4a65c) (N := 3) (n := 3) hG inJx4a65c (hG _ kw29)
  obtain ⟨c1, i1, k1⟩ := u_known (C := RX0) (T := TX0) (N := 6) (n := 6) hG inX0 (hG _ kw78)
  obtain ⟨c2, i2, k2⟩ := u_known (C := RX1) (T := TX1) (N := 4) (n := 4) hG inX1 (hG _ kw55)
  obtain ⟨c3, i3, k3⟩ := u_known (C := RX2) (T := TX2) (N := 7) (n := 7) hG inX2 (hG _ kw21)
  obtain ⟨c4, i4, k4⟩ := u_known (C := RX3) (T := TX3) (N := 15) (n := 15) hG inX3 (hG _ kw624)
  obtain ⟨cI, kI, pI, a1, a2, a3⟩ := Cond.arrayClass_spec (hG _ kw675)
  obtain ⟨cJ9, kJ, pJ, b1, b2, b3⟩ := Cond.arrayClass_spec (hG _ kw893)
  obtain ⟨pO, cO9, kO, d1, d2, d3, d4, d5⟩ := Cond.arrayOver_spec (hG _ kw506)
  have hle := va_eqt (z := 0) (t := .length (.static "java/util/ArrayList" "DEFAULTCAPACITY_EMPTY_ELEMENTDATA" "[Ljava/lang/Object;")) (hq _ (by decide +kernel))
  obtain ⟨e9, cE, he, hat, hsz⟩ := len0 hle
  obtain ⟨hcE, -, -, -⟩ := State.arrayAt?_spec hat
  obtain ⟨hof, -⟩ := Cond.arrayOf_spec (ty := .object "java/lang/Object") (hq _ (by decide +kernel)) he hcE
  obtain ⟨s0, -, -, -, hs0, -⟩ := Cond.exactly_spec (hq (.exactly (.string "FairyDust" 253) "java/lang/String") (by decide +kernel))
  obtain ⟨s1, -, -, -, hs1, -⟩ := Cond.exactly_spec (hq (.exactly (.string "FairyDust" 246) "java/lang/String") (by decide +kernel))
  obtain ⟨s2, -, -, -, hs2, -⟩ := Cond.exactly_spec (hq (.exactly (.string "FairyDust" 249) "java/lang/String") (by decide +kernel))
  obtain ⟨s3, -, -, -, hs3, -⟩ := Cond.exactly_spec (hq (.exactly (.string "FairyDust" 46) "java/lang/String") (by decide +kernel))
  obtain ⟨s4, -, -, -, hs4, -⟩ := Cond.exactly_spec (hq (.exactly (.string "FairyDust" 59) "java/lang/String") (by decide +kernel))
  have hlt : e9 < s.heap.size := (Array.getElem?_eq_some_iff.mp hcE).1
  refine ⟨((fun k => match k with | 0 => c0 | 1 => c1 | 2 => c2 | 3 => c3 | _ => c4, fun k => match k with | 0 => i0 | 1 => i1 | 2 => i2 | 3 => i3 | _ => i4), (cI, cO9, cJ9), s.heap.size, e9, fun k => match k with | 0 => s0 | 1 => s1 | 2 => s2 | 3 => s3 | _ => s4), ⟨⟨?_, ?_⟩, ?_, ?_, ?_, ?_, ?_, ?_, ?_, hlt, Nat.le_refl _⟩, rfl⟩
  · intro k q h
    match k, h with
    | 0, h => cases h; exact k0
    | 1, h => cases h; exact k1
    | 2, h => cases h; exact k2
    | 3, h => cases h; exact k3
    | 4, h => cases h; exact k4
    | k + 5, h => simp [vwCl] at h
  · intro k q h
    match k, h with
    | 0, h => cases h; exact ⟨fun n z => ⟨(fun k h => by cases h), kI, a2, pI, a3⟩, a1⟩
    | 1, h => cases h; exact ⟨fun n z => ⟨(fun k h => by cases h), kO, d3, pO, d4⟩, kO, pO, d3, d4, d1, d5⟩
    | 2, h => cases h; exact ⟨fun n z => ⟨(fun k h => by cases h), kJ, b2, pJ, b3⟩, b1⟩
    | k + 3, h => simp [wTys] at h
  · exact fun w hw => tw_args0 (List.mem_filter.mp hw).2 (hG w hw)
  · exact ⟨vk_R.of (hT 251 (by decide +kernel)) hs0, vk_R.of (hT 315 (by decide +kernel)) hs1, vk_R.of (hT 346 (by decide +kernel)) hs2, vk_R.of (hT 456 (by decide +kernel)) hs3, vk_R.of (hT 522 (by decide +kernel)) hs4⟩
  · exact ⟨va_Nc.of (hq (.not (.castable "java/lang/IllegalStateException" "java/lang/IllegalArgumentException")) (by decide +kernel)), va_Nc.of (hq (.not (.castable "java/lang/IllegalArgumentException" "java/lang/IndexOutOfBoundsException")) (by decide +kernel)), va_Nc.of (hq (.not (.castable "java/lang/IllegalStateException" "java/lang/IndexOutOfBoundsException")) (by decide +kernel))⟩
  · exact vx_Zqof (hT 237 (by decide +kernel)) (hT 8 (by decide +kernel)) (hq _ (by decide +kernel)) hA
  · exact vx_Zqof (hT 239 (by decide +kernel)) (hT 8 (by decide +kernel)) (hq _ (by decide +kernel)) hA
  · exact va_Zof (hT 41 (by decide +kernel)) (hT 4 (by decide +kernel)) he hA
  · exact ⟨cE, hcE, hof, hsz⟩
/-! WHAT EVERY STEP KEEPS -/
def gd (σ : sSt) (i : Nat) : Prop := sOk σ ∧ σ 0 0 ≤ 100 * i ∧ σ 1 0 + σ 2 0 ≤ i
theorem gd.up {σ : sSt} {i : Nat} (h : gd σ i) : gd σ (i + 1) := ⟨h.1, by have := h.2.1; omega, by have := h.2.2; omega⟩
theorem gd_nx {σ a : sSt} {c i : Nat} (h : gd σ i) (h2 : c = 0 → gd a (i + 1)) : gd (nx c a σ) (i + 1) := by
  by_cases z : c = 0
  · rw [show nx c a σ = a from if_pos z]; exact h2 z
  · rw [show nx c a σ = σ from if_neg z]; exact h.up
theorem gd.zero : gd (fun _ _ => 0) 0 := ⟨⟨Nat.zero_le _, Nat.zero_le _, fun i h => absurd h (Nat.not_lt_zero i), fun i h => absurd h (Nat.not_lt_zero i), fun _ _ => ⟨rfl, rfl⟩, Nat.zero_le _, Nat.zero_le _⟩, Nat.zero_le _, Nat.zero_le _⟩
theorem cd1_v {p : Prop} [Decidable p] (h : cd1 p = 0) : p := by
  unfold cd1 at h
  split at h
  · assumption
  · cases h
theorem cd2_v {p q : Prop} [Decidable p] [Decidable q] (h : cd2 p q = 0) : p ∧ q := by
  unfold cd2 at h
  split at h
  · split at h
    · exact ⟨by assumption, by assumption⟩
    · cases h
  · cases h
theorem cd3_v {p q r : Prop} [Decidable p] [Decidable q] [Decidable r] (h : cd3 p q r = 0) : p ∧ q ∧ r := by
  unfold cd3 at h
  split at h
  · split at h
    · split at h
      · exact ⟨by assumption, by assumption, by assumption⟩
      · cases h
    · cases h
  · cases h
section GDL
variable {σ : sSt} {i : Nat}
theorem gd.addW (h : gd σ i) {a b : Nat} (h1 : 1 ≤ a) (h2 : a ≤ 60) (h3 : b ≤ 9) (h4 : σ 3 0 < 4) : gd (nAddW σ a b) (i + 1) := by
  obtain ⟨⟨o1, o2, o3, o4, o5, o6, o7⟩, g1, g2⟩ := h
  have hs : ∀ k j, k ≠ 3 → ¬ (5 ≤ k ∧ k ≤ 7 ∧ j = σ 3 0) → nAddW σ a b k j = σ k j := fun k j h3 h5 => by
    simp only [nAddW, up2]
    rw [if_neg (by omega), if_neg (by omega), if_neg (by omega), if_neg (by omega)]
  have s3 : nAddW σ a b 3 0 = σ 3 0 + 1 := by simp [nAddW, up2]
  have s4 : nAddW σ a b 4 0 = σ 4 0 := hs 4 0 (by omega) (by omega)
  have e0 := hs 0 0 (by omega) (by omega)
  have e1 := hs 1 0 (by omega) (by omega)
  have e2 := hs 2 0 (by omega) (by omega)
  refine ⟨⟨by omega, by omega, ?_, ?_, ?_, by omega, by omega⟩, by omega, by omega⟩
  · intro k hk
    rw [s3] at hk
    by_cases e : k = σ 3 0
    · have q5 : nAddW σ a b 5 k = a := by rw [e]; simp [nAddW, up2]
      have q6 : nAddW σ a b 6 k = b := by rw [e]; simp [nAddW, up2]
      have q7 : nAddW σ a b 7 k = a := by rw [e]; simp [nAddW, up2]
      omega
    · have := o3 k (by omega)
      rw [hs 5 k (by omega) (by omega), hs 6 k (by omega) (by omega), hs 7 k (by omega) (by omega)]
      exact this
  · intro j hj
    rw [s4] at hj
    have := o4 j hj
    rw [hs 8 j (by omega) (by omega), hs 9 j (by omega) (by omega), hs 10 j (by omega) (by omega), hs 11 j (by omega) (by omega), hs 12 j (by omega) (by omega), hs 13 j (by omega) (by omega), s3]
    omega
  · intro j hj
    rw [s4] at hj
    rw [hs 11 j (by omega) (by omega), hs 12 j (by omega) (by omega)]
    exact o5 j hj
theorem gd.addC (h : gd σ i) {a b : Nat} (h1 : a < σ 3 0) (h2 : b ≤ 29) (h4 : σ 4 0 < 10) : gd (nAddC σ a b) (i + 1) := by
  obtain ⟨⟨o1, o2, o3, o4, o5, o6, o7⟩, g1, g2⟩ := h
  have hs : ∀ k j, k ≠ 4 → ¬ (8 ≤ k ∧ k ≤ 13 ∧ k ≠ 11 ∧ k ≠ 12 ∧ j = σ 4 0) → nAddC σ a b k j = σ k j := fun k j h3 h5 => by
    simp only [nAddC, up2]
    rw [if_neg (by omega), if_neg (by omega), if_neg (by omega), if_neg (by omega), if_neg (by omega)]
  have s4 : nAddC σ a b 4 0 = σ 4 0 + 1 := by simp [nAddC, up2]
  have s3 : nAddC σ a b 3 0 = σ 3 0 := hs 3 0 (by omega) (by omega)
  have e0 := hs 0 0 (by omega) (by omega)
  have e1 := hs 1 0 (by omega) (by omega)
  have e2 := hs 2 0 (by omega) (by omega)
  have hbd : bstD b (σ 0 0 / 24) ≤ 12 := by unfold bstD; split <;> omega
  have z5 := o5 (σ 4 0) (Nat.le_refl _)
  refine ⟨⟨by omega, by omega, ?_, ?_, ?_, by omega, by omega⟩, by omega, by omega⟩
  · intro k hk
    rw [s3] at hk
    rw [hs 5 k (by omega) (by omega), hs 6 k (by omega) (by omega), hs 7 k (by omega) (by omega)]
    exact o3 k hk
  · intro j hj
    rw [s4] at hj
    rw [s3]
    by_cases e : j = σ 4 0
    · have q8 : nAddC σ a b 8 j = a := by rw [e]; simp [nAddC, up2]
      have q9 : nAddC σ a b 9 j = b := by rw [e]; simp [nAddC, up2]
      have q10 : nAddC σ a b 10 j = bstD b (σ 0 0 / 24) := by rw [e]; simp [nAddC, up2]
      have q11 : nAddC σ a b 11 j = 0 := by rw [hs 11 j (by omega) (by omega), e]; exact z5.1
      have q12 : nAddC σ a b 12 j = 0 := by rw [hs 12 j (by omega) (by omega), e]; exact z5.2
      have q13 : nAddC σ a b 13 j = 4 := by rw [e]; simp [nAddC, up2]
      omega
    · have := o4 j (by omega)
      rw [hs 8 j (by omega) (by omega), hs 9 j (by omega) (by omega), hs 10 j (by omega) (by omega), hs 11 j (by omega) (by omega), hs 12 j (by omega) (by omega), hs 13 j (by omega) (by omega)]
      exact this
  · intro j hj
    rw [s4] at hj
    rw [hs 11 j (by omega) (by omega), hs 12 j (by omega) (by omega)]
    exact o5 j (by omega)
theorem gd.row (h : gd σ i) {σ' : sSt} (hs : ∀ k j, (k ≤ 5 ∨ k = 9) → σ' k j = σ k j) (hw : ∀ k, k < σ 3 0 → σ' 6 k ≤ 9 ∧ σ' 7 k ≤ σ 5 k) (hc : ∀ j, j < σ 4 0 → σ' 8 j < σ 3 0 ∧ σ' 10 j ≤ 12 ∧ σ' 11 j ≤ 48 ∧ σ' 12 j ≤ 2 ∧ σ' 13 j ≤ 32) (hn : ∀ j, σ 4 0 ≤ j → σ' 11 j = 0 ∧ σ' 12 j = 0) : gd σ' i := by
  obtain ⟨⟨o1, o2, o3, o4, o5, o6, o7⟩, g1, g2⟩ := h
  have e0 := hs 0 0 (by omega)
  have e1 := hs 1 0 (by omega)
  have e2 := hs 2 0 (by omega)
  have e3 := hs 3 0 (by omega)
  have e4 := hs 4 0 (by omega)
  refine ⟨⟨by omega, by omega, ?_, ?_, ?_, by omega, by omega⟩, by omega, by omega⟩
  · intro k hk
    rw [e3] at hk
    have := o3 k hk
    have := hw k hk
    rw [hs 5 k (by omega)]
    omega
  · intro j hj
    rw [e4] at hj
    have := o4 j hj
    have := hc j hj
    rw [e3, hs 9 j (by omega)]
    omega
  · intro j hj
    rw [e4] at hj
    exact hn j hj
theorem gd.give (h : gd σ i) {j w : Nat} (h1 : j < σ 4 0) (h2 : w < σ 3 0) : gd (up2 σ 8 j w) (i + 1) := by
  refine (gd.row h (fun k j hk => up2_nf _ (by omega)) (fun k hk => ?_) (fun k hk => ?_) (fun k hk => ?_)).up
  · have := h.1.2.2.1 k hk
    rw [up2_nf _ (by omega), up2_nf _ (by omega)]
    omega
  · have := h.1.2.2.2.1 k hk
    rw [up2_nf (f' := 10) _ (by omega), up2_nf (f' := 11) _ (by omega), up2_nf (f' := 12) _ (by omega), up2_nf (f' := 13) _ (by omega)]
    by_cases e : k = j
    · rw [e, up2_self]; rw [e] at this; omega
    · rw [up2_ni _ e]; omega
  · rw [up2_nf _ (by omega), up2_nf _ (by omega)]
    exact h.1.2.2.2.2.1 k hk
theorem gd.fall (h : gd σ i) {w b : Nat} (h1 : w < σ 3 0) (h2 : b ≤ 9) : gd (up2 σ 6 w b) (i + 1) := by
  refine (gd.row h (fun k j hk => up2_nf _ (by omega)) (fun k hk => ?_) (fun k hk => ?_) (fun k hk => ?_)).up
  · have := h.1.2.2.1 k hk
    rw [up2_nf (f' := 7) _ (by omega)]
    by_cases e : k = w
    · rw [e, up2_self]; rw [e] at this; omega
    · rw [up2_ni _ e]; omega
  · have := h.1.2.2.2.1 k hk
    rw [up2_nf (f' := 8) _ (by omega), up2_nf (f' := 10) _ (by omega), up2_nf (f' := 11) _ (by omega), up2_nf (f' := 12) _ (by omega), up2_nf (f' := 13) _ (by omega)]
    omega
  · rw [up2_nf _ (by omega), up2_nf _ (by omega)]
    exact h.1.2.2.2.2.1 k hk
theorem gd.forg (h : gd σ i) {j : Nat} : gd (nFor σ j) (i + 1) := by
  have hz : ∀ f k, f ≠ 11 → f ≠ 12 → nFor σ j f k = σ f k := fun f k h1 h2 => by unfold nFor; rw [up2_nf _ h2, up2_nf _ h1]
  have h11 : ∀ k, nFor σ j 11 k = if k = j then 0 else σ 11 k := fun k => by simp [nFor, up2]
  have h12 : ∀ k, nFor σ j 12 k = if k = j then 0 else σ 12 k := fun k => by simp [nFor, up2]
  refine (gd.row h (fun k j hk => hz _ _ (by omega) (by omega)) (fun k hk => ?_) (fun k hk => ?_) (fun k hk => ?_)).up
  · have := h.1.2.2.1 k hk
    rw [hz 6 k (by omega) (by omega), hz 7 k (by omega) (by omega)]
    omega
  · have := h.1.2.2.2.1 k hk
    rw [hz 8 k (by omega) (by omega), hz 10 k (by omega) (by omega), hz 13 k (by omega) (by omega), h11, h12]
    split <;> omega
  · have := h.1.2.2.2.2.1 k hk
    rw [h11, h12]
    split
    · exact ⟨rfl, rfl⟩
    · exact this
theorem gd.wis (h : gd σ i) {j sz : Nat} (h1 : j < σ 4 0) (hi : i ≤ 999) : gd (nWis σ j sz) (i + 1) := by
  have hc := h.1.2.2.2.1 j h1
  have hw := h.1.2.2.1 _ hc.1
  obtain ⟨b1, b2, b3, b4, b5⟩ := fw_b (sz := sz) (du := σ 7 (σ 8 j)) (bu := σ 10 j) (he := σ 11 j) (mr := σ 12 j) (nx := σ 13 j) (by omega) (by omega) (by omega) (by omega)
  have hz : ∀ f k, f ≠ 7 → f ≠ 10 → f ≠ 11 → f ≠ 12 → f ≠ 13 → nWi0 σ j sz f k = σ f k := fun f k q1 q2 q3 q4 q5 => by
    unfold nWi0; rw [up2_nf _ q5, up2_nf _ q4, up2_nf _ q3, up2_nf _ q2, up2_nf _ q1]
  have r7 : ∀ k, nWi0 σ j sz 7 k = if k = σ 8 j then fwD sz (σ 7 (σ 8 j)) (σ 10 j) (σ 11 j) else σ 7 k := fun k => by simp [nWi0, up2]
  have r10 : ∀ k, nWi0 σ j sz 10 k = if k = j then fwB sz (σ 7 (σ 8 j)) (σ 10 j) (σ 11 j) else σ 10 k := fun k => by simp [nWi0, up2]
  have r11 : ∀ k, nWi0 σ j sz 11 k = if k = j then fwH sz (σ 7 (σ 8 j)) (σ 10 j) (σ 11 j) (σ 12 j) (σ 13 j) else σ 11 k := fun k => by simp [nWi0, up2]
  have r12 : ∀ k, nWi0 σ j sz 12 k = if k = j then fwM sz (σ 7 (σ 8 j)) (σ 10 j) (σ 11 j) (σ 12 j) else σ 12 k := fun k => by simp [nWi0, up2]
  have r13 : ∀ k, nWi0 σ j sz 13 k = if k = j then fwN sz (σ 7 (σ 8 j)) (σ 10 j) (σ 11 j) (σ 12 j) (σ 13 j) else σ 13 k := fun k => by simp [nWi0, up2]
  have g0 : gd (nWi0 σ j sz) i := by
    refine gd.row h (fun k j hk => hz _ _ (by omega) (by omega) (by omega) (by omega) (by omega)) (fun k hk => ?_) (fun k hk => ?_) (fun k hk => ?_)
    · have := h.1.2.2.1 k hk
      rw [hz 6 k (by omega) (by omega) (by omega) (by omega) (by omega), r7]
      split
      · rename_i e; rw [e]; omega
      · omega
    · have := h.1.2.2.2.1 k hk
      rw [hz 8 k (by omega) (by omega) (by omega) (by omega) (by omega), r10, r11, r12, r13]
      by_cases e : k = j
      · simp only [if_pos e]; omega
      · simp only [if_neg e]; omega
    · have := h.1.2.2.2.2.1 k hk
      rw [r11, r12, if_neg (by omega), if_neg (by omega)]
      exact this
  obtain ⟨⟨o1, o2, o3, o4, o5, o6, o7⟩, g1, g2⟩ := g0
  have hup : ∀ f v, (f = 1 ∨ f = 2) → (v ≤ (nWi0 σ j sz f 0) + 1) → gd (up2 (nWi0 σ j sz) f 0 v) (i + 1) := by
    intro f v hf hv
    have z : ∀ f' k, f' ≠ f → up2 (nWi0 σ j sz) f 0 v f' k = nWi0 σ j sz f' k := fun f' k q => up2_nf _ q
    have zc : up2 (nWi0 σ j sz) f 0 v 1 0 + up2 (nWi0 σ j sz) f 0 v 2 0 ≤ nWi0 σ j sz 1 0 + nWi0 σ j sz 2 0 + 1 := by
      rcases hf with rfl | rfl
      · rw [up2_self, up2_nf _ (by omega)]; omega
      · rw [up2_self, up2_nf _ (by omega)]; omega
    refine ⟨⟨by rw [z 3 0 (by omega)]; exact o1, by rw [z 4 0 (by omega)]; exact o2, ?_, ?_, ?_, by rw [z 0 0 (by omega)]; exact o6, by omega⟩, by rw [z 0 0 (by omega)]; omega, by omega⟩
    · intro k hk
      rw [z 3 0 (by omega)] at hk
      rw [z 5 k (by omega), z 6 k (by omega), z 7 k (by omega)]
      exact o3 k hk
    · intro k hk
      rw [z 4 0 (by omega)] at hk
      rw [z 3 0 (by omega), z 8 k (by omega), z 9 k (by omega), z 10 k (by omega), z 11 k (by omega), z 12 k (by omega), z 13 k (by omega)]
      exact o4 k hk
    · intro k hk
      rw [z 4 0 (by omega)] at hk
      rw [z 11 k (by omega), z 12 k (by omega)]
      exact o5 k hk
  by_cases hg : fwG sz (σ 7 (σ 8 j)) (σ 10 j) (σ 11 j) = 0
  · rw [nWis_n hg]
    exact hup 2 _ (Or.inr rfl) (by rw [hz 2 0 (by omega) (by omega) (by omega) (by omega) (by omega)]; exact Nat.le_refl _)
  · rw [nWis_y hg]
    exact hup 1 _ (Or.inl rfl) (by rw [hz 1 0 (by omega) (by omega) (by omega) (by omega) (by omega)]; exact Nat.le_refl _)
theorem gd.pas (h : gd σ i) {k : Nat} (h1 : k ≤ 100) (hi : i ≤ 519) : gd (nPas σ k) (i + 1) := by
  obtain ⟨hO, g1, g2⟩ := h
  refine ⟨hO.pas (by omega), by rw [nPas_00]; omega, ?_⟩
  rw [nPas_o σ (show _ by omega : ¬ ((1 : Nat) = 0 ∧ 0 = 0) ∧ _), nPas_o σ (show _ by omega : ¬ ((2 : Nat) = 0 ∧ 0 = 0) ∧ _)]
  omega
end GDL
