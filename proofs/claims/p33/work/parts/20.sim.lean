/-! THE SIM: what its cells hold.  Ω 0 0 the sim, Ω 1 0 and Ω 2 0 its two rows of rows, Ω 3 i a wand's row, Ω 4 j a child's; τ j: how often punished -/
def nxt : Nat → Nat
  | 0 => 4
  | k + 1 => min 32 (nxt k * 2)
theorem nxt_le : ∀ k, 4 ≤ nxt k ∧ nxt k ≤ 32
  | 0 => by decide
  | k + 1 => by
    have := nxt_le k
    simp only [nxt]
    omega
theorem nxt_top {k n : Nat} (h : 32 ≤ nxt k) (hn : k ≤ n) : nxt n = 32 := by
  induction n with
  | zero => rw [show k = 0 by omega] at h; simp [nxt] at h
  | succ n ih =>
    by_cases e : k = n + 1
    · subst e; have := nxt_le (n + 1); omega
    · have h2 := ih (by omega)
      simp only [nxt, h2]
      decide
abbrev sS (Ω σ : sSt) : va_E := .inr (4, [.ref (Ω 1 0), .ref (Ω 2 0), .int (nI (σ 0 0)), .int (nI (σ 1 0)), .int (nI (σ 2 0))])
abbrev sA (g : wG) (n : Nat) (f : Nat → Option Nat) : va_E := .inl (gJ g, n, .inr (.inr (.inr (.inr f))))
abbrev sR (g : wG) (n : Nat) (h : Nat → Int32) : va_E := .inl (gI g, n, .inl h)
def rW (a b d : Nat) (h : Nat → Int32) : Prop := h 0 = nI a ∧ h 1 = nI b ∧ h 2 = nI d
def rC (a b d e f k : Nat) (h : Nat → Int32) : Prop := h 0 = nI a ∧ h 1 = nI b ∧ h 2 = nI d ∧ h 3 = nI e ∧ h 4 = nI f ∧ h 5 = nI k
theorem upd_s (h : Nat → Int32) (k : Nat) (x : Int32) : upd h k x k = x := by simp [upd]
theorem upd_n (h : Nat → Int32) {k j : Nat} (x : Int32) (e : Nat.beq j k = false) : upd h k x j = h j := by
  have := Nat.ne_of_beq_eq_false e
  simp [upd, this]
section RRL
variable {a b d e f k : Nat} {h : Nat → Int32} (v : Nat)
theorem rW.s0 (r : rW a b d h) : rW v b d (upd h 0 (nI v)) := ⟨upd_s _ _ _, (upd_n _ _ rfl).trans r.2.1, (upd_n _ _ rfl).trans r.2.2⟩
theorem rW.s1 (r : rW a b d h) : rW a v d (upd h 1 (nI v)) := ⟨(upd_n _ _ rfl).trans r.1, upd_s _ _ _, (upd_n _ _ rfl).trans r.2.2⟩
theorem rW.s2 (r : rW a b d h) : rW a b v (upd h 2 (nI v)) := ⟨(upd_n _ _ rfl).trans r.1, (upd_n _ _ rfl).trans r.2.1, upd_s _ _ _⟩
theorem rC.s0 (r : rC a b d e f k h) : rC v b d e f k (upd h 0 (nI v)) := ⟨upd_s _ _ _, (upd_n _ _ rfl).trans r.2.1, (upd_n _ _ rfl).trans r.2.2.1, (upd_n _ _ rfl).trans r.2.2.2.1, (upd_n _ _ rfl).trans r.2.2.2.2.1, (upd_n _ _ rfl).trans r.2.2.2.2.2⟩
theorem rC.s1 (r : rC a b d e f k h) : rC a v d e f k (upd h 1 (nI v)) := ⟨(upd_n _ _ rfl).trans r.1, upd_s _ _ _, (upd_n _ _ rfl).trans r.2.2.1, (upd_n _ _ rfl).trans r.2.2.2.1, (upd_n _ _ rfl).trans r.2.2.2.2.1, (upd_n _ _ rfl).trans r.2.2.2.2.2⟩
theorem rC.s2 (r : rC a b d e f k h) : rC a b v e f k (upd h 2 (nI v)) := ⟨(upd_n _ _ rfl).trans r.1, (upd_n _ _ rfl).trans r.2.1, upd_s _ _ _, (upd_n _ _ rfl).trans r.2.2.2.1, (upd_n _ _ rfl).trans r.2.2.2.2.1, (upd_n _ _ rfl).trans r.2.2.2.2.2⟩
theorem rC.s3 (r : rC a b d e f k h) : rC a b d v f k (upd h 3 (nI v)) := ⟨(upd_n _ _ rfl).trans r.1, (upd_n _ _ rfl).trans r.2.1, (upd_n _ _ rfl).trans r.2.2.1, upd_s _ _ _, (upd_n _ _ rfl).trans r.2.2.2.2.1, (upd_n _ _ rfl).trans r.2.2.2.2.2⟩
theorem rC.s4 (r : rC a b d e f k h) : rC a b d e v k (upd h 4 (nI v)) := ⟨(upd_n _ _ rfl).trans r.1, (upd_n _ _ rfl).trans r.2.1, (upd_n _ _ rfl).trans r.2.2.1, (upd_n _ _ rfl).trans r.2.2.2.1, upd_s _ _ _, (upd_n _ _ rfl).trans r.2.2.2.2.2⟩
theorem rC.s5 (r : rC a b d e f k h) : rC a b d e f v (upd h 5 (nI v)) := ⟨(upd_n _ _ rfl).trans r.1, (upd_n _ _ rfl).trans r.2.1, (upd_n _ _ rfl).trans r.2.2.1, (upd_n _ _ rfl).trans r.2.2.2.1, (upd_n _ _ rfl).trans r.2.2.2.2.1, upd_s _ _ _⟩
end RRL
abbrev rwW (σ : sSt) (i : Nat) (h : Nat → Int32) : Prop := rW (σ 5 i) (σ 6 i) (σ 7 i) h
abbrev rwC (τ : Nat → Nat) (σ : sSt) (j : Nat) (h : Nat → Int32) : Prop := rC (σ 8 j) (σ 9 j) (σ 10 j) (σ 11 j) (σ 12 j) (τ j) h
def sD (g : wG) (Ω : sSt) (τ : Nat → Nat) (σ : sSt) (ν : wMu) : Prop :=
  ν (Ω 0 0) = some (sS Ω σ) ∧ (∃ f, ν (Ω 1 0) = some (sA g (σ 3 0) f) ∧ ∀ i, i < σ 3 0 → f i = some (Ω 3 i)) ∧ (∃ f, ν (Ω 2 0) = some (sA g (σ 4 0) f) ∧ ∀ j, j < σ 4 0 → f j = some (Ω 4 j)) ∧
  (∀ i, i < σ 3 0 → ∃ h, ν (Ω 3 i) = some (sR g 3 h) ∧ rwW σ i h) ∧ (∀ j, j < σ 4 0 → ∃ h, ν (Ω 4 j) = some (sR g 6 h) ∧ rwC τ σ j h) ∧
  (∀ i k, i < σ 3 0 → k < σ 3 0 → Ω 3 i = Ω 3 k → i = k) ∧ (∀ i k, i < σ 4 0 → k < σ 4 0 → Ω 4 i = Ω 4 k → i = k)
def sT (τ : Nat → Nat) (σ : sSt) : Prop := ∀ j, j < σ 4 0 → σ 13 j = nxt (τ j) ∧ τ j ≤ σ 2 0
theorem rw_ne {g : wG} {ν : wMu} {a b n k : Nat} {h h2 : Nat → Int32} (h1 : ν a = some (sR g n h)) (h3 : ν b = some (sR g k h2)) (e : Nat.beq n k = false) : a ≠ b := fun z => by
  rw [z, h3] at h1
  have h5 := Option.some.inj h1
  injection h5 with h6
  injection h6 with h7 h8
  injection h8 with h9 h10
  exact Nat.ne_of_beq_eq_false e h9.symm
section SDL
variable {g : wG} {Ω σ σ' : sSt} {τ τ' : Nat → Nat} {ν ν' : wMu}
/-- another state, the same rows of rows -/
theorem sD.chg (hS : sD g Ω τ σ ν) (h3 : σ' 3 0 = σ 3 0) (h4 : σ' 4 0 = σ 4 0) (hx : ν' (Ω 0 0) = some (sS Ω σ')) (h1 : ν' (Ω 1 0) = ν (Ω 1 0)) (h2 : ν' (Ω 2 0) = ν (Ω 2 0)) (hw : ∀ i, i < σ 3 0 → ∃ h, ν' (Ω 3 i) = some (sR g 3 h) ∧ rwW σ' i h) (hc : ∀ j, j < σ 4 0 → ∃ h, ν' (Ω 4 j) = some (sR g 6 h) ∧ rwC τ' σ' j h) : sD g Ω τ' σ' ν' := by
  obtain ⟨s1, ⟨f, s2, s2'⟩, ⟨f', s3, s3'⟩, s4, s5, s6, s7⟩ := hS
  exact ⟨hx, ⟨f, by rw [h1, h3]; exact s2, by rw [h3]; exact s2'⟩, ⟨f', by rw [h2, h4]; exact s3, by rw [h4]; exact s3'⟩, by rw [h3]; exact hw, by rw [h4]; exact hc, by rw [h3]; exact s6, by rw [h4]; exact s7⟩
/-- a wand's row, a child's row and the sim's own numbers are others -/
theorem sD.cwx (hS : sD g Ω τ σ ν) {j i : Nat} (hj : j < σ 4 0) (hi : i < σ 3 0) (hx : ν' (Ω 0 0) = some (sS Ω σ')) {h h2 : Nat → Int32} (hn1 : ν' (Ω 4 j) = some (sR g 6 h)) (hr1 : rwC τ' σ' j h) (hn2 : ν' (Ω 3 i) = some (sR g 3 h2)) (hr2 : rwW σ' i h2) (ho : ∀ q, q ≠ Ω 0 0 → q ≠ Ω 4 j → q ≠ Ω 3 i → ν' q = ν q) (hs : ∀ f k, ¬ (f ≤ 2 ∧ k = 0) → ¬ (8 ≤ f ∧ f ≤ 13 ∧ k = j) → ¬ (5 ≤ f ∧ f ≤ 7 ∧ k = i) → σ' f k = σ f k) (ht : ∀ k, k ≠ j → τ' k = τ k) : sD g Ω τ' σ' ν' := by
  obtain ⟨s1, ⟨f, s2, s2'⟩, ⟨f', s3, s3'⟩, s4, s5, s6, s7⟩ := id hS
  obtain ⟨h4, k4, -⟩ := s4 i hi
  obtain ⟨h5, k5, -⟩ := s5 j hj
  refine hS.chg (hs 3 0 (by omega) (by omega) (by omega)) (hs 4 0 (by omega) (by omega) (by omega)) hx (ho _ (kd_ne s2 s1 rfl) (kd_ne s2 k5 rfl) (kd_ne s2 k4 rfl)) (ho _ (kd_ne s3 s1 rfl) (kd_ne s3 k5 rfl) (kd_ne s3 k4 rfl)) ?_ ?_
  · intro k hk
    by_cases e : k = i
    · subst e; exact ⟨_, hn2, hr2⟩
    · obtain ⟨h6, k6, r6⟩ := s4 k hk
      refine ⟨h6, by rw [ho _ (kd_ne k6 s1 rfl) (rw_ne k6 k5 rfl) (fun z => e (s6 k i hk hi z))]; exact k6, ?_⟩
      unfold rwW
      rw [hs 5 k (by omega) (by omega) (by omega), hs 6 k (by omega) (by omega) (by omega), hs 7 k (by omega) (by omega) (by omega)]
      exact r6
  · intro k hk
    by_cases e : k = j
    · subst e; exact ⟨_, hn1, hr1⟩
    · obtain ⟨h6, k6, r6⟩ := s5 k hk
      refine ⟨h6, by rw [ho _ (kd_ne k6 s1 rfl) (fun z => e (s7 k j hk hj z)) (rw_ne k6 k4 rfl)]; exact k6, ?_⟩
      unfold rwC
      rw [hs 8 k (by omega) (by omega) (by omega), hs 9 k (by omega) (by omega) (by omega), hs 10 k (by omega) (by omega) (by omega), hs 11 k (by omega) (by omega) (by omega), hs 12 k (by omega) (by omega) (by omega), ht k e]
      exact r6
theorem sD.w1 (hS : sD g Ω τ σ ν) {i : Nat} (hi : i < σ 3 0) {h2 : Nat → Int32} (hn2 : ν' (Ω 3 i) = some (sR g 3 h2)) (hr2 : rwW σ' i h2) (ho : ∀ q, q ≠ Ω 3 i → ν' q = ν q) (hs : ∀ f k, ¬ (5 ≤ f ∧ f ≤ 7 ∧ k = i) → σ' f k = σ f k) : sD g Ω τ σ' ν' := by
  obtain ⟨s1, ⟨f, s2, s2'⟩, ⟨f', s3, s3'⟩, s4, s5, s6, s7⟩ := id hS
  obtain ⟨h4, k4, -⟩ := s4 i hi
  refine hS.chg (hs 3 0 (by omega)) (hs 4 0 (by omega)) ?_ (ho _ (kd_ne s2 k4 rfl)) (ho _ (kd_ne s3 k4 rfl)) ?_ ?_
  · rw [ho _ (kd_ne s1 k4 rfl), s1]; simp only [sS, hs 0 0 (by omega), hs 1 0 (by omega), hs 2 0 (by omega)]
  · intro k hk
    by_cases e : k = i
    · subst e; exact ⟨_, hn2, hr2⟩
    · obtain ⟨h6, k6, r6⟩ := s4 k hk
      refine ⟨h6, by rw [ho _ (fun z => e (s6 k i hk hi z))]; exact k6, ?_⟩
      unfold rwW
      rw [hs 5 k (by omega), hs 6 k (by omega), hs 7 k (by omega)]
      exact r6
  · intro k hk
    obtain ⟨h6, k6, r6⟩ := s5 k hk
    refine ⟨h6, by rw [ho _ (rw_ne k6 k4 rfl)]; exact k6, ?_⟩
    unfold rwC
    rw [hs 8 k (by omega), hs 9 k (by omega), hs 10 k (by omega), hs 11 k (by omega), hs 12 k (by omega)]
    exact r6
theorem sD.c1 (hS : sD g Ω τ σ ν) {j : Nat} (hj : j < σ 4 0) {h : Nat → Int32} (hn1 : ν' (Ω 4 j) = some (sR g 6 h)) (hr1 : rwC τ' σ' j h) (ho : ∀ q, q ≠ Ω 4 j → ν' q = ν q) (hs : ∀ f k, ¬ (8 ≤ f ∧ f ≤ 13 ∧ k = j) → σ' f k = σ f k) (ht : ∀ k, k ≠ j → τ' k = τ k) : sD g Ω τ' σ' ν' := by
  obtain ⟨s1, ⟨f, s2, s2'⟩, ⟨f', s3, s3'⟩, s4, s5, s6, s7⟩ := id hS
  obtain ⟨h5, k5, -⟩ := s5 j hj
  refine hS.chg (hs 3 0 (by omega)) (hs 4 0 (by omega)) ?_ (ho _ (kd_ne s2 k5 rfl)) (ho _ (kd_ne s3 k5 rfl)) ?_ ?_
  · rw [ho _ (kd_ne s1 k5 rfl), s1]; simp only [sS, hs 0 0 (by omega), hs 1 0 (by omega), hs 2 0 (by omega)]
  · intro k hk
    obtain ⟨h6, k6, r6⟩ := s4 k hk
    refine ⟨h6, by rw [ho _ (rw_ne k6 k5 rfl)]; exact k6, ?_⟩
    unfold rwW
    rw [hs 5 k (by omega), hs 6 k (by omega), hs 7 k (by omega)]
    exact r6
  · intro k hk
    by_cases e : k = j
    · subst e; exact ⟨_, hn1, hr1⟩
    · obtain ⟨h6, k6, r6⟩ := s5 k hk
      refine ⟨h6, by rw [ho _ (fun z => e (s7 k j hk hj z))]; exact k6, ?_⟩
      unfold rwC
      rw [hs 8 k (by omega), hs 9 k (by omega), hs 10 k (by omega), hs 11 k (by omega), hs 12 k (by omega), ht k e]
      exact r6
theorem sD.x1 (hS : sD g Ω τ σ ν) (hx : ν' (Ω 0 0) = some (sS Ω σ')) (ho : ∀ q, q ≠ Ω 0 0 → ν' q = ν q) (hs : ∀ f k, ¬ (f ≤ 2 ∧ k = 0) → σ' f k = σ f k) : sD g Ω τ σ' ν' := by
  obtain ⟨s1, ⟨f, s2, s2'⟩, ⟨f', s3, s3'⟩, s4, s5, s6, s7⟩ := id hS
  refine hS.chg (hs 3 0 (by omega)) (hs 4 0 (by omega)) hx (ho _ (kd_ne s2 s1 rfl)) (ho _ (kd_ne s3 s1 rfl)) ?_ ?_
  · intro k hk
    obtain ⟨h6, k6, r6⟩ := s4 k hk
    refine ⟨h6, by rw [ho _ (kd_ne k6 s1 rfl)]; exact k6, ?_⟩
    unfold rwW
    rw [hs 5 k (by omega), hs 6 k (by omega), hs 7 k (by omega)]
    exact r6
  · intro k hk
    obtain ⟨h6, k6, r6⟩ := s5 k hk
    refine ⟨h6, by rw [ho _ (kd_ne k6 s1 rfl)]; exact k6, ?_⟩
    unfold rwC
    rw [hs 8 k (by omega), hs 9 k (by omega), hs 10 k (by omega), hs 11 k (by omega), hs 12 k (by omega)]
    exact r6
end SDL
section NRS
variable {p : Program} {l : Launch} {e : Env} {R : Room} {s : State} {m : MethodId} {args : Array Value} {below : List Frame} {meth : Method} {c : Code} {H : Heap} {locs : List Loc} {cells slots : Nat} {Q : State → Prop}
variable {cc : ByteArray} {pc : Nat} {ls : Array Slot} {rest : List Value} {A : Nat → Prop} {a : Nat} {g : wG} {μ : wMu}
theorem n_ialdv (hexec : p.tables.exec = Jvm.exec) (hb : c.code = cc) (hX : wX g A s H locs μ) {n j : Nat} {f : Nat → Int32} {v : Int32} (he : μ a = some (.inl (gI g, n, .inl f))) (hj : j < n) (hn : n < 2 ^ 31) (hdg : decode cc pc = .ok (.iaload, 1)) (hv : f j = v)
    (kk : W p l e R s m args below meth c H locs cells slots Q (F0 m (pc + 1) ls (.int v :: rest))) : W p l e R s m args below meth c H locs cells slots Q (F0 m pc ls (.int (nI j) :: .ref a :: rest)) := by
  subst hv; exact n_iald hexec hb hX he hj hn hdg kk
theorem n_aaldRv (hexec : p.tables.exec = Jvm.exec) (hb : c.code = cc) (hX : wX g A s H locs μ) {n j r : Nat} {f : Nat → Option Nat} (he : μ a = some (.inl (gJ g, n, .inr (.inr (.inr (.inr f)))))) (hj : j < n) (hn : n < 2 ^ 31) (hdg : decode cc pc = .ok (.aaload, 1)) (hv : f j = some r)
    (kk : W p l e R s m args below meth c H locs cells slots Q (F0 m (pc + 1) ls (.ref r :: rest))) : W p l e R s m args below meth c H locs cells slots Q (F0 m pc ls (.int (nI j) :: .ref a :: rest)) := by
  refine n_aaldR hexec hb hX he hj hn hdg ?_
  rw [hv]
  exact kk
end NRS
