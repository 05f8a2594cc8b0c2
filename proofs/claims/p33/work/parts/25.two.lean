/-! TWO WORLDS: the class's μ and the sim's ν, apart -/
def mU (μ ν : wMu) : wMu := fun q => match ν q with
  | some e => some e
  | none => μ q
abbrev dj (μ ν : wMu) : Prop := ∀ q, μ q ≠ none → ν q = none
section MU
variable {g : wG} {A : Nat → Prop} {s : State} {H H1 : Heap} {locs : List Loc} {μ ν κ : wMu} {a : Nat} {e : va_E}
theorem mU_r (h : ν a = some e) : mU μ ν a = some e := by simp only [mU, h]
theorem mU_n (h : ν a = none) : mU μ ν a = μ a := by simp only [mU, h]
theorem mU_l (hd : dj μ ν) (h : μ a = some e) : mU μ ν a = some e := by
  rw [mU_n (hd a (by rw [h]; exact Option.some_ne_none _))]; exact h
theorem mU_up : va_up (mU μ ν) a (some e) = mU μ (va_up ν a (some e)) := by
  funext q
  by_cases h : q = a
  · subst h; simp only [mU, va_up_self]
  · simp only [mU, va_up_ne _ _ h]
theorem mU_no (h : mU μ ν a = none) : μ a = none ∧ ν a = none := by
  cases hn : ν a with
  | none => rw [mU_n hn] at h; exact ⟨h, rfl⟩
  | some e => rw [mU_r hn] at h; cases h
theorem dj.no (hd : dj μ ν) (h : ν a = some e) : μ a = none := Classical.byContradiction fun z => by
  have := hd a z
  rw [this] at h
  cases h
theorem dj.up (hd : dj μ ν) (h : μ a = none) : dj μ (va_up ν a (some e)) := fun q hq => by
  by_cases z : q = a
  · subst z; exact absurd h hq
  · rw [va_up_ne _ _ z]; exact hd q hq
theorem wX.l (h : wX g A s H locs (mU μ ν)) (hd : dj μ ν) : wX g A s H locs μ := h.sub (fun _ _ hq => mU_l hd hq)
theorem wX.r (h : wX g A s H locs (mU μ ν)) : wX g A s H locs ν := h.sub (fun _ _ hq => mU_r hq)
theorem wX.join (h : wX g A s H locs μ) (h2 : wX g A s H locs ν) : wX g A s H locs (mU μ ν) := by
  refine ⟨h.1, h.2.1, h.2.2.1, h.S, fun q e' hq => ?_, fun q hq => ?_⟩
  · cases hn : ν q with
    | none => rw [mU_n hn] at hq; exact h.P q e' hq
    | some e2 => rw [mU_r hn] at hq; cases hq; exact h2.P q _ hn
  · cases hn : ν q with
    | none => rw [mU_n hn] at hq; exact h.dom q hq
    | some e2 => exact h2.dom q (by rw [hn]; exact Option.some_ne_none _)
/-- the heap where only what μ names has moved: the other world stays -/
theorem wX.stay (h : wX g A s H locs ν) (h2 : wX g A s H1 locs μ) (hfr : ∀ q : Nat, q < H.size → κ q = none → H1[q]? = H[q]?) (hd : ∀ q, ν q ≠ none → κ q = none) : wX g A s H1 locs ν :=
  ⟨h.1, h.2.1, h.2.2.1, h2.S, fun q e' hq => (h.P q e' hq).kept (hfr q (h.P q e' hq).lt (hd q (by rw [hq]; exact Option.some_ne_none _))), h.dom⟩
theorem wX.stay2 {locs1 : List Loc} (h : wX g A s H locs ν) (h2 : wX g A s H1 locs1 μ) (hfr : ∀ q : Nat, q < H.size → κ q = none → H1[q]? = H[q]?) (hd : ∀ q, ν q ≠ none → κ q = none) : wX g A s H1 locs1 ν :=
  ⟨h.1, h.2.1, h.2.2.1, h2.S, fun q e' hq => (h.P q e' hq).kept (hfr q (h.P q e' hq).lt (hd q (by rw [hq]; exact Option.some_ne_none _))), h.dom⟩
end MU
section WC2
variable {p : Program} {l : Launch} {e : Env} {R : Room} {s : State} {m : MethodId} {args : Array Value} {below : List Frame} {meth : Method} {c : Code} {H : Heap} {locs : List Loc} {cells slots : Nat} {Q : State → Prop}
variable {pc : Nat} {ls : Array Slot} {st0 rest : List Value} {A : Nat → Prop} {g : wG} {μ ν : wMu} {post : Option Value → wMu → Prop} {a : Array Value} {mc ms : Nat}
/-- a call on the class's world -/
theorem w_callL (hr : va_Run p l e R s m args below meth c H locs cells slots mc ms (F0 m pc ls st0) rest (wQc g μ H.size post a) (wA μ H.size)) (hX : wX g A s H locs (mU μ ν)) (hd : dj μ ν)
    (kk : ∀ (r : Option Value) (μ' : wMu) (H1 : Heap) (locs1 : List Loc), post r μ' → dj μ' ν → wX g A s H1 locs1 (mU μ' ν) → H.size ≤ H1.size → W p l e R s m args below meth c H1 locs1 (cells + mc) (slots + ms) Q (F0 m (pc + 3) ls (r.toList ++ rest))) : W p l e R s m args below meth c H locs cells slots Q (F0 m pc ls st0) := by
  refine w_callF hr (hX.l hd) (fun r μ' H1 locs1 hp hX1 hz hfr hdom => ?_)
  have hY := hX.r
  have hd' : dj μ' ν := fun q hq => (hdom q hq).elim (hd q) (fun z => by
    cases hn : ν q with
    | none => rfl
    | some e2 => exact absurd (hY.lt hn) (Nat.not_lt.mpr z))
  refine kk r μ' H1 locs1 hp hd' (hX1.join (hY.stay2 hX1 hfr (fun q hq => ?_))) hz
  cases hm : μ q with
  | none => rfl
  | some e2 => exact absurd (hd q (by rw [hm]; exact Option.some_ne_none _)) hq
/-- a call on the sim's world -/
theorem w_callR (hr : va_Run p l e R s m args below meth c H locs cells slots mc ms (F0 m pc ls st0) rest (wQc g ν H.size post a) (wA ν H.size)) (hX : wX g A s H locs (mU μ ν)) (hd : dj μ ν)
    (kk : ∀ (r : Option Value) (ν' : wMu) (H1 : Heap) (locs1 : List Loc), post r ν' → dj μ ν' → wX g A s H1 locs1 (mU μ ν') → H.size ≤ H1.size → W p l e R s m args below meth c H1 locs1 (cells + mc) (slots + ms) Q (F0 m (pc + 3) ls (r.toList ++ rest))) : W p l e R s m args below meth c H locs cells slots Q (F0 m pc ls st0) := by
  refine w_callF hr hX.r (fun r ν' H1 locs1 hp hX1 hz hfr hdom => ?_)
  have hY := hX.l hd
  have hd' : dj μ ν' := fun q hq => by
    cases hn : ν' q with
    | none => rfl
    | some e2 =>
      rcases hdom q (by rw [hn]; exact Option.some_ne_none _) with z | z
      · exact absurd (hd q hq) z
      · cases hm : μ q with
        | none => exact absurd hm hq
        | some e3 => exact absurd (hY.lt hm) (Nat.not_lt.mpr z)
  exact kk r ν' H1 locs1 hp hd' ((hY.stay2 hX1 hfr hd).join hX1) hz
end WC2
