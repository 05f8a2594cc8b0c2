/-! ROWS OVER A WORLD THAT IS A PARTIAL MAP: what a method knows of the heap is a map from addresses to cells; a contract takes the whole map and tells the whole map behind -/
abbrev wMu : Type := Nat → Option va_E
abbrev wG : Type := va_G × (ClassId × ClassId × ClassId) × Nat × Nat × (Nat → Nat) × (Nat × Nat × (Nat → Int32))
abbrev gD (g : wG) : va_G := g.1
abbrev gI (g : wG) : ClassId := g.2.1.1
abbrev gO (g : wG) : ClassId := g.2.1.2.1
abbrev gJ (g : wG) : ClassId := g.2.1.2.2
abbrev gB (g : wG) : Nat := g.2.2.1
abbrev gE (g : wG) : Nat := g.2.2.2.1
abbrev gS (g : wG) : Nat → Nat := g.2.2.2.2.1
abbrev gT (g : wG) : Nat × Nat × (Nat → Int32) := g.2.2.2.2.2
def wTys (g : wG) : List (ClassId × FieldType) := [(gI g, .int), (gO g, .object "java/lang/Object"), (gJ g, .array .int)]
def wP (g : wG) (μ : wMu) (H : Heap) : Prop := ∀ (q : Nat) (e : va_E), μ q = some e → va_at (gD g) vwCl (q, e) H
def wStr (g : wG) (U : State) : Prop := vk_R RX2 253 "out of its range" (gS g 0) U ∧ vk_R RX2 246 "no such wand" (gS g 1) U ∧ vk_R RX2 249 "no such child" (gS g 2) U ∧ vk_R RX2 46 "no more wands" (gS g 3) U ∧ vk_R RX2 59 "no more children" (gS g 4) U
def xIAE : String := "java/lang/IllegalArgumentException"
def xISE : String := "java/lang/IllegalStateException"
def xIOB : String := "java/lang/IndexOutOfBoundsException"
def wSt0 (g : wG) (U : State) (H : Heap) : Prop := ∃ cell : Cell, H[gE g]? = some cell ∧ U.isArrayOf cell (.object "java/lang/Object") ∧ cell.slots.size = 0
def wScr (g : wG) (U : State) : Prop := va_X (gT g).1 (gT g).2.1 (gT g).2.2 U U.heap ∧ (gT g).1 < gB g ∧ (gT g).2.1 ≤ 260
def wE (g : wG) (U : State) : Prop :=
  va_K (gD g) vwCl (wTys g) U ∧ (∀ w ∈ GW, w.before #[] U = true) ∧ wStr g U ∧
  vx_Zq Bundle.tN "UNASSIGNED_STACK" Bundle.steD (fun q => gB g ≤ q) U U.heap ∧ vx_Zq Bundle.tN "SUPPRESSED_SENTINEL" Bundle.listD (fun q => gB g ≤ q) U U.heap ∧
  va_Z "java/util/ArrayList" "DEFAULTCAPACITY_EMPTY_ELEMENTDATA" "[Ljava/lang/Object;" (.ref (gE g)) (fun q => gB g ≤ q) U U.heap ∧
  wSt0 g U U.heap ∧ gE g < gB g ∧ gB g ≤ U.heap.size ∧ wScr g U
theorem tw_warm {s U : State} (hW : s.WarmedH U.vm) {w : Cond} (hk : tw_ok w = true) (h : w.before #[] s = true) : w.before #[] U = true := by
  cases w with
  | arrayOver t => cases t <;> first | exact va_AO.moved hW.alike h | exact over_moved hW.alike h | exact word_at hW (good_of_word hk) h
  | _ => first | exact word_at hW (good_of_word hk) h | exact va_Nw.warmF hW h | exact va_Nw.warmM hW h | exact va_Nw.warmC hW h | exact va_Nw.warmD hW h
theorem tw_args {U : State} {w : Cond} (hk : tw_ok w = true) (h : w.before #[] U = true) (args : Array Value) : w.before args U = true := by
  cases w with
  | arrayOver t => cases t <;> first | exact va_AO.use h | exact over_moved (State.WarmedH.refl U).alike h | exact word_at (State.WarmedH.refl U) (good_of_word hk) h
  | _ => first | exact va_tabs rfl rfl h | exact word_at (State.WarmedH.refl U) (good_of_word hk) h
theorem tw_args0 {U : State} {w : Cond} (hk : tw_ok w = true) {args : Array Value} (h : w.before args U = true) : w.before #[] U = true := by
  cases w with
  | arrayOver t => cases t <;> first | exact va_AO.use h | exact over_moved (State.WarmedH.refl U).alike h | exact word_at (State.WarmedH.refl U) (good_of_word hk) h
  | _ => first | exact va_tabs rfl rfl h | exact word_at (State.WarmedH.refl U) (good_of_word hk) h
theorem wE.w {g : wG} {U : State} (h : wE g U) {w : Cond} (hw : w ∈ GW) {args : Array Value} : w.before args U = true :=
  tw_args (List.mem_filter.mp hw).2 (h.2.1 w hw) args
theorem wE.next {g : wG} {s U : State} {H : Heap} {locs : List Loc} {A : Nat → Prop} (h : wE g s) (hA : ∀ q, A q → gB g ≤ q) (hS : va_S A s.heap H locs) (hU : U.heap = H) (hW : s.WarmedH U.vm) : wE g U := by
  obtain ⟨h1, h2, ⟨a1, a2, a3, a4, a5⟩, h5, h6, h7, ⟨cell, c1, c2, c3⟩, h9, h10, ⟨scr, x1, x2, x3, x4, x5⟩, x6, x7⟩ := h
  have hq : ∀ a : Nat, a < s.heap.size → ¬ gB g ≤ a → U.heap[a]? = s.heap[a]? := fun a ha hn => by rw [hU]; exact hS.2.1 a ha (fun z => hn (hA a z))
  refine ⟨h1.moved hW.alike, fun w hw => tw_warm hW (List.mem_filter.mp hw).2 (h2 w hw), ⟨a1.warm hW, a2.warm hW, a3.warm hW, a4.warm hW, a5.warm hW⟩, (h5.kept hq).moved hW.alike, (h6.kept hq).moved hW.alike, (h7.kept hq).moved hW.alike, ⟨cell, ?_, State.isArrayOf_alike hW.alike c2, c3⟩, h9, ?_, ⟨scr, ?_, State.isArrayOf_alike hW.alike x2, x3, x4, x5⟩, x6, x7⟩
  · rw [hq _ (Array.getElem?_eq_some_iff.mp c1).1 (by omega)]; exact c1
  · rw [hU]; exact Nat.le_trans h10 hS.1
  · rw [hq _ (Array.getElem?_eq_some_iff.mp x1).1 (by omega)]; exact x1
def wX (g : wG) (A : Nat → Prop) (s : State) (H : Heap) (locs : List Loc) (μ : wMu) : Prop :=
  wE g s ∧ (∀ q, A q → gB g ≤ q) ∧ (∀ q, s.heap.size ≤ q → A q) ∧ va_S A s.heap H locs ∧ wP g μ H ∧ (∀ q, μ q ≠ none → A q)
def wA (μ : wMu) (sz : Nat) : Nat → Prop := fun q => μ q ≠ none ∨ sz ≤ q
section WX
variable {g : wG} {A : Nat → Prop} {s : State} {H H1 : Heap} {locs : List Loc} {μ : wMu} {a : Nat} {e e0 : va_E}
theorem wX.K (h : wX g A s H locs μ) : va_K (gD g) vwCl (wTys g) s := h.1.1
theorem wX.w (h : wX g A s H locs μ) {w : Cond} (hw : w ∈ GW) {args : Array Value} : w.before args s = true := h.1.w hw
theorem wX.ws (h : wX g A s H locs μ) (args : Array Value) : ∀ w ∈ GW, w.before args s = true := fun _ hw => h.1.w hw
theorem wX.S (h : wX g A s H locs μ) : va_S A s.heap H locs := h.2.2.2.1
theorem wX.P (h : wX g A s H locs μ) : wP g μ H := h.2.2.2.2.1
theorem wX.dom (h : wX g A s H locs μ) : ∀ q, μ q ≠ none → A q := h.2.2.2.2.2
theorem wX.one (h : wX g A s H locs μ) (hm : μ a = some e) : va_P (gD g) vwCl [(a, e)] H := fun k q hk => by
  cases k with
  | zero => cases hk; exact h.P a e hm
  | succ k => simp at hk
theorem wX.lt (h : wX g A s H locs μ) (hm : μ a = some e) : a < H.size := (h.P a e hm).lt
theorem wX.fresh (h : wX g A s H locs μ) : μ H.size = none := by
  cases hm : μ H.size with
  | none => rfl
  | some e => exact absurd (h.lt hm) (Nat.lt_irrefl _)
theorem wX.recv (h : wX g A s H locs μ) {ci : Nat} {q : vw_C} {fs : List Value} (hm : μ a = some (.inr (ci, fs))) (hc : vwCl[ci]? = some q) : ∃ cell : Cell, H[a]? = some cell ∧ cell.vm.isStatics = false ∧ s.vm.findClass q.1 = some cell.cls := va_recv (q0 := 0) h.K (h.one hm) hc rfl
theorem wX.upd (h : wX g A s H locs μ) (hm : μ a = some e0) {k : Nat} (z : H1.size = H.size) (oq : ∀ q : Nat, q ≠ a → H1[q]? = H[q]?) (he : va_at (gD g) vwCl (a, e) H1) : wX g A s H1 (locs ++ [⟨a, k⟩]) (va_up μ a (some e)) := by
  obtain ⟨h1, h2, h3, h4, h5, h6⟩ := h
  have ha : A a := h6 a (by rw [hm]; exact Option.some_ne_none _)
  refine ⟨h1, h2, h3, h4.put z oq ha, fun q e' hq => ?_, fun q hq => ?_⟩
  · by_cases hqa : q = a
    · subst hqa; rw [va_up_self] at hq; cases hq; exact he
    · rw [va_up_ne _ _ hqa] at hq; exact (h5 q e' hq).kept (oq q hqa)
  · by_cases hqa : q = a
    · subst hqa; exact ha
    · rw [va_up_ne _ _ hqa] at hq; exact h6 q hq
theorem wX.push (h : wX g A s H locs μ) (z : H1.size = H.size + 1) (oq : ∀ q : Nat, q < H.size → H1[q]? = H[q]?) (he : va_at (gD g) vwCl (H.size, e) H1) : wX g A s H1 locs (va_up μ H.size (some e)) := by
  obtain ⟨h1, h2, h3, h4, h5, h6⟩ := h
  refine ⟨h1, h2, h3, ⟨Nat.le_trans h4.1 (by omega), fun q k1 k2 => (oq q (Nat.lt_of_lt_of_le k1 h4.1)).trans (h4.2.1 q k1 k2), h4.2.2⟩, fun q e' hq => ?_, fun q hq => ?_⟩
  · by_cases hqa : q = H.size
    · subst hqa; rw [va_up_self] at hq; cases hq; exact he
    · rw [va_up_ne _ _ hqa] at hq; exact (h5 q e' hq).kept (oq q (h5 q e' hq).lt)
  · by_cases hqa : q = H.size
    · subst hqa; exact h3 _ h4.1
    · rw [va_up_ne _ _ hqa] at hq; exact h6 q hq
/-- the heap has grown by cells that the map does not name -/
theorem wX.grow (h : wX g A s H locs μ) (z : H.size ≤ H1.size) (oq : ∀ q : Nat, q < H.size → H1[q]? = H[q]?) : wX g A s H1 locs μ := by
  obtain ⟨h1, h2, h3, h4, h5, h6⟩ := h
  exact ⟨h1, h2, h3, ⟨Nat.le_trans h4.1 z, fun q k1 k2 => (oq q (Nat.lt_of_lt_of_le k1 h4.1)).trans (h4.2.1 q k1 k2), h4.2.2⟩, fun q e' hq => (h5 q e' hq).kept (oq q (h5 q e' hq).lt), h6⟩
theorem wX.sub (h : wX g A s H locs μ) {μ1 : wMu} (h1 : ∀ q e, μ1 q = some e → μ q = some e) : wX g A s H locs μ1 :=
  ⟨h.1, h.2.1, h.2.2.1, h.S, fun q e hq => h.P q e (h1 q e hq), fun q hq => by
    cases hm : μ1 q with
    | none => exact absurd hm hq
    | some e => exact h.dom q (by rw [h1 q e hm]; exact Option.some_ne_none _)⟩
end WX
theorem va_up_up {α : Type} (f : Nat → α) (k : Nat) (v w : α) : va_up (va_up f k v) k w = va_up f k w := by
  funext j
  by_cases h : j = k <;> simp [va_up, h]
section WR
variable {p : Program} {l : Launch} {e : Env} {R : Room} {s : State} {m : MethodId} {args : Array Value} {below : List Frame} {meth : Method} {c : Code} {H : Heap} {locs : List Loc} {cells slots : Nat} {Q : State → Prop}
variable {cc : ByteArray} {pc : Nat} {ls : Array Slot} {rest : List Value} {A : Nat → Prop} {a : Nat} {g : wG} {μ : wMu}
theorem w_get (hexec : p.tables.exec = Jvm.exec) (hb : c.code = cc) {own ref C : String} {T : u_T} {N ci index : Nat} (hin : ∀ w ∈ u_ws C T N, w ∈ GW) (hc : vwCl[ci]? = some (C, T, N)) (k : Nat) (hk : k < N) (hX : wX g A s H locs μ) (hown : s.vm.findClass own = some m.cls) {fs : List Value} (he : μ a = some (.inr (ci, fs))) (hlink : Cond.fieldLink own index ref (T k).2.1 (T k).2.2.1 ∈ GW) (hsame : ∀ x, s.fieldFound? (T k).1 (T k).2.1 (T k).2.2.1 = some x → s.fieldFound? ref (T k).2.1 (T k).2.2.1 = some x) {v : Value} (hv : fs[k]? = some v) (hdg : decode cc pc = .ok (.getfield index, 3))
    (kk : W p l e R s m args below meth c H locs cells slots Q (F0 m (pc + 3) ls (v :: rest))) : W p l e R s m args below meth c H locs cells slots Q (F0 m pc ls (.ref a :: rest)) :=
  va_get hexec hb (hX.ws args) hin hown hX.K (hX.one he) 0 rfl hc k hk (hX.w hlink) hsame hv hdg kk
theorem w_getN (hexec : p.tables.exec = Jvm.exec) (hb : c.code = cc) {own ref C host : String} {T : u_T} {N ci index : Nat} (hin : ∀ w ∈ u_ws C T N, w ∈ GW) (hc : vwCl[ci]? = some (C, T, N)) (k : Nat) (hk : k < N) (hX : wX g A s H locs μ) (hown : s.vm.findClass own = some m.cls) {fs : List Value} (he : μ a = some (.inr (ci, fs))) (hlink : Cond.fieldLinkNest own index ref (T k).2.1 (T k).2.2.1 host ∈ GW) (hsame : ∀ x, s.fieldFound? (T k).1 (T k).2.1 (T k).2.2.1 = some x → s.fieldFound? ref (T k).2.1 (T k).2.2.1 = some x) {v : Value} (hv : fs[k]? = some v) (hdg : decode cc pc = .ok (.getfield index, 3))
    (kk : W p l e R s m args below meth c H locs cells slots Q (F0 m (pc + 3) ls (v :: rest))) : W p l e R s m args below meth c H locs cells slots Q (F0 m pc ls (.ref a :: rest)) :=
  va_getN hexec hb (hX.ws args) hin hown hX.K (hX.one he) 0 rfl hc k hk (hX.w hlink) hsame hv hdg kk
theorem w_put (hexec : p.tables.exec = Jvm.exec) (hb : c.code = cc) {own ref C : String} {T : u_T} {N ci index : Nat} (hin : ∀ w ∈ u_ws C T N, w ∈ GW) (ty0 : Nat → FieldType) (hty : ∀ k, k < N → parseFieldDescriptor (T k).2.2.1 = some (ty0 k)) (hnm : ∀ a, a < N → ∀ b, b < N → a ≠ b → (T a).2.1 ≠ (T b).2.1) (hc : vwCl[ci]? = some (C, T, N)) (k : Nat) (hk : k < N) (hfin : (T k).2.2.2 = false) {v : Value} (hn : narrow (ty0 k) v = v) (hfit : fits (ty0 k) v = true) (hX : wX g A s H locs μ) (hown : s.vm.findClass own = some m.cls) {fs : List Value} (he : μ a = some (.inr (ci, fs))) (hl : k < fs.length) (hlink : Cond.fieldLink own index ref (T k).2.1 (T k).2.2.1 ∈ GW) (hsame : ∀ x, s.fieldFound? (T k).1 (T k).2.1 (T k).2.2.1 = some x → s.fieldFound? ref (T k).2.1 (T k).2.2.1 = some x)
    (hdg : decode cc pc = .ok (.putfield index, 3)) (kk : ∀ (H1 : Heap) (locs1 : List Loc), wX g A s H1 locs1 (va_up μ a (some (.inr (ci, fs.set k v)))) → W p l e R s m args below meth c H1 locs1 cells slots Q (F0 m (pc + 3) ls rest)) : W p l e R s m args below meth c H locs cells slots Q (F0 m pc ls (v :: .ref a :: rest)) := by
  have hap := va_apart (own := own) (hX.ws args) hin ty0 hty hnm hX.K hc
  obtain ⟨r, h1, cell, q1, q2, q3, q4⟩ := hX.P _ _ he
  have hr : r = (C, T, N) := Option.some.inj (h1.symm.trans hc)
  subst hr
  obtain ⟨hS, hfc, kC, hkC, hkind⟩ := hX.K.1 ci _ hc
  obtain ⟨cf, kf, fi, f, hi, hsl⟩ := hS k hk
  have hlay := hX.ws args _ (hin _ (u_in_lay hk))
  unfold u_lay at hlay
  rw [if_neg (by rw [hfin]; decide)] at hlay
  have hst := (u_facts hfc hkC (u_lays (hX.ws args) hin hk) hi).1
  have h6 := u_store hfc hkC hkind hlay hi (hty k hk) hn hfit
  refine W.putK hexec hb (f := f) ⟨hown, hX.w hlink, ⟨_, _, _, hsame _ hi⟩, hst⟩ (by rw [q2]; exact h6) q1 q3 (by rw [hsl]; exact k2_hasslot (q4 k hk)) rfl rfl hdg fun H' e1 e2 e3 => ?_
  rw [hsl] at e1 ⊢
  exact kk H' _ (hX.upd he e2 e3 ⟨_, hc, t_OB.to (V := updV (vp_V fs) k v) ⟨_, e1, q2, q3, t_set q4 hap hk v⟩ (fun j _ => vp_updV_set hl v j)⟩)
theorem w_putF (hexec : p.tables.exec = Jvm.exec) (hb : c.code = cc) {own ref C : String} {T : u_T} {N ci index : Nat} (hin : ∀ w ∈ u_ws C T N, w ∈ GW) (ty0 : Nat → FieldType) (hty : ∀ k, k < N → parseFieldDescriptor (T k).2.2.1 = some (ty0 k)) (hnm : ∀ a, a < N → ∀ b, b < N → a ≠ b → (T a).2.1 ≠ (T b).2.1) (hc : vwCl[ci]? = some (C, T, N)) (k : Nat) (hk : k < N) (hfin : (T k).2.2.2 = true) (hin2 : meth.name = "<init>") (hdecl : (T k).1 = own) {v : Value} (hn : narrow (ty0 k) v = v) (hfit : fits (ty0 k) v = true) (hX : wX g A s H locs μ) (hown : s.vm.findClass own = some m.cls) {fs : List Value} (he : μ a = some (.inr (ci, fs))) (hl : k < fs.length) (hlink : Cond.fieldLink own index ref (T k).2.1 (T k).2.2.1 ∈ GW) (hsame : ∀ x, s.fieldFound? (T k).1 (T k).2.1 (T k).2.2.1 = some x → s.fieldFound? ref (T k).2.1 (T k).2.2.1 = some x)
    (hdg : decode cc pc = .ok (.putfield index, 3)) (kk : ∀ (H1 : Heap) (locs1 : List Loc), wX g A s H1 locs1 (va_up μ a (some (.inr (ci, fs.set k v)))) → W p l e R s m args below meth c H1 locs1 cells slots Q (F0 m (pc + 3) ls rest)) : W p l e R s m args below meth c H locs cells slots Q (F0 m pc ls (v :: .ref a :: rest)) := by
  have hap := va_apart (own := own) (hX.ws args) hin ty0 hty hnm hX.K hc
  obtain ⟨r, h1, cell, q1, q2, q3, q4⟩ := hX.P _ _ he
  have hr : r = (C, T, N) := Option.some.inj (h1.symm.trans hc)
  subst hr
  obtain ⟨hS, hfc, kC, hkC, hkind⟩ := hX.K.1 ci _ hc
  obtain ⟨cf, kf, fi, f, hi, hsl⟩ := hS k hk
  have hlay := hX.ws args _ (hin _ (u_in_lay hk))
  unfold u_lay at hlay
  rw [if_pos hfin] at hlay
  have hst := (u_facts hfc hkC (u_lays (hX.ws args) hin hk) hi).1
  have hcf : m.cls = cf := by
    obtain ⟨_, _, c', _, _, _, -, -, hf', -, -, -, hown2, -⟩ := Cond.laysFinal_spec hlay
    have e1 : c' = cf := by have := hi.symm.trans hf'; simp at this; exact this.1.symm
    rw [hdecl] at hown2
    rw [← e1]; exact Option.some.inj (hown.symm.trans hown2)
  have h6 := u_fits hfc hkC hkind (Or.inr hlay) hi (hty k hk) hn hfit
  refine W.putFinK hexec hb hown (hX.w hlink) (hsame _ hi) hst hcf hin2 (by rw [q2]; exact h6) q1 q3 (by rw [hsl]; exact k2_hasslot (q4 k hk)) rfl rfl hdg fun H' e1 e2 e3 => ?_
  rw [hsl] at e1 ⊢
  exact kk H' _ (hX.upd he e2 e3 ⟨_, hc, t_OB.to (V := updV (vp_V fs) k v) ⟨_, e1, q2, q3, t_set q4 hap hk v⟩ (fun j _ => vp_updV_set hl v j)⟩)
theorem w_putN (hexec : p.tables.exec = Jvm.exec) (hb : c.code = cc) {own ref C host : String} {T : u_T} {N ci index : Nat} (hin : ∀ w ∈ u_ws C T N, w ∈ GW) (ty0 : Nat → FieldType) (hty : ∀ k, k < N → parseFieldDescriptor (T k).2.2.1 = some (ty0 k)) (hnm : ∀ a, a < N → ∀ b, b < N → a ≠ b → (T a).2.1 ≠ (T b).2.1) (hc : vwCl[ci]? = some (C, T, N)) (k : Nat) (hk : k < N) (hfin : (T k).2.2.2 = false) {v : Value} (hn : narrow (ty0 k) v = v) (hfit : fits (ty0 k) v = true) (hX : wX g A s H locs μ) (hown : s.vm.findClass own = some m.cls) {fs : List Value} (he : μ a = some (.inr (ci, fs))) (hl : k < fs.length) (hlink : Cond.fieldLinkNest own index ref (T k).2.1 (T k).2.2.1 host ∈ GW) (hsame : ∀ x, s.fieldFound? (T k).1 (T k).2.1 (T k).2.2.1 = some x → s.fieldFound? ref (T k).2.1 (T k).2.2.1 = some x)
    (hdg : decode cc pc = .ok (.putfield index, 3)) (kk : ∀ (H1 : Heap) (locs1 : List Loc), wX g A s H1 locs1 (va_up μ a (some (.inr (ci, fs.set k v)))) → W p l e R s m args below meth c H1 locs1 cells slots Q (F0 m (pc + 3) ls rest)) : W p l e R s m args below meth c H locs cells slots Q (F0 m pc ls (v :: .ref a :: rest)) := by
  have hap := va_apart (own := own) (hX.ws args) hin ty0 hty hnm hX.K hc
  obtain ⟨r, h1, cell, q1, q2, q3, q4⟩ := hX.P _ _ he
  have hr : r = (C, T, N) := Option.some.inj (h1.symm.trans hc)
  subst hr
  obtain ⟨hS, hfc, kC, hkC, hkind⟩ := hX.K.1 ci _ hc
  obtain ⟨cf, kf, fi, f, hi, hsl⟩ := hS k hk
  have hlay := hX.ws args _ (hin _ (u_in_lay hk))
  unfold u_lay at hlay
  rw [if_neg (by rw [hfin]; decide)] at hlay
  have hst := (u_facts hfc hkC (u_lays (hX.ws args) hin hk) hi).1
  have h6 := u_store hfc hkC hkind hlay hi (hty k hk) hn hfit
  refine va_WputK hexec hb (f := f) hown (hX.w hlink) (hsame _ hi) hst (by rw [q2]; exact h6) q1 q3 (by rw [hsl]; exact k2_hasslot (q4 k hk)) rfl rfl hdg fun H' e1 e2 e3 => ?_
  rw [hsl] at e1 ⊢
  exact kk H' _ (hX.upd he e2 e3 ⟨_, hc, t_OB.to (V := updV (vp_V fs) k v) ⟨_, e1, q2, q3, t_set q4 hap hk v⟩ (fun j _ => vp_updV_set hl v j)⟩)
/-! arrays -/
theorem n_alen (hexec : p.tables.exec = Jvm.exec) (hb : c.code = cc) (hX : wX g A s H locs μ) {n : Nat} {f : Nat → Int32} (he : μ a = some (.inl (gI g, n, .inl f))) (hdg : decode cc pc = .ok (.arraylength, 1))
    (kk : W p l e R s m args below meth c H locs cells slots Q (F0 m (pc + 1) ls (.int (nI n) :: rest))) : W p l e R s m args below meth c H locs cells slots Q (F0 m pc ls (.ref a :: rest)) :=
  va_alen hexec hb hX.K (hX.one he) 0 0 rfl (ty := .int) rfl rfl hdg kk
theorem n_alenO (hexec : p.tables.exec = Jvm.exec) (hb : c.code = cc) (hX : wX g A s H locs μ) {n : Nat} {f : Nat → Option Nat} (he : μ a = some (.inl (gO g, n, .inr (.inr (.inr (.inr f)))))) (hdg : decode cc pc = .ok (.arraylength, 1))
    (kk : W p l e R s m args below meth c H locs cells slots Q (F0 m (pc + 1) ls (.int (nI n) :: rest))) : W p l e R s m args below meth c H locs cells slots Q (F0 m pc ls (.ref a :: rest)) :=
  va_alen hexec hb hX.K (hX.one he) 0 1 rfl (ty := .object "java/lang/Object") rfl rfl hdg kk
theorem n_alenE (hexec : p.tables.exec = Jvm.exec) (hb : c.code = cc) (hX : wX g A s H locs μ) (hdg : decode cc pc = .ok (.arraylength, 1))
    (kk : W p l e R s m args below meth c H locs cells slots Q (F0 m (pc + 1) ls (.int (nI 0) :: rest))) : W p l e R s m args below meth c H locs cells slots Q (F0 m pc ls (.ref (gE g) :: rest)) := by
  obtain ⟨h1, h2, h3, h4, h5, h6⟩ := id hX
  obtain ⟨-, -, -, -, -, -, ⟨cell, c1, c2, c3⟩, h9, -⟩ := h1
  exact W.alen (n := nI 0) hexec hb (by rw [h4.2.1 _ (Array.getElem?_eq_some_iff.mp c1).1 (fun z => absurd (h2 _ z) (by omega))]; exact c1) c2 (by rw [c3]; rfl) rfl rfl hdg kk
theorem n_iald (hexec : p.tables.exec = Jvm.exec) (hb : c.code = cc) (hX : wX g A s H locs μ) {n j : Nat} {f : Nat → Int32} (he : μ a = some (.inl (gI g, n, .inl f))) (hj : j < n) (hn : n < 2 ^ 31) (hdg : decode cc pc = .ok (.iaload, 1))
    (kk : W p l e R s m args below meth c H locs cells slots Q (F0 m (pc + 1) ls (.int (f j) :: rest))) : W p l e R s m args below meth c H locs cells slots Q (F0 m pc ls (.int (nI j) :: .ref a :: rest)) :=
  va_iald hexec hb hX.K (hX.one he) 0 0 rfl rfl (vp_in_nI hj hn) hdg (by rw [nI_clamp (by omega)]; exact kk)
theorem n_aald (hexec : p.tables.exec = Jvm.exec) (hb : c.code = cc) (hX : wX g A s H locs μ) {n j : Nat} {f : Nat → Option Nat} (he : μ a = some (.inl (gO g, n, .inr (.inr (.inr (.inr f)))))) (hj : j < n) (hn : n < 2 ^ 31) (hdg : decode cc pc = .ok (.aaload, 1))
    (kk : W p l e R s m args below meth c H locs cells slots Q (F0 m (pc + 1) ls (va_rf (f j) :: rest))) : W p l e R s m args below meth c H locs cells slots Q (F0 m pc ls (.int (nI j) :: .ref a :: rest)) :=
  va_aldq (C := "java/lang/Object") hexec hb hX.K (hX.one he) 0 1 rfl rfl (vp_in_nI hj hn) hdg (by rw [nI_clamp (by omega)]; exact kk)
theorem n_iast (hexec : p.tables.exec = Jvm.exec) (hb : c.code = cc) (hX : wX g A s H locs μ) {n j : Nat} {f : Nat → Int32} {x : Int32} (he : μ a = some (.inl (gI g, n, .inl f))) (hj : j < n) (hn : n < 2 ^ 31) (hdg : decode cc pc = .ok (.iastore, 1))
    (kk : ∀ (H1 : Heap) (locs1 : List Loc), wX g A s H1 locs1 (va_up μ a (some (.inl (gI g, n, .inl (upd f j x))))) → W p l e R s m args below meth c H1 locs1 cells slots Q (F0 m (pc + 1) ls rest)) : W p l e R s m args below meth c H locs cells slots Q (F0 m pc ls (.int x :: .int (nI j) :: .ref a :: rest)) := by
  have hin : vp_in (nI j) n := vp_in_nI hj hn
  refine W.iast hexec hb (hX.P _ _ he) ((hX.K.2 0 _ rfl).1 n (fun j => .int (f j))) (fun q => by cases q) (by show ¬ (nI j < 0 ∨ (arrV _ _ _).slots.size ≤ _); rw [arrV_size]; exact hin) rfl rfl hdg fun H1 e1 z oq => ?_
  refine kk H1 _ (hX.upd he z oq ?_)
  show H1[a]? = some (vp_cell _ _)
  rw [e1, vp_cell_i, vp_cell_i, arrV_store, nI_clamp (by omega)]
  congr 2
  funext q
  by_cases hq : q = j
  · subst hq; simp [updV, upd]
  · simp [updV, upd, hq]
theorem n_aast (hexec : p.tables.exec = Jvm.exec) (hb : c.code = cc) (hX : wX g A s H locs μ) {n j v ci : Nat} {r : vw_C} {vs : List Value} {f : Nat → Option Nat} (he : μ a = some (.inl (gO g, n, .inr (.inr (.inr (.inr f)))))) (hca : Cond.castable r.1 "java/lang/Object" ∈ GW) (hv : μ v = some (.inr (ci, vs))) (hc : vwCl[ci]? = some r) (hj : j < n) (hn : n < 2 ^ 31) (hdg : decode cc pc = .ok (.aastore, 1))
    (kk : ∀ (H1 : Heap) (locs1 : List Loc), wX g A s H1 locs1 (va_up μ a (some (.inl (gO g, n, .inr (.inr (.inr (.inr (va_up f j (some v)))))))))  → W p l e R s m args below meth c H1 locs1 cells slots Q (F0 m (pc + 1) ls rest)) : W p l e R s m args below meth c H locs cells slots Q (F0 m pc ls (.ref v :: .int (nI j) :: .ref a :: rest)) := by
  have hin : vp_in (nI j) n := vp_in_nI hj hn
  have hcl : (nI j).toNatClampNeg = j := nI_clamp (by omega)
  have h0 : ¬ nI j < 0 := fun q => hin (Or.inl q)
  obtain ⟨r', hr', cellV, g1, g2, g3, -⟩ := hX.P _ _ hv
  have hcls := (hX.K.1 ci r hc).2
  obtain ⟨kA, comp, k1, k2, k3, -⟩ := (hX.K.2 1 _ rfl).2
  obtain ⟨kE, hkE, -⟩ := Vm.findClass_spec k3
  obtain ⟨c0, t1, f1, f2, f3⟩ := Cond.castable_spec (hX.w hca (args := args))
  cases hcls.1.symm.trans f1
  cases k3.symm.trans f2
  obtain ⟨kC, hkC, -⟩ := hcls.2
  refine W.aast hexec hb (hX.P _ _ he) (fun q h => by cases h) (fun h => by cases h) k1 k2 rfl hkE ⟨h0, by show _ < (arrV _ _ _).slots.size; rw [arrV_size, hcl]; exact hj⟩ g1 (fun q h => by rw [g3] at h; cases h) (by rw [g2]; exact hkC) (by rw [g2]; exact f3) rfl rfl hdg fun H1 e1 z oq => ?_
  refine kk H1 _ (hX.upd he z oq ?_)
  show H1[a]? = some (vp_cell _ _)
  rw [e1, vp_cell_q, vp_cell_q, arrV_store, hcl]
  congr 2
  funext q
  by_cases hq : q = j
  · subst hq; simp [updV, va_up, va_rf]
  · simp [updV, va_up, hq]
theorem n_newI (hexec : p.tables.exec = Jvm.exec) (hb : c.code = cc) (hX : wX g A s H locs μ) (harr : Cond.arrayClass .int ∈ GW) {n : Nat} (hn : n ≤ 65536) (hcells : cells + 1 ≤ R.cells) (hslots : slots + n ≤ R.slots) (hdg : decode cc pc = .ok (.newarray .int, 2))
    (kk : ∀ (q : Nat) (H1 : Heap), μ q = none → wX g A s H1 locs (va_up μ q (some (.inl (gI g, n, .inl (fun _ => 0))))) → W p l e R s m args below meth c H1 locs (cells + 1) (slots + n) Q (F0 m (pc + 2) ls (.ref q :: rest))) : W p l e R s m args below meth c H locs cells slots Q (F0 m pc ls (.int (nI n) :: rest)) := by
  refine va_newaK (atype := .int) hexec hb (hX.w harr) rfl hdg rfl (nI_pos (by omega)) (nI_clamp (by omega)) (by show n * 4 ≤ _; omega) hcells hslots rfl fun H1 cA e1 z1 o1 hAr hNm => ?_
  have hcA : cA = gI g := Option.some.inj (hNm.symm.trans (hX.K.2 0 _ rfl).2)
  subst hcA
  refine kk H.size H1 hX.fresh (hX.push z1 o1 ?_)
  show H1[H.size]? = some (vp_cell _ _)
  rw [e1]; rfl
theorem n_newO (hexec : p.tables.exec = Jvm.exec) (hb : c.code = cc) {own : String} {index : Nat} (hX : wX g A s H locs μ) (hown : s.vm.findClass own = some m.cls) (hclink : Cond.classLink own index "java/lang/Object" ∈ GW) (hover : Cond.arrayOver (.object "java/lang/Object") ∈ GW) {n : Nat} (hn : n ≤ 65536) (hcells : cells + 1 ≤ R.cells) (hslots : slots + n ≤ R.slots) (hdg : decode cc pc = .ok (.anewarray index, 3))
    (kk : ∀ (q : Nat) (H1 : Heap), μ q = none → wX g A s H1 locs (va_up μ q (some (.inl (gO g, n, .inr (.inr (.inr (.inr (fun _ => none)))))))) → W p l e R s m args below meth c H1 locs (cells + 1) (slots + n) Q (F0 m (pc + 3) ls (.ref q :: rest))) : W p l e R s m args below meth c H locs cells slots Q (F0 m pc ls (.int (nI n) :: rest)) := by
  have hcl : (nI n).toNatClampNeg = n := nI_clamp (by omega)
  refine W.anew hexec hb hown (hX.w hclink) (hX.w hover) rfl hdg rfl (nI_pos (by omega)) (by rw [hcl]; omega) hcells (by rw [hcl]; exact hslots) fun cA kA comp f1 f2 f3 f4 => ?_
  rw [hcl]
  obtain ⟨-, -, -, -, -, k4⟩ := (hX.K.2 1 _ rfl).2
  have hcA : cA = gO g := Option.some.inj (f1.symm.trans k4)
  subst hcA
  generalize hH1 : H.push ({ cls := gO g, slots := Array.replicate n .null, vm := .none } : Cell) = H1
  have z1 : H1.size = H.size + 1 := by rw [← hH1, Array.size_push]
  have e1 : H1[H.size]? = some (arrV (gO g) n (fun _ => .null)) := by rw [← hH1, Array.getElem?_push_size, ← arrV_new]
  have o1 : ∀ q : Nat, q < H.size → H1[q]? = H[q]? := fun q hq => by rw [← hH1, Array.getElem?_push, if_neg (Nat.ne_of_lt hq)]
  refine kk H.size H1 hX.fresh (hX.push z1 o1 ?_)
  show H1[H.size]? = some (vp_cell _ _)
  rw [e1]; rfl
/-! the script -/
theorem n_sld (hexec : p.tables.exec = Jvm.exec) (hb : c.code = cc) (hX : wX g A s H locs μ) {i : Int32} (hin : vp_in i (gT g).2.1) (hdg : decode cc pc = .ok (.iaload, 1))
    (kk : W p l e R s m args below meth c H locs cells slots Q (F0 m (pc + 1) ls (.int ((gT g).2.2 i.toNatClampNeg) :: rest))) : W p l e R s m args below meth c H locs cells slots Q (F0 m pc ls (.int i :: .ref (gT g).1 :: rest)) := by
  obtain ⟨h1, h2, h3, h4, h5, h6⟩ := id hX
  obtain ⟨-, -, -, -, -, -, -, -, h10, x1, x6, x7⟩ := h1
  exact va_sld hexec hb x1 (by omega) (fun z => absurd (h2 _ z) (by omega)) h4 hin hdg kk
theorem n_slen (hexec : p.tables.exec = Jvm.exec) (hb : c.code = cc) (hX : wX g A s H locs μ) (hdg : decode cc pc = .ok (.arraylength, 1))
    (kk : W p l e R s m args below meth c H locs cells slots Q (F0 m (pc + 1) ls (.int (nI (gT g).2.1) :: rest))) : W p l e R s m args below meth c H locs cells slots Q (F0 m pc ls (.ref (gT g).1 :: rest)) := by
  obtain ⟨h1, h2, h3, h4, h5, h6⟩ := id hX
  obtain ⟨-, -, -, -, -, -, -, -, h10, x1, x6, x7⟩ := h1
  exact va_slen hexec hb x1 (by omega) (fun z => absurd (h2 _ z) (by omega)) h4 hdg kk
theorem wX.scr (hX : wX g A s H locs μ) : (gT g).2.1 ≤ 260 := by
  obtain ⟨-, -, -, -, -, -, -, -, -, -, -, x7⟩ := hX.1
  exact x7
/-! arrays of arrays -/
theorem asg_self (vm : Vm) (k : ClassId) : vm.assignable k k = true := by
  show vm.assignableAux (255 + 1) k k = true
  rw [Vm.assignableAux]
  simp only [beq_self_eq_true, Bool.true_or]
theorem n_alenR (hexec : p.tables.exec = Jvm.exec) (hb : c.code = cc) (hX : wX g A s H locs μ) {n : Nat} {f : Nat → Option Nat} (he : μ a = some (.inl (gJ g, n, .inr (.inr (.inr (.inr f)))))) (hdg : decode cc pc = .ok (.arraylength, 1))
    (kk : W p l e R s m args below meth c H locs cells slots Q (F0 m (pc + 1) ls (.int (nI n) :: rest))) : W p l e R s m args below meth c H locs cells slots Q (F0 m pc ls (.ref a :: rest)) :=
  va_alen hexec hb hX.K (hX.one he) 0 2 rfl (ty := .array .int) rfl rfl hdg kk
theorem n_aaldR (hexec : p.tables.exec = Jvm.exec) (hb : c.code = cc) (hX : wX g A s H locs μ) {n j : Nat} {f : Nat → Option Nat} (he : μ a = some (.inl (gJ g, n, .inr (.inr (.inr (.inr f)))))) (hj : j < n) (hn : n < 2 ^ 31) (hdg : decode cc pc = .ok (.aaload, 1))
    (kk : W p l e R s m args below meth c H locs cells slots Q (F0 m (pc + 1) ls (va_rf (f j) :: rest))) : W p l e R s m args below meth c H locs cells slots Q (F0 m pc ls (.int (nI j) :: .ref a :: rest)) := by
  have hin : vp_in (nI j) n := vp_in_nI hj hn
  have hcl : (nI j).toNatClampNeg = j := nI_clamp (by omega)
  refine W.aald (v := va_rf (f j)) (ty := .array .int) hexec hb (hX.P _ _ he) ((hX.K.2 2 _ rfl).1 n (fun j => va_rf (f j))) rfl (fun q => by cases q) (by show ¬ (nI j < 0 ∨ (arrV _ _ _).slots.size ≤ _); rw [arrV_size]; exact hin) ?_ rfl rfl hdg kk
  show (arrV _ _ _).slots[_]? = _
  rw [hcl, arrV_read _ _ hj]
theorem n_aastR (hexec : p.tables.exec = Jvm.exec) (hb : c.code = cc) (hX : wX g A s H locs μ) {n j v k : Nat} {f : Nat → Option Nat} {h : Nat → Int32} (he : μ a = some (.inl (gJ g, n, .inr (.inr (.inr (.inr f)))))) (hov : Cond.arrayOver (.array .int) ∈ GW) (hv : μ v = some (.inl (gI g, k, .inl h))) (hj : j < n) (hn : n < 2 ^ 31) (hdg : decode cc pc = .ok (.aastore, 1))
    (kk : ∀ (H1 : Heap) (locs1 : List Loc), wX g A s H1 locs1 (va_up μ a (some (.inl (gJ g, n, .inr (.inr (.inr (.inr (va_up f j (some v)))))))))  → W p l e R s m args below meth c H1 locs1 cells slots Q (F0 m (pc + 1) ls rest)) : W p l e R s m args below meth c H locs cells slots Q (F0 m pc ls (.ref v :: .int (nI j) :: .ref a :: rest)) := by
  have hin : vp_in (nI j) n := vp_in_nI hj hn
  have hcl : (nI j).toNatClampNeg = j := nI_clamp (by omega)
  have h0 : ¬ nI j < 0 := fun q => hin (Or.inl q)
  obtain ⟨comp, c0, kA, f1, f2, f3, f4, f5⟩ := arrayOverA_spec (hX.w hov (args := args))
  have e1 : comp = gI g := Option.some.inj (f1.symm.trans (hX.K.2 0 _ rfl).2)
  have e2 : c0 = gJ g := Option.some.inj (f5.symm.trans (hX.K.2 2 _ rfl).2)
  subst e1
  subst e2
  obtain ⟨kE, hkE, -⟩ := Vm.findClass_spec f1
  refine W.aast hexec hb (hX.P _ _ he) (fun q h => by cases h) (fun h => by cases h) f3 f4 rfl hkE ⟨h0, by show _ < (arrV _ _ _).slots.size; rw [arrV_size, hcl]; exact hj⟩ (hX.P _ _ hv) (fun q h => by cases h) hkE (asg_self _ _) rfl rfl hdg fun H1 e1 z oq => ?_
  refine kk H1 _ (hX.upd he z oq ?_)
  show H1[a]? = some (vp_cell _ _)
  rw [e1, vp_cell_q, vp_cell_q, arrV_store, hcl]
  congr 2
  funext q
  by_cases hq : q = j
  · subst hq; simp [updV, va_up, va_rf]
  · simp [updV, va_up, hq]
theorem n_newR (hexec : p.tables.exec = Jvm.exec) (hb : c.code = cc) {own : String} {index : Nat} (hX : wX g A s H locs μ) (hown : s.vm.findClass own = some m.cls) (hclink : Cond.classLink own index "[I" ∈ GW) (hover : Cond.arrayOver (.array .int) ∈ GW) {n : Nat} (hn : n ≤ 65536) (hcells : cells + 1 ≤ R.cells) (hslots : slots + n ≤ R.slots) (hdg : decode cc pc = .ok (.anewarray index, 3))
    (kk : ∀ (q : Nat) (H1 : Heap), μ q = none → wX g A s H1 locs (va_up μ q (some (.inl (gJ g, n, .inr (.inr (.inr (.inr (fun _ => none)))))))) → W p l e R s m args below meth c H1 locs (cells + 1) (slots + n) Q (F0 m (pc + 3) ls (.ref q :: rest))) : W p l e R s m args below meth c H locs cells slots Q (F0 m pc ls (.int (nI n) :: rest)) := by
  have hcl : (nI n).toNatClampNeg = n := nI_clamp (by omega)
  refine W.anewA (t := .int) hexec hb hown (hX.w hclink) (hX.w hover) rfl hdg rfl (nI_pos (by omega)) (by rw [hcl]; omega) hcells (by rw [hcl]; exact hslots) fun cA kA comp f1 f2 f3 f4 => ?_
  rw [hcl]
  have hcA : cA = gJ g := Option.some.inj (f1.symm.trans (hX.K.2 2 _ rfl).2)
  subst hcA
  generalize hH1 : H.push ({ cls := gJ g, slots := Array.replicate n .null, vm := .none } : Cell) = H1
  have z1 : H1.size = H.size + 1 := by rw [← hH1, Array.size_push]
  have e1 : H1[H.size]? = some (arrV (gJ g) n (fun _ => .null)) := by rw [← hH1, Array.getElem?_push_size, ← arrV_new]
  have o1 : ∀ q : Nat, q < H.size → H1[q]? = H[q]? := fun q hq => by rw [← hH1, Array.getElem?_push, if_neg (Nat.ne_of_lt hq)]
  refine kk H.size H1 hX.fresh (hX.push z1 o1 ?_)
  show H1[H.size]? = some (vp_cell _ _)
  rw [e1]; rfl
theorem w_new (hexec : p.tables.exec = Jvm.exec) (hb : c.code = cc) {own C : String} {T : u_T} {N ci index : Nat} (hin : ∀ w ∈ u_ws C T N, w ∈ GW) (ty : Nat → FieldType) (hty : ∀ k, k < N → parseFieldDescriptor (T k).2.2.1 = some (ty k)) (hc : vwCl[ci]? = some (C, T, N)) (hX : wX g A s H locs μ) (hown : s.vm.findClass own = some m.cls) (hcl : Cond.classLink own index C ∈ GW) (hinst : Cond.instantiable C N ∈ GW) (hini : Cond.initialized C ∈ GW) {fs : List Value} (hfs : ∀ j, j < N → defaultValue (ty j) = vp_V fs j) (hcells : cells + 1 ≤ R.cells) (hslots : slots + N ≤ R.slots) (hdg : decode cc pc = .ok (.new index, 3))
    (kk : ∀ (q : Nat) (H1 : Heap), μ q = none → wX g A s H1 locs (va_up μ q (some (.inr (ci, fs)))) → W p l e R s m args below meth c H1 locs (cells + 1) (slots + N) Q (F0 m (pc + 3) ls (.ref q :: rest))) : W p l e R s m args below meth c H locs cells slots Q (F0 m pc ls rest) := by
  have hKn := hX.K.1 ci _ hc
  refine W.newcK hexec hb hown (hX.w hcl) (hX.w hinst) (hX.w hini) rfl hdg hcells hslots hKn.2.1 rfl fun H1 kC hkC e1 z1 o1 => ?_
  exact kk H.size H1 hX.fresh (hX.push z1 o1 ⟨_, hc, (u_born ty (hX.ws args) hin hKn hkC e1 hty).to hfs⟩)
theorem w_cast (hexec : p.tables.exec = Jvm.exec) (hb : c.code = cc) {own nm : String} {index ci : Nat} {T : u_T} {N : Nat} {fs : List Value} (hX : wX g A s H locs μ) (hown : s.vm.findClass own = some m.cls) (hlink : Cond.classLink own index nm ∈ GW) (he : μ a = some (.inr (ci, fs))) (hc : vwCl[ci]? = some (nm, T, N)) (hdg : decode cc pc = .ok (.checkcast index, 3))
    (k : W p l e R s m args below meth c H locs cells slots Q (F0 m (pc + 3) ls (.ref a :: rest))) : W p l e R s m args below meth c H locs cells slots Q (F0 m pc ls (.ref a :: rest)) :=
  va_castS hexec hb hown (hX.w hlink) (hX.K.1 ci _ hc).2 (hX.recv he hc) hdg k
theorem w_getsE (hexec : p.tables.exec = Jvm.exec) (hb : c.code = cc) {own : String} {index : Nat} (hX : wX g A s H locs μ) (hown : s.vm.findClass own = some m.cls) (hlink : Cond.fieldLink own index "java/util/ArrayList" "DEFAULTCAPACITY_EMPTY_ELEMENTDATA" "[Ljava/lang/Object;" ∈ GW) (hdg : decode cc pc = .ok (.getstatic index, 3))
    (kk : W p l e R s m args below meth c H locs cells slots Q (F0 m (pc + 3) ls (.ref (gE g) :: rest))) : W p l e R s m args below meth c H locs cells slots Q (F0 m pc ls rest) := by
  obtain ⟨h1, h2, h3, h4, h5, h6⟩ := id hX
  obtain ⟨-, -, -, -, -, hZ, -⟩ := h1
  exact va_gets hexec hb (hZ.narrow h2) h4 hown (hX.w hlink) (fun _ h => h) hdg kk
theorem n_mmax (hexec : p.tables.exec = Jvm.exec) (hb : c.code = cc) (hml : c.maxLocals = ls.size) {own : String} {index : Nat} (hX : wX g A s H locs μ) (hown : s.vm.findClass own = some m.cls) (hlink : Cond.methodLink own index Lib.Math.max.name ∈ GW) (hstat : Cond.static Lib.Math.max.name ∈ GW) (hini : Cond.initialized "java/lang/Math" ∈ GW) (hcode : Cond.code Lib.Math.max.name Lib.Math.max.code 2 (some .int) ∈ GW) (hR : 1 ≤ R.frames ∧ (rest.map fun v => v.category).sum + 13 ≤ R.locals) (hC : cells ≤ R.cells ∧ slots ≤ R.slots) {x y v : Int32} (hdg : decode cc pc = .ok (.invokestatic index, 3)) (hv : (if x < y then y else x) = v)
    (kk : W p l e R s m args below meth c H locs cells slots Q (F0 m (pc + 3) ls (.int v :: rest))) : W p l e R s m args below meth c H locs cells slots Q (F0 m pc ls (.int y :: .int x :: rest)) := by
  subst hv
  exact va_mmax hexec hb hml hown (hX.w hlink) (hX.w hstat) (hX.w hini) (hX.w hcode) hR.1 hR.2 hC.1 hC.2 hdg kk
theorem n_mmin (hexec : p.tables.exec = Jvm.exec) (hb : c.code = cc) (hml : c.maxLocals = ls.size) {own : String} {index : Nat} (hX : wX g A s H locs μ) (hown : s.vm.findClass own = some m.cls) (hlink : Cond.methodLink own index Lib.Math.min.name ∈ GW) (hstat : Cond.static Lib.Math.min.name ∈ GW) (hini : Cond.initialized "java/lang/Math" ∈ GW) (hcode : Cond.code Lib.Math.min.name Lib.Math.min.code 2 (some .int) ∈ GW) (hR : 1 ≤ R.frames ∧ (rest.map fun v => v.category).sum + 13 ≤ R.locals) (hC : cells ≤ R.cells ∧ slots ≤ R.slots) {x y v : Int32} (hdg : decode cc pc = .ok (.invokestatic index, 3)) (hv : (if y < x then y else x) = v)
    (kk : W p l e R s m args below meth c H locs cells slots Q (F0 m (pc + 3) ls (.int v :: rest))) : W p l e R s m args below meth c H locs cells slots Q (F0 m pc ls (.int y :: .int x :: rest)) := by
  subst hv
  exact va_mmin hexec hb hml hown (hX.w hlink) (hX.w hstat) (hX.w hini) (hX.w hcode) hR.1 hR.2 hC.1 hC.2 hdg kk
end WR
/-! numbers -/
theorem nI_inc (i : Nat) : nI i + Int32.ofInt 1 = nI (i + 1) := nI_1 i
theorem nI_inc4 (i : Nat) : nI i + Int32.ofInt 4 = nI (i + 4) := nI_add i 4
theorem nI_max0 {a b : Nat} (ha : a < 2 ^ 30) (hb : b < 2 ^ 30) : (if nI 0 < nI a - nI b then nI a - nI b else nI 0) = nI (a - b) := by
  by_cases h : b ≤ a
  · rw [pk_sub h]
    by_cases h2 : a - b = 0
    · rw [h2, if_neg (nI_nlt (Nat.le_refl 0) (by decide))]
    · rw [if_pos (nI_lt (by omega) (by omega))]
  · have h1 := pk_sneg hb (show a < b by omega)
    rw [if_neg (fun z => by rw [nI_0] at z; exact Int32.lt_irrefl (Int32.lt_trans z h1)), show a - b = 0 by omega]
theorem nI_min {a b : Nat} (ha : a < 2 ^ 31) (hb : b < 2 ^ 31) : (if nI b < nI a then nI b else nI a) = nI (min a b) := by
  by_cases h : b < a
  · rw [if_pos (nI_lt h ha), Nat.min_eq_right (by omega)]
  · rw [if_neg (nI_nlt (by omega) hb), Nat.min_eq_left (by omega)]
theorem nI_max {a b : Nat} (ha : a < 2 ^ 31) (hb : b < 2 ^ 31) : (if nI a < nI b then nI b else nI a) = nI (max a b) := by
  by_cases h : a < b
  · rw [if_pos (nI_lt h hb), Nat.max_eq_right (by omega)]
  · rw [if_neg (nI_nlt (by omega) ha), Nat.max_eq_left (by omega)]
section NR
variable {p : Program} {l : Launch} {e : Env} {R : Room} {s : State} {m : MethodId} {args : Array Value} {below : List Frame} {meth : Method} {c : Code} {H : Heap} {locs : List Loc} {cells slots : Nat} {Q : State → Prop}
variable {cc : ByteArray} {pc : Nat} {ls : Array Slot} {rest : List Value}
theorem n_iadd (hexec : p.tables.exec = Jvm.exec) (hb : c.code = cc) {x y v : Int32} (hdg : decode cc pc = .ok (.iadd, 1)) (hv : x + y = v) (k : W p l e R s m args below meth c H locs cells slots Q (F0 m (pc + 1) ls (.int v :: rest))) : W p l e R s m args below meth c H locs cells slots Q (F0 m pc ls (.int y :: .int x :: rest)) := by subst hv; exact lv_iadd hexec hb hdg k
theorem n_isub (hexec : p.tables.exec = Jvm.exec) (hb : c.code = cc) {x y v : Int32} (hdg : decode cc pc = .ok (.isub, 1)) (hv : x - y = v) (k : W p l e R s m args below meth c H locs cells slots Q (F0 m (pc + 1) ls (.int v :: rest))) : W p l e R s m args below meth c H locs cells slots Q (F0 m pc ls (.int y :: .int x :: rest)) := by subst hv; exact lv_isub hexec hb hdg k
theorem n_imul (hexec : p.tables.exec = Jvm.exec) (hb : c.code = cc) {x y v : Int32} (hdg : decode cc pc = .ok (.imul, 1)) (hv : x * y = v) (k : W p l e R s m args below meth c H locs cells slots Q (F0 m (pc + 1) ls (.int v :: rest))) : W p l e R s m args below meth c H locs cells slots Q (F0 m pc ls (.int y :: .int x :: rest)) := by subst hv; exact lv_imul hexec hb hdg k
theorem n_idiv (hexec : p.tables.exec = Jvm.exec) (hb : c.code = cc) {x y v : Int32} (hdg : decode cc pc = .ok (.idiv, 1)) (hne : ¬ y = 0) (hv : x / y = v) (k : W p l e R s m args below meth c H locs cells slots Q (F0 m (pc + 1) ls (.int v :: rest))) : W p l e R s m args below meth c H locs cells slots Q (F0 m pc ls (.int y :: .int x :: rest)) := by subst hv; exact lv_idiv hexec hb hdg hne k
theorem n_irem (hexec : p.tables.exec = Jvm.exec) (hb : c.code = cc) {x y v : Int32} (hdg : decode cc pc = .ok (.irem, 1)) (hne : ¬ y = 0) (hv : x - x / y * y = v) (k : W p l e R s m args below meth c H locs cells slots Q (F0 m (pc + 1) ls (.int v :: rest))) : W p l e R s m args below meth c H locs cells slots Q (F0 m pc ls (.int y :: .int x :: rest)) := by subst hv; exact lv_irem hexec hb hdg hne k
theorem n_lt (hexec : p.tables.exec = Jvm.exec) (hb : c.code = cc) {x y : Nat} {off : Int} {tgt : Nat} (hx : x < 2 ^ 31) (hy : y < 2 ^ 31) (hdg : decode cc pc = .ok (.if_icmp .lt off, 3)) (ht : (pc : Int) + off = (tgt : Int)) (kt : x < y → W p l e R s m args below meth c H locs cells slots Q (F0 m tgt ls rest)) (kf : y ≤ x → W p l e R s m args below meth c H locs cells slots Q (F0 m (pc + 3) ls rest)) : W p l e R s m args below meth c H locs cells slots Q (F0 m pc ls (.int (nI y) :: .int (nI x) :: rest)) :=
  lv_icmp_lt hexec hb hdg ht (fun h => kt ((nI_ltI hx hy).mp h)) (fun h => kf (Nat.le_of_not_lt fun z => h ((nI_ltI hx hy).mpr z)))
theorem n_ge (hexec : p.tables.exec = Jvm.exec) (hb : c.code = cc) {x y : Nat} {off : Int} {tgt : Nat} (hx : x < 2 ^ 31) (hy : y < 2 ^ 31) (hdg : decode cc pc = .ok (.if_icmp .ge off, 3)) (ht : (pc : Int) + off = (tgt : Int)) (kt : y ≤ x → W p l e R s m args below meth c H locs cells slots Q (F0 m tgt ls rest)) (kf : x < y → W p l e R s m args below meth c H locs cells slots Q (F0 m (pc + 3) ls rest)) : W p l e R s m args below meth c H locs cells slots Q (F0 m pc ls (.int (nI y) :: .int (nI x) :: rest)) :=
  lv_icmp_ge hexec hb hdg ht (fun h => kt ((nI_leI hy hx).mp h)) (fun h => kf (Nat.lt_of_not_le fun z => h ((nI_leI hy hx).mpr z)))
theorem n_gt (hexec : p.tables.exec = Jvm.exec) (hb : c.code = cc) {x y : Nat} {off : Int} {tgt : Nat} (hx : x < 2 ^ 31) (hy : y < 2 ^ 31) (hdg : decode cc pc = .ok (.if_icmp .gt off, 3)) (ht : (pc : Int) + off = (tgt : Int)) (kt : y < x → W p l e R s m args below meth c H locs cells slots Q (F0 m tgt ls rest)) (kf : x ≤ y → W p l e R s m args below meth c H locs cells slots Q (F0 m (pc + 3) ls rest)) : W p l e R s m args below meth c H locs cells slots Q (F0 m pc ls (.int (nI y) :: .int (nI x) :: rest)) :=
  lv_icmp_gt hexec hb hdg ht (fun h => kt ((nI_ltI hy hx).mp h)) (fun h => kf (Nat.le_of_not_lt fun z => h ((nI_ltI hy hx).mpr z)))
theorem n_le (hexec : p.tables.exec = Jvm.exec) (hb : c.code = cc) {x y : Nat} {off : Int} {tgt : Nat} (hx : x < 2 ^ 31) (hy : y < 2 ^ 31) (hdg : decode cc pc = .ok (.if_icmp .le off, 3)) (ht : (pc : Int) + off = (tgt : Int)) (kt : x ≤ y → W p l e R s m args below meth c H locs cells slots Q (F0 m tgt ls rest)) (kf : y < x → W p l e R s m args below meth c H locs cells slots Q (F0 m (pc + 3) ls rest)) : W p l e R s m args below meth c H locs cells slots Q (F0 m pc ls (.int (nI y) :: .int (nI x) :: rest)) :=
  lv_icmp_le hexec hb hdg ht (fun h => kt ((nI_leI hx hy).mp h)) (fun h => kf (Nat.lt_of_not_le fun z => h ((nI_leI hx hy).mpr z)))
theorem n_eq (hexec : p.tables.exec = Jvm.exec) (hb : c.code = cc) {x y : Nat} {off : Int} {tgt : Nat} (hx : x < 2 ^ 31) (hy : y < 2 ^ 31) (hdg : decode cc pc = .ok (.if_icmp .eq off, 3)) (ht : (pc : Int) + off = (tgt : Int)) (kt : x = y → W p l e R s m args below meth c H locs cells slots Q (F0 m tgt ls rest)) (kf : x ≠ y → W p l e R s m args below meth c H locs cells slots Q (F0 m (pc + 3) ls rest)) : W p l e R s m args below meth c H locs cells slots Q (F0 m pc ls (.int (nI y) :: .int (nI x) :: rest)) :=
  lv_icmp_eq hexec hb hdg ht (fun h => kt ((nI_eq hx hy).mp h)) (fun h => kf (fun z => h ((nI_eq hx hy).mpr z)))
theorem n_ne (hexec : p.tables.exec = Jvm.exec) (hb : c.code = cc) {x y : Nat} {off : Int} {tgt : Nat} (hx : x < 2 ^ 31) (hy : y < 2 ^ 31) (hdg : decode cc pc = .ok (.if_icmp .ne off, 3)) (ht : (pc : Int) + off = (tgt : Int)) (kt : x ≠ y → W p l e R s m args below meth c H locs cells slots Q (F0 m tgt ls rest)) (kf : x = y → W p l e R s m args below meth c H locs cells slots Q (F0 m (pc + 3) ls rest)) : W p l e R s m args below meth c H locs cells slots Q (F0 m pc ls (.int (nI y) :: .int (nI x) :: rest)) :=
  lv_icmp_ne hexec hb hdg ht (fun h => kt (fun z => h ((nI_eq hx hy).mpr z))) (fun h => kf ((nI_eq hx hy).mp h))
theorem n_if_eq (hexec : p.tables.exec = Jvm.exec) (hb : c.code = cc) {x : Nat} {off : Int} {tgt : Nat} (hx : x < 2 ^ 31) (hdg : decode cc pc = .ok (.ifCond .eq off, 3)) (ht : (pc : Int) + off = (tgt : Int)) (kt : x = 0 → W p l e R s m args below meth c H locs cells slots Q (F0 m tgt ls rest)) (kf : 0 < x → W p l e R s m args below meth c H locs cells slots Q (F0 m (pc + 3) ls rest)) : W p l e R s m args below meth c H locs cells slots Q (F0 m pc ls (.int (nI x) :: rest)) :=
  lv_if_eq hexec hb hdg ht (fun h => kt ((nI_eq hx (by decide)).mp (h.trans nI_0.symm))) (fun h => kf (Nat.pos_of_ne_zero fun z => h (by rw [z]; exact nI_0)))
theorem n_if_ne (hexec : p.tables.exec = Jvm.exec) (hb : c.code = cc) {x : Nat} {off : Int} {tgt : Nat} (hx : x < 2 ^ 31) (hdg : decode cc pc = .ok (.ifCond .ne off, 3)) (ht : (pc : Int) + off = (tgt : Int)) (kt : 0 < x → W p l e R s m args below meth c H locs cells slots Q (F0 m tgt ls rest)) (kf : x = 0 → W p l e R s m args below meth c H locs cells slots Q (F0 m (pc + 3) ls rest)) : W p l e R s m args below meth c H locs cells slots Q (F0 m pc ls (.int (nI x) :: rest)) :=
  lv_if_ne hexec hb hdg ht (fun h => kt (Nat.pos_of_ne_zero fun z => h (by rw [z]; exact nI_0))) (fun h => kf ((nI_eq hx (by decide)).mp (h.trans nI_0.symm)))
theorem n_if_le (hexec : p.tables.exec = Jvm.exec) (hb : c.code = cc) {x : Nat} {off : Int} {tgt : Nat} (hx : x < 2 ^ 31) (hdg : decode cc pc = .ok (.ifCond .le off, 3)) (ht : (pc : Int) + off = (tgt : Int)) (kt : x = 0 → W p l e R s m args below meth c H locs cells slots Q (F0 m tgt ls rest)) (kf : 0 < x → W p l e R s m args below meth c H locs cells slots Q (F0 m (pc + 3) ls rest)) : W p l e R s m args below meth c H locs cells slots Q (F0 m pc ls (.int (nI x) :: rest)) :=
  lv_if_le hexec hb hdg ht (fun h => kt (Nat.le_zero.mp ((nI_leI hx (by decide)).mp (by rw [nI_0]; exact h)))) (fun h => kf (Nat.pos_of_ne_zero fun z => h (by rw [z, nI_0]; decide)))
theorem n_if_gt (hexec : p.tables.exec = Jvm.exec) (hb : c.code = cc) {x : Nat} {off : Int} {tgt : Nat} (hx : x < 2 ^ 31) (hdg : decode cc pc = .ok (.ifCond .gt off, 3)) (ht : (pc : Int) + off = (tgt : Int)) (kt : 0 < x → W p l e R s m args below meth c H locs cells slots Q (F0 m tgt ls rest)) (kf : x = 0 → W p l e R s m args below meth c H locs cells slots Q (F0 m (pc + 3) ls rest)) : W p l e R s m args below meth c H locs cells slots Q (F0 m pc ls (.int (nI x) :: rest)) :=
  lv_if_gt hexec hb hdg ht (fun h => kt ((nI_ltI (by decide) hx).mp (by rw [nI_0]; exact h))) (fun h => kf (Decidable.byContradiction fun z => h (by rw [← nI_0]; exact nI_lt (Nat.pos_of_ne_zero z) hx)))
end NR
