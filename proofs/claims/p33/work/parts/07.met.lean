/-! CONTRACTS over the map: the whole map ahead, the whole map behind -/
def wPc (g : wG) (av : List Value) (μ : wMu) (sz : Nat) : Array Value → State → Prop := fun a U => a = av.toArray ∧ U.heap.size = sz ∧ wE g U ∧ wP g μ U.heap ∧ ∀ q, μ q ≠ none → gB g ≤ q
def wQc (g : wG) (μ : wMu) (sz : Nat) (post : Option Value → wMu → Prop) : Array Value → State → Outcome → State → Prop := fun _ st o t => ∃ (r : Option Value) (μ' : wMu), o = .returned r ∧ post r μ' ∧ wP g μ' t.heap ∧ (∀ q, μ' q ≠ none → wA μ sz q) ∧ va_F (wA μ sz) st t
def wXc (g : wG) (μ : wMu) (sz : Nat) (xp : String → Prop) : String → State → State → Prop := fun E st t => xp E ∧ wP g μ t.heap ∧ va_F (wA μ sz) st t
def wMet (l : Launch) (y : MethodName) (bytes : ByteArray) (maxL : Nat) (ret : Option FieldType) (fr mc ms lo : Nat) (g : wG) (av : List Value) (μ : wMu) (sz : Nat) (post : Option Value → wMu → Prop) : Prop :=
  Met l y [.code y bytes maxL ret] ({ frames := fr, cells := mc, slots := ms, locals := lo } : Room) (wPc g av μ sz) (wQc g μ sz post) mc ms (wA μ sz)
def wMetX (l : Launch) (y : MethodName) (bytes : ByteArray) (maxL : Nat) (ret : Option FieldType) (fr mc ms lo : Nat) (g : wG) (av : List Value) (μ : wMu) (sz : Nat) (post : Option Value → wMu → Prop) (xp : String → Prop) : Prop :=
  vx_Met l y [.code y bytes maxL ret] ({ frames := fr, cells := mc, slots := ms, locals := lo } : Room) (wPc g av μ sz) (wQc g μ sz post) (wXc g μ sz xp) mc ms (wA μ sz)
theorem wPc.blind (g : wG) (av : List Value) (μ : wMu) (sz : Nat) : FrameBlind (wPc g av μ sz) := fun _ U _ _ q =>
  ⟨q.1, q.2.1, q.2.2.1.next (A := fun q => gB g ≤ q) (fun _ h => h) va_S.rf rfl (State.WarmedH.refl U), q.2.2.2⟩
theorem wPc.of {g : wG} {av : List Value} {μ : wMu} {A : Nat → Prop} {s : State} {H : Heap} {locs : List Loc} (hX : wX g A s H locs μ) {a : Array Value} (ha : a = av.toArray) {U : State} (hU : U.heap = H) (hW : s.WarmedH U.vm) : wPc g av μ H.size a U :=
  ⟨ha, by rw [hU], hX.1.next hX.2.1 hX.S hU hW, by rw [hU]; exact hX.P, fun q h => hX.2.1 q (hX.dom q h)⟩
theorem wX.start {g : wG} {av : List Value} {μ : wMu} {sz : Nat} {a : Array Value} {s : State} (h : wPc g av μ sz a s) : wX g (wA μ sz) s s.heap [] μ := by
  obtain ⟨-, h1, h2, h3, h4⟩ := h
  refine ⟨h2, fun q hq => hq.elim (h4 q) (fun z => ?_), fun q hq => Or.inr (by omega), va_S.rf, h3, fun q hq => Or.inl hq⟩
  have := h2.2.2.2.2.2.2.2.2.1
  omega
section WM
variable {l : Launch} {y : MethodName} {bytes : ByteArray} {maxL : Nat} {ret : Option FieldType} {fr mc ms lo : Nat} {g : wG} {av : List Value} {μ : wMu} {sz : Nat} {post : Option Value → wMu → Prop} {xp : String → Prop}
theorem wMet.of (hy : plainName y.cls = true) (hsl : (lg_sl av).length ≤ maxL)
    (body : ∀ (p : Program) (e : Env) (s : State) (m : MethodId) (below : List Frame) (meth : Method) (c : Code) (ls : Array Slot), p.tables.exec = Jvm.exec → c.code = bytes → meth.sig.returnType = ret → c.maxLocals = maxL → s.vm.findClass y.cls = some m.cls → meth.locks = false → meth.name = y.name → lv_has ls maxL (lv_args 0 av) → s.heap.size = sz → wX g (wA μ sz) s s.heap [] μ →
      W p l e ({ frames := fr, cells := mc, slots := ms, locals := lo } : Room) s m av.toArray below meth c s.heap [] 0 0 (MQ below (wQc g μ sz post) av.toArray s mc ms (wA μ sz)) (F0 m 0 ls [])) : wMet l y bytes maxL ret fr mc ms lo g av μ sz post := by
  refine Met.ofW (cc := bytes) (maxL := maxL) (ret := ret) (ws' := []) hy rfl ?_
  intro p e s m args below meth c s₁ B hml hv
  have hX := wX.start hv
  obtain ⟨rfl, hsz, -⟩ := hv
  have hl := lv_entry av (n := maxL) hsl
  rw [lg_entry_eq]
  exact body p e s m below meth c _ B.exec B.bytes B.returns hml (findClass_of_methodNamed B.named) B.notSynchronized (name_of_methodNamed B.named B.method).1 hl hsz hX
theorem wMetX.of (hy : plainName y.cls = true) (hsl : (lg_sl av).length ≤ maxL)
    (body : ∀ (p : Program) (e : Env) (s : State) (m : MethodId) (below : List Frame) (meth : Method) (c : Code) (ls : Array Slot), p.tables.exec = Jvm.exec → c.code = bytes → meth.sig.returnType = ret → c.maxLocals = maxL → s.vm.findClass y.cls = some m.cls → meth.locks = false → meth.name = y.name → lv_has ls maxL (lv_args 0 av) → s.heap.size = sz → wX g (wA μ sz) s s.heap [] μ → (∀ x ∈ c.exceptionTable.toList, False) →
      W p l e ({ frames := fr, cells := mc, slots := ms, locals := lo } : Room) s m av.toArray below meth c s.heap [] 0 0 (vx_MQ below (wQc g μ sz post) (wXc g μ sz xp) av.toArray s mc ms (wA μ sz)) (F0 m 0 ls [])) : wMetX l y bytes maxL ret fr mc ms lo g av μ sz post xp := by
  refine vx_ofW (cc := bytes) (maxL := maxL) (ret := ret) (ws' := []) hy rfl ?_
  intro p e s m args below meth c s₁ B hml hxt hv
  have hX := wX.start hv
  obtain ⟨rfl, hsz, -⟩ := hv
  have hl := lv_entry av (n := maxL) hsl
  rw [lg_entry_eq]
  exact body p e s m below meth c _ B.exec B.bytes B.returns hml (findClass_of_methodNamed B.named) B.notSynchronized (name_of_methodNamed B.named B.method).1 hl hsz hX hxt
/-- a contract may say less -/
theorem wMet.mono {post2 : Option Value → wMu → Prop} (h : wMet l y bytes maxL ret fr mc ms lo g av μ sz post) (hp : ∀ r μ', post r μ' → post2 r μ') : wMet l y bytes maxL ret fr mc ms lo g av μ sz post2 := by
  intro p e ha hc hk s m args below hf h1 h2 h3
  obtain ⟨k, o, a1, a2, a3, ⟨r, μ', e1, e2, e3⟩, a5⟩ := h p e ha hc hk s m args below hf h1 h2 h3
  exact ⟨k, o, a1, a2, a3, ⟨r, μ', e1, hp r μ' e2, e3⟩, a5⟩
end WM
section WC
variable {p : Program} {l : Launch} {e : Env} {R : Room} {s : State} {m : MethodId} {args : Array Value} {below : List Frame} {meth : Method} {c : Code} {H : Heap} {locs : List Loc} {cells slots : Nat} {Q : State → Prop}
variable {cc : ByteArray} {pc : Nat} {ls : Array Slot} {st0 rest : List Value} {A : Nat → Prop} {g : wG} {μ : wMu} {post : Option Value → wMu → Prop} {xp : String → Prop} {a : Array Value} {mc ms : Nat}
theorem wA.into (hX : wX g A s H locs μ) : ∀ q, wA μ H.size q → A q := fun q h => h.elim (hX.dom q) (fun z => hX.2.2.1 q (Nat.le_trans hX.S.1 z))
theorem wX.behind {T' t st₀ : State} {L : List Loc} {μ' : wMu} (hX : wX g A s H locs μ) (h0 : st₀.heap = H) (e1 : T'.heap = t.heap) (hL : ∀ q ∈ L, wA μ H.size q.base) (hP : wP g μ' t.heap) (hd : ∀ q, μ' q ≠ none → wA μ H.size q) (hF : va_F (wA μ H.size) st₀ t) : wX g A s T'.heap (locs ++ L) μ' ∧ H.size ≤ T'.heap.size ∧ ∀ q : Nat, q < H.size → μ q = none → T'.heap[q]? = H[q]? := by
  have hsub := wA.into hX
  obtain ⟨hz, hk⟩ := hF
  rw [h0] at hz hk
  have hS := hX.S
  refine ⟨⟨hX.1, hX.2.1, hX.2.2.1, ⟨Nat.le_trans hS.1 (by rw [e1]; exact hz), fun q h1 h2 => ?_, fun q hq => ?_⟩, by rw [e1]; exact hP, fun q hq => hsub q (hd q hq)⟩, by rw [e1]; exact hz, fun q h1 h2 => ?_⟩
  · rw [e1, hk q (Nat.lt_of_lt_of_le h1 hS.1) (fun z => h2 (hsub q z))]; exact hS.2.1 q h1 h2
  · rcases List.mem_append.mp hq with h | h
    · exact hS.2.2 q h
    · exact hsub _ (hL q h)
  · rw [e1]; exact hk q h1 (fun z => z.elim (fun z => z h2) (fun z => absurd z (Nat.not_le.mpr h1)))
theorem w_call (hr : va_Run p l e R s m args below meth c H locs cells slots mc ms (F0 m pc ls st0) rest (wQc g μ H.size post a) (wA μ H.size)) (hX : wX g A s H locs μ)
    (kk : ∀ (r : Option Value) (μ' : wMu) (H1 : Heap) (locs1 : List Loc), post r μ' → wX g A s H1 locs1 μ' → H.size ≤ H1.size → W p l e R s m args below meth c H1 locs1 (cells + mc) (slots + ms) Q (F0 m (pc + 3) ls (r.toList ++ rest))) : W p l e R s m args below meth c H locs cells slots Q (F0 m pc ls st0) := by
  intro T hT X
  obtain ⟨v, st₀, t, T', L, h0, X', hL, e1, e2, ⟨r, μ', hv, hp, hP', hd', hF⟩, st⟩ := hr T hT X
  cases hv
  obtain ⟨b1, b2, b3⟩ := hX.behind h0 e1 hL hP' hd' hF
  obtain ⟨t2, a1, a2⟩ := kk v μ' T'.heap (locs ++ L) hp b1 b2 T' rfl X'
  exact ⟨t2, st t2 a1, a2⟩
/-- a call on a part of what is known: the rest stays -/
theorem w_callF (hr : va_Run p l e R s m args below meth c H locs cells slots mc ms (F0 m pc ls st0) rest (wQc g μ H.size post a) (wA μ H.size)) (hX : wX g A s H locs μ)
    (kk : ∀ (r : Option Value) (μ' : wMu) (H1 : Heap) (locs1 : List Loc), post r μ' → wX g A s H1 locs1 μ' → H.size ≤ H1.size → (∀ q : Nat, q < H.size → μ q = none → H1[q]? = H[q]?) → (∀ q, μ' q ≠ none → wA μ H.size q) → W p l e R s m args below meth c H1 locs1 (cells + mc) (slots + ms) Q (F0 m (pc + 3) ls (r.toList ++ rest))) : W p l e R s m args below meth c H locs cells slots Q (F0 m pc ls st0) := by
  intro T hT X
  obtain ⟨v, st₀, t, T', L, h0, X', hL, e1, e2, ⟨r, μ', hv, hp, hP', hd', hF⟩, st⟩ := hr T hT X
  cases hv
  obtain ⟨b1, b2, b3⟩ := hX.behind h0 e1 hL hP' hd' hF
  obtain ⟨t2, a1, a2⟩ := kk v μ' T'.heap (locs ++ L) hp b1 b2 b3 hd' T' rfl X'
  exact ⟨t2, st t2 a1, a2⟩
theorem w_callX (hr : vx_Run p l e R s m args below meth c H locs cells slots mc ms (F0 m pc ls st0) rest (wQc g μ H.size post a) (wXc g μ H.size xp) (wA μ H.size)) (hX : wX g A s H locs μ)
    (kx : ∀ (E : String) (ce : Cell) (q9 : Addr) (H1 : Heap) (locs1 : List Loc), xp E → wX g A s H1 locs1 μ → H1[q9]? = some ce → ce.vm = .none → s.vm.findClass E = some ce.cls → vx_W p l e R s m args below meth c H1 locs1 (cells + mc) (slots + ms) Q (F0 m pc ls rest) q9)
    (kk : ∀ (r : Option Value) (μ' : wMu) (H1 : Heap) (locs1 : List Loc), post r μ' → wX g A s H1 locs1 μ' → H.size ≤ H1.size → W p l e R s m args below meth c H1 locs1 (cells + mc) (slots + ms) Q (F0 m (pc + 3) ls (r.toList ++ rest))) : W p l e R s m args below meth c H locs cells slots Q (F0 m pc ls st0) := by
  intro T hT X
  rcases hr T hT X with ⟨v, st₀, t, T', L, h0, X', hL, e1, e2, ⟨r, μ', hv, hp, hP', hd', hF⟩, st⟩ | ⟨q, st₀, t, T', L, E, ce, h0, X', hL, e1, e2, ⟨hp, hP', hF⟩, hce, hcv, hcl, st⟩
  · cases hv
    obtain ⟨b1, b2, b3⟩ := hX.behind h0 e1 hL hP' hd' hF
    obtain ⟨t2, a1, a2⟩ := kk v μ' T'.heap (locs ++ L) hp b1 b2 T' rfl X'
    exact ⟨t2, st t2 a1, a2⟩
  · obtain ⟨b1, b2, b3⟩ := hX.behind h0 e1 hL hP' (fun q hq => Or.inl hq) hF
    obtain ⟨t2, a1, a2⟩ := kx E ce q T'.heap (locs ++ L) hp b1 (by rw [e1]; exact hce) hcv hcl T' rfl X'
    exact ⟨t2, st.trans a1, a2⟩
variable {y : MethodName} {bytes : ByteArray} {maxL nL n index fr lo : Nat} {ret : Option FieldType} {own host : String} {b ci N : Nat} {T : u_T} {fs As : List Value}
theorem w_code1 (hX : wX g A s H locs μ) (hcode : Cond.code y bytes maxL ret ∈ GW) : (∀ w ∈ [Cond.code y bytes maxL ret], ∀ (a' : Array Value) (U : State), s.WarmedH U.vm → w.before a' U = true) ∧ Cond.code y bytes maxL ret ∈ [Cond.code y bytes maxL ret] := by
  refine ⟨fun w hw a' U hW => ?_, List.mem_cons_self⟩
  rw [List.mem_singleton.mp hw]
  have h1 := (List.mem_filter.mp hcode).2
  exact tw_args h1 (tw_warm hW h1 (hX.1.2.1 _ hcode)) a'
abbrev wNm (y : MethodName) (n : Nat) : Prop := (y.cls ≠ "java/lang/invoke/MethodHandle" ∧ y.cls ≠ "java/lang/invoke/VarHandle") ∧ (parseMethodDescriptor y.desc).map (fun d => d.parameters.length) = some n
theorem wNm.len {y : MethodName} {n : Nat} (h : wNm y n) : ∀ sig, parseMethodDescriptor y.desc = some sig → n = sig.parameters.length := fun sig hs => by
  have h2 := h.2
  rw [hs] at h2
  exact (Option.some.inj h2).symm
theorem w_runV (hexec : p.tables.exec = Jvm.exec) (hb : c.code = cc) (hml : c.maxLocals = nL) (hown : s.vm.findClass own = some m.cls) (hX : wX g A s H locs μ) (hM : wMet l y bytes maxL ret fr mc ms lo g (.ref b :: As) μ H.size post)
    (hcode : Cond.code y bytes maxL ret ∈ GW) (hini : Cond.initialized y.cls ∈ GW) (hlink : Cond.methodLink own index y ∈ GW) (hinst : Cond.instanceMethod y ∈ GW) (hsel : Cond.selects y.cls y y ∈ GW) (hd : wNm y n) (hn : As.length = n) (he : μ b = some (.inr (ci, fs))) (hc : vwCl[ci]? = some (y.cls, T, N))
    (hR : fr + 1 ≤ R.frames ∧ 8 + (maxL + 11) + lo ≤ R.locals) (hsize : ls.size = nL) (hstack : st0 = As.reverse ++ .ref b :: rest) (hW : (rest.map fun v => v.category).sum ≤ 8) (hdg : decode cc pc = .ok (.invokevirtual index, 3)) (hf : cells + mc ≤ R.cells ∧ slots + ms ≤ R.slots) :
    va_Run p l e R s m args below meth c H locs cells slots mc ms (F0 m pc ls st0) rest (wQc g μ H.size post (Value.ref b :: As).toArray) (wA μ H.size) := by
  obtain ⟨h1, h2⟩ := w_code1 hX hcode
  exact va_runV (C := y.cls) (Ts := GW) (n := n) ⟨hexec, hb, hml, hown, hX.ws args⟩ hM ⟨⟨rfl, rfl, hR.1, hR.2, h1, h2, hX.w hcode, hX.w hini, hd.1, hd.len, hX.w hlink⟩, hX.w hinst, hX.w hsel⟩ ⟨wPc.blind _ _ _ _, hX.recv he hc, fun U hU hW => wPc.of hX rfl hU hW⟩ rfl hn hsize hstack (lv_room hW) hdg hf
theorem w_runVN (hexec : p.tables.exec = Jvm.exec) (hb : c.code = cc) (hml : c.maxLocals = nL) (hown : s.vm.findClass own = some m.cls) (hX : wX g A s H locs μ) (hM : wMet l y bytes maxL ret fr mc ms lo g (.ref b :: As) μ H.size post)
    (hcode : Cond.code y bytes maxL ret ∈ GW) (hini : Cond.initialized y.cls ∈ GW) (hlink : Cond.methodLinkNest own index y host ∈ GW) (hinst : Cond.instanceMethod y ∈ GW) (hsel : Cond.selects y.cls y y ∈ GW) (hd : wNm y n) (hn : As.length = n) (he : μ b = some (.inr (ci, fs))) (hc : vwCl[ci]? = some (y.cls, T, N))
    (hR : fr + 1 ≤ R.frames ∧ 8 + (maxL + 11) + lo ≤ R.locals) (hsize : ls.size = nL) (hstack : st0 = As.reverse ++ .ref b :: rest) (hW : (rest.map fun v => v.category).sum ≤ 8) (hdg : decode cc pc = .ok (.invokevirtual index, 3)) (hf : cells + mc ≤ R.cells ∧ slots + ms ≤ R.slots) :
    va_Run p l e R s m args below meth c H locs cells slots mc ms (F0 m pc ls st0) rest (wQc g μ H.size post (Value.ref b :: As).toArray) (wA μ H.size) := by
  obtain ⟨h1, h2⟩ := w_code1 hX hcode
  exact va_runVN (C := y.cls) (Ts := GW) (n := n) ⟨hexec, hb, hml, hown, hX.ws args⟩ hM ⟨⟨⟨rfl, rfl, hR.1, hR.2, h1, h2⟩, hX.w hcode, hX.w hini, hd.1, hd.len, hX.w hlink⟩, hX.w hinst, hX.w hsel⟩ ⟨wPc.blind _ _ _ _, hX.recv he hc, fun U hU hW => wPc.of hX rfl hU hW⟩ rfl hn hsize hstack (lv_room hW) hdg hf
theorem w_runS (hexec : p.tables.exec = Jvm.exec) (hb : c.code = cc) (hml : c.maxLocals = nL) (hown : s.vm.findClass own = some m.cls) (hX : wX g A s H locs μ) (hM : wMet l y bytes maxL ret fr mc ms lo g As μ H.size post)
    (hcode : Cond.code y bytes maxL ret ∈ GW) (hini : Cond.initialized y.cls ∈ GW) (hlink : Cond.methodLink own index y ∈ GW) (hstat : Cond.static y ∈ GW) (hd : wNm y n) (hn : As.length = n)
    (hR : fr + 1 ≤ R.frames ∧ 8 + (maxL + 11) + lo ≤ R.locals) (hsize : ls.size = nL) (hstack : st0 = As.reverse ++ rest) (hW : (rest.map fun v => v.category).sum ≤ 8) (hdg : decode cc pc = .ok (.invokestatic index, 3)) (hf : cells + mc ≤ R.cells ∧ slots + ms ≤ R.slots) :
    va_Run p l e R s m args below meth c H locs cells slots mc ms (F0 m pc ls st0) rest (wQc g μ H.size post As.toArray) (wA μ H.size) := by
  obtain ⟨h1, h2⟩ := w_code1 hX hcode
  exact va_runS (Ts := GW) (n := n) ⟨hexec, hb, hml, hown, hX.ws args⟩ hM ⟨⟨rfl, rfl, hR.1, hR.2, h1, h2, hX.w hcode, hX.w hini, hd.1, hd.len, hX.w hlink⟩, hX.w hstat⟩ ⟨wPc.blind _ _ _ _, fun U hU hW => wPc.of hX rfl hU hW⟩ rfl hn hsize hstack (lv_room hW) hdg hf
theorem w_runI (hexec : p.tables.exec = Jvm.exec) (hb : c.code = cc) (hml : c.maxLocals = nL) (hown : s.vm.findClass own = some m.cls) (hX : wX g A s H locs μ) (hM : wMet l y bytes maxL none fr mc ms lo g (.ref b :: As) μ H.size post)
    (hcode : Cond.code y bytes maxL none ∈ GW) (hini : Cond.initialized y.cls ∈ GW) (hlink : Cond.methodLink own index y ∈ GW) (hinst : Cond.instanceMethod y ∈ GW) (hnm : y.name = "<init>") (hd : wNm y n) (hn : As.length = n)
    (hR : fr + 1 ≤ R.frames ∧ 8 + (maxL + 11) + lo ≤ R.locals) (hsize : ls.size = nL) (hstack : st0 = As.reverse ++ .ref b :: rest) (hW : (rest.map fun v => v.category).sum ≤ 8) (hdg : decode cc pc = .ok (.invokespecial index, 3)) (hf : cells + mc ≤ R.cells ∧ slots + ms ≤ R.slots) :
    va_Run p l e R s m args below meth c H locs cells slots mc ms (F0 m pc ls st0) rest (wQc g μ H.size post (Value.ref b :: As).toArray) (wA μ H.size) := by
  obtain ⟨h1, h2⟩ := w_code1 hX hcode
  exact va_runI (Ts := GW) (n := n) ⟨hexec, hb, hml, hown, hX.ws args⟩ hM ⟨⟨rfl, rfl, hR.1, hR.2, h1, h2, hX.w hcode, hX.w hini, hd.1, hd.len, hX.w hlink⟩, hnm, hX.w hinst⟩ ⟨wPc.blind _ _ _ _, fun U hU hW => wPc.of hX rfl hU hW⟩ rfl hn hsize hstack (lv_room hW) hdg hf
theorem w_runIN (hexec : p.tables.exec = Jvm.exec) (hb : c.code = cc) (hml : c.maxLocals = nL) (hown : s.vm.findClass own = some m.cls) (hX : wX g A s H locs μ) (hM : wMet l y bytes maxL none fr mc ms lo g (.ref b :: As) μ H.size post)
    (hcode : Cond.code y bytes maxL none ∈ GW) (hini : Cond.initialized y.cls ∈ GW) (hlink : Cond.methodLinkNest own index y host ∈ GW) (hinst : Cond.instanceMethod y ∈ GW) (hnm : y.name = "<init>") (hd : wNm y n) (hn : As.length = n)
    (hR : fr + 1 ≤ R.frames ∧ 8 + (maxL + 11) + lo ≤ R.locals) (hsize : ls.size = nL) (hstack : st0 = As.reverse ++ .ref b :: rest) (hW : (rest.map fun v => v.category).sum ≤ 8) (hdg : decode cc pc = .ok (.invokespecial index, 3)) (hf : cells + mc ≤ R.cells ∧ slots + ms ≤ R.slots) :
    va_Run p l e R s m args below meth c H locs cells slots mc ms (F0 m pc ls st0) rest (wQc g μ H.size post (Value.ref b :: As).toArray) (wA μ H.size) := by
  obtain ⟨h1, h2⟩ := w_code1 hX hcode
  exact va_runIN (Ts := GW) (n := n) ⟨hexec, hb, hml, hown, hX.ws args⟩ hM ⟨⟨⟨rfl, rfl, hR.1, hR.2, h1, h2⟩, hX.w hcode, hX.w hini, hd.1, hd.len, hX.w hlink⟩, hnm, hX.w hinst⟩ ⟨wPc.blind _ _ _ _, fun U hU hW => wPc.of hX rfl hU hW⟩ rfl hn hsize hstack (lv_room hW) hdg hf
theorem w_runVX (hexec : p.tables.exec = Jvm.exec) (hb : c.code = cc) (hml : c.maxLocals = nL) (hown : s.vm.findClass own = some m.cls) (hX : wX g A s H locs μ) (hM : wMetX l y bytes maxL ret fr mc ms lo g (.ref b :: As) μ H.size post xp)
    (hcode : Cond.code y bytes maxL ret ∈ GW) (hini : Cond.initialized y.cls ∈ GW) (hlink : Cond.methodLink own index y ∈ GW) (hinst : Cond.instanceMethod y ∈ GW) (hsel : Cond.selects y.cls y y ∈ GW) (hd : wNm y n) (hn : As.length = n) (he : μ b = some (.inr (ci, fs))) (hc : vwCl[ci]? = some (y.cls, T, N))
    (hR : fr + 1 ≤ R.frames ∧ 8 + (maxL + 11) + lo ≤ R.locals) (hsize : ls.size = nL) (hstack : st0 = As.reverse ++ .ref b :: rest) (hW : (rest.map fun v => v.category).sum ≤ 8) (hdg : decode cc pc = .ok (.invokevirtual index, 3)) (hf : cells + mc ≤ R.cells ∧ slots + ms ≤ R.slots) :
    vx_Run p l e R s m args below meth c H locs cells slots mc ms (F0 m pc ls st0) rest (wQc g μ H.size post (Value.ref b :: As).toArray) (wXc g μ H.size xp) (wA μ H.size) := by
  obtain ⟨h1, h2⟩ := w_code1 hX hcode
  exact vx_runV (C := y.cls) (Ts := GW) (n := n) ⟨hexec, hb, hml, hown, hX.ws args⟩ hM ⟨⟨rfl, rfl, hR.1, hR.2, h1, h2, hX.w hcode, hX.w hini, hd.1, hd.len, hX.w hlink⟩, hX.w hinst, hX.w hsel⟩ ⟨wPc.blind _ _ _ _, hX.recv he hc, fun U hU hW => wPc.of hX rfl hU hW⟩ rfl hn hsize hstack (lv_room hW) hdg hf
theorem w_runSX (hexec : p.tables.exec = Jvm.exec) (hb : c.code = cc) (hml : c.maxLocals = nL) (hown : s.vm.findClass own = some m.cls) (hX : wX g A s H locs μ) (hM : wMetX l y bytes maxL ret fr mc ms lo g As μ H.size post xp)
    (hcode : Cond.code y bytes maxL ret ∈ GW) (hini : Cond.initialized y.cls ∈ GW) (hlink : Cond.methodLink own index y ∈ GW) (hstat : Cond.static y ∈ GW) (hd : wNm y n) (hn : As.length = n)
    (hR : fr + 1 ≤ R.frames ∧ 8 + (maxL + 11) + lo ≤ R.locals) (hsize : ls.size = nL) (hstack : st0 = As.reverse ++ rest) (hW : (rest.map fun v => v.category).sum ≤ 8) (hdg : decode cc pc = .ok (.invokestatic index, 3)) (hf : cells + mc ≤ R.cells ∧ slots + ms ≤ R.slots) :
    vx_Run p l e R s m args below meth c H locs cells slots mc ms (F0 m pc ls st0) rest (wQc g μ H.size post As.toArray) (wXc g μ H.size xp) (wA μ H.size) := by
  obtain ⟨h1, h2⟩ := w_code1 hX hcode
  exact vx_runS (Ts := GW) (n := n) ⟨hexec, hb, hml, hown, hX.ws args⟩ hM ⟨⟨rfl, rfl, hR.1, hR.2, h1, h2, hX.w hcode, hX.w hini, hd.1, hd.len, hX.w hlink⟩, hX.w hstat⟩ ⟨wPc.blind _ _ _ _, fun U hU hW => wPc.of hX rfl hU hW⟩ rfl hn hsize hstack (lv_room hW) hdg hf
end WC
section WE
variable {p : Program} {l : Launch} {e : Env} {R : Room} {s : State} {m : MethodId} {args : Array Value} {below : List Frame} {meth : Method} {c : Code} {H : Heap} {locs : List Loc} {cells slots mc ms sz : Nat}
variable {cc : ByteArray} {pc : Nat} {ls : Array Slot} {rest : List Value} {g : wG} {μ μ' : wMu} {post : Option Value → wMu → Prop} {xp : String → Prop}
theorem w_iret (hexec : p.tables.exec = Jvm.exec) (hb : c.code = cc) (hr : meth.sig.returnType = some .int) (hlocks : meth.locks = false) (hX : wX g (wA μ sz) s H locs μ') {v : Int32} (hp : post (some (.int v)) μ') (hC : cells ≤ mc ∧ slots ≤ ms) (hdg : decode cc pc = .ok (.ireturn, 1)) :
    W p l e R s m args below meth c H locs cells slots (MQ below (wQc g μ sz post) args s mc ms (wA μ sz)) (F0 m pc ls [.int v]) :=
  W.widen hC.1 hC.2 (W.iret hexec hb hr (fun t ht hW => ⟨_, μ', rfl, hp, by rw [ht]; exact hX.P, hX.dom, hX.S.F ht⟩) hX.S.2.2 hdg hlocks)
theorem w_zret (hexec : p.tables.exec = Jvm.exec) (hb : c.code = cc) (hr : meth.sig.returnType = some .boolean) (hlocks : meth.locks = false) (hX : wX g (wA μ sz) s H locs μ') {v : Int32} (hv : narrow .boolean (.int v) = .int v) (hp : post (some (.int v)) μ') (hC : cells ≤ mc ∧ slots ≤ ms) (hdg : decode cc pc = .ok (.ireturn, 1)) :
    W p l e R s m args below meth c H locs cells slots (MQ below (wQc g μ sz post) args s mc ms (wA μ sz)) (F0 m pc ls [.int v]) :=
  W.widen hC.1 hC.2 (W.zret hexec hb hr hv (fun t ht hW => ⟨_, μ', rfl, hp, by rw [ht]; exact hX.P, hX.dom, hX.S.F ht⟩) hX.S.2.2 hdg hlocks)
theorem w_lret (hexec : p.tables.exec = Jvm.exec) (hb : c.code = cc) (hr : meth.sig.returnType = some .long) (hlocks : meth.locks = false) (hX : wX g (wA μ sz) s H locs μ') {v : Int64} (hp : post (some (.long v)) μ') (hC : cells ≤ mc ∧ slots ≤ ms) (hdg : decode cc pc = .ok (.lreturn, 1)) :
    W p l e R s m args below meth c H locs cells slots (MQ below (wQc g μ sz post) args s mc ms (wA μ sz)) (F0 m pc ls [.long v]) :=
  W.widen hC.1 hC.2 (W.lret hexec hb hr (fun t ht hW => ⟨_, μ', rfl, hp, by rw [ht]; exact hX.P, hX.dom, hX.S.F ht⟩) hX.S.2.2 hdg hlocks)
theorem w_aret (hexec : p.tables.exec = Jvm.exec) (hb : c.code = cc) {rt : FieldType} (hr : meth.sig.returnType = some rt) (hrt : (∃ n, rt = .object n) ∨ ∃ t, rt = .array t) (hlocks : meth.locks = false) (hX : wX g (wA μ sz) s H locs μ') {v : Nat} (hp : post (some (.ref v)) μ') (hC : cells ≤ mc ∧ slots ≤ ms) (hdg : decode cc pc = .ok (.areturn, 1)) :
    W p l e R s m args below meth c H locs cells slots (MQ below (wQc g μ sz post) args s mc ms (wA μ sz)) (F0 m pc ls [.ref v]) :=
  W.widen hC.1 hC.2 (W.aret hexec hb hr hrt (Or.inr ⟨v, rfl⟩) (fun t ht hW => ⟨_, μ', rfl, hp, by rw [ht]; exact hX.P, hX.dom, hX.S.F ht⟩) hX.S.2.2 hdg hlocks)
theorem w_vret (hexec : p.tables.exec = Jvm.exec) (hb : c.code = cc) (hr : meth.sig.returnType = none) (hlocks : meth.locks = false) (hX : wX g (wA μ sz) s H locs μ') (hp : post none μ') (hC : cells ≤ mc ∧ slots ≤ ms) (hdg : decode cc pc = .ok (.return_, 1)) :
    W p l e R s m args below meth c H locs cells slots (MQ below (wQc g μ sz post) args s mc ms (wA μ sz)) (F0 m pc ls []) :=
  W.widen hC.1 hC.2 (W.vret hexec hb hr (fun t ht hW => ⟨_, μ', rfl, hp, by rw [ht]; exact hX.P, hX.dom, hX.S.F ht⟩) hX.S.2.2 hdg hlocks)
/-- what was thrown goes on to the caller -/
theorem w_out (hxt : ∀ x ∈ c.exceptionTable.toList, False) (hlocks : meth.locks = false) (hX : wX g (wA μ sz) s H locs μ) {E : String} {ce : Cell} {q9 : Addr} (hp : xp E) (hce : H[q9]? = some ce) (hcv : ce.vm = .none) (hcl : s.vm.findClass E = some ce.cls) (hC : cells ≤ mc ∧ slots ≤ ms) :
    vx_W p l e R s m args below meth c H locs cells slots (vx_MQ below (wQc g μ sz post) (wXc g μ sz xp) args s mc ms (wA μ sz)) (F0 m pc ls rest) q9 :=
  vx_out (fun x hx => (hxt x hx).elim) hlocks hce hcv hcl (fun t ht _ => ⟨hp, by rw [ht]; exact hX.P, hX.S.F ht⟩) hX.S.2.2 hC.1 hC.2
theorem w_throw (hexec : p.tables.exec = Jvm.exec) (hb : c.code = cc) (hl : l.stackTraces = false) {cls text : String} {ik is ic sa : Nat} (hown : s.vm.findClass RX2 = some m.cls) (hcls : Bundle.fit cls = true)
    (hk : Cond.classLink RX2 ik cls ∈ GW) (hini : Cond.initialized cls ∈ GW) (hstr : vk_R RX2 is text sa s) (hat : ∀ w ∈ vx_atS RX2 ic cls ["java/lang/RuntimeException", "java/lang/Exception"], w ∈ GW)
    (hgood : ∀ w ∈ Cond.classLink RX2 ik cls :: Cond.initialized cls :: vx_atS RX2 ic cls ["java/lang/RuntimeException", "java/lang/Exception"], vx_ot w = true)
    (hX : wX g (wA μ sz) s H locs μ) (hsize : ls.size = c.maxLocals)
    (d0 : decode cc pc = .ok (.new ik, 3)) (d3 : decode cc (pc + 3) = .ok (.dup, 1)) (d4 : decode cc (pc + 4) = .ok (.ldc is, 2)) (d6 : decode cc (pc + 6) = .ok (.invokespecial ic, 3)) (d9 : decode cc (pc + 9) = .ok (.athrow, 1))
    (hxt : ∀ x ∈ c.exceptionTable.toList, False) (hRf : 5 < R.frames) (hRl : (rest.map fun v => v.category).sum + 82 ≤ R.locals) (hRc : cells + 1 ≤ R.cells ∧ slots + 6 ≤ R.slots) (hlocks : meth.locks = false) (hp : xp cls) (hC : cells + 1 ≤ mc ∧ slots + 6 ≤ ms) :
    W p l e R s m args below meth c H locs cells slots (vx_MQ below (wQc g μ sz post) (wXc g μ sz xp) args s mc ms (wA μ sz)) (F0 m pc ls rest) := by
  obtain ⟨h1, h2, h3, h4, h5, h6⟩ := id hX
  obtain ⟨-, -, -, hU, hN, -⟩ := id h1
  refine vx_throwS (names := ["java/lang/RuntimeException", "java/lang/Exception"]) hexec hb hl hown hcls (by decide) (hX.w hk) (hX.w hini) hstr (fun w hw => hX.w (hat w hw)) hgood (hU.narrow h2) (hN.narrow h2) h4 hsize d0 d3 d4 d6 d9 (fun x hx => (hxt x hx).elim) hRf hRl hRc.1 hRc.2 hlocks (fun t hal hz hq => ?_) h4.2.2 hC.1 hC.2
  have hX' := hX.grow hz hq
  exact ⟨hp, hX'.P, hX'.S.F rfl⟩
end WE
