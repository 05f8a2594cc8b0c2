/-! THE LAW'S OWN HELPERS: a call, its answer into a cell, and a number for what was thrown -/
abbrev wMetH (l : Launch) (y : MethodName) (bytes : ByteArray) (maxL : Nat) (ret : Option FieldType) (hh : List (Nat × Nat × Nat × Nat)) (fr mc ms lo : Nat) (g : wG) (av : List Value) (μ : wMu) (sz : Nat) (post : Option Value → wMu → Prop) : Prop :=
  Met l y [.codeWith y bytes maxL ret hh] ({ frames := fr, cells := mc, slots := ms, locals := lo } : Room) (wPc g av μ sz) (wQc g μ sz post) mc ms (wA μ sz)
theorem MetH.ofW {l : Launch} {y : MethodName} {ws ws' : List Cond} {rm : Room} {Pc : Array Value → State → Prop} {Qc : Array Value → State → Outcome → State → Prop} {mc ms : Nat} {free : Addr → Prop} {cc : ByteArray} {maxL : Nat} {ret : Option FieldType} {hh : List (Nat × Nat × Nat × Nat)}
    (hy : plainName y.cls = true) (hw : ws = Cond.codeWith y cc maxL ret hh :: ws')
    (body : ∀ p e s m args below meth c s₁, BodyLoose p l y (headSpec ws rm) cc maxL ret e s m args below meth c s₁ → c.maxLocals = maxL → c.exceptionTable.toList = tableOf hh → Pc args s →
      W p l e (headSpec ws rm).room s m args below meth c s.heap [] 0 0 (MQ below Qc args s mc ms free) (entryFrame m args maxL)) : Met l y ws rm Pc Qc mc ms free := by
  refine MetFree.of_bodyS (code := cc) (maxLocals := maxL) (ret := ret) hy ?_ ?_
  · intro args s m h hn
    obtain ⟨m9, meth, c, hn9, h1, h2, h3, h4, -, h5, h6, -⟩ := Cond.codeWith_spec (atoms_spec (ws := ws) h _ (by rw [hw]; exact List.mem_cons_self))
    cases hn.symm.trans hn9
    exact ⟨meth, c, h1, h2, h3, h4, h5, h6⟩
  · intro p e s m args below meth c s₁ B hml hP _
    have hh0 : s₁.heap = s.heap := by rw [B.state]; rfl
    have ht := vx_table (x := y) B (atoms_spec (ws := ws) B.pre _ (by rw [hw]; exact List.mem_cons_self))
    obtain ⟨t, a1, o, b1, b2, b3⟩ := body p e s m args below meth c s₁ B hml ht hP s₁ hh0 (Stand.of_body B)
    exact ⟨t, o, a1, b1, b2, ⟨b3.1, b3.2⟩⟩
theorem wMetH.of {l : Launch} {y : MethodName} {bytes : ByteArray} {maxL : Nat} {ret : Option FieldType} {hh : List (Nat × Nat × Nat × Nat)} {fr mc ms lo : Nat} {g : wG} {av : List Value} {μ : wMu} {sz : Nat} {post : Option Value → wMu → Prop} (hy : plainName y.cls = true) (hsl : (lg_sl av).length ≤ maxL)
    (body : ∀ (p : Program) (e : Env) (s : State) (m : MethodId) (below : List Frame) (meth : Method) (c : Code) (ls : Array Slot), p.tables.exec = Jvm.exec → c.code = bytes → meth.sig.returnType = ret → c.maxLocals = maxL → s.vm.findClass y.cls = some m.cls → meth.locks = false → meth.name = y.name → lv_has ls maxL (lv_args 0 av) → s.heap.size = sz → wX g (wA μ sz) s s.heap [] μ → c.exceptionTable.toList = tableOf hh →
      W p l e ({ frames := fr, cells := mc, slots := ms, locals := lo } : Room) s m av.toArray below meth c s.heap [] 0 0 (MQ below (wQc g μ sz post) av.toArray s mc ms (wA μ sz)) (F0 m 0 ls [])) : wMetH l y bytes maxL ret hh fr mc ms lo g av μ sz post := by
  refine MetH.ofW (cc := bytes) (maxL := maxL) (ret := ret) (hh := hh) (ws' := []) hy rfl ?_
  intro p e s m args below meth c s₁ B hml ht hv
  have hX := wX.start hv
  obtain ⟨rfl, hsz, -⟩ := hv
  have hl := lv_entry av (n := maxL) hsl
  rw [lg_entry_eq]
  exact body p e s m below meth c _ B.exec B.bytes B.returns hml (findClass_of_methodNamed B.named) B.notSynchronized (name_of_methodNamed B.named B.method).1 hl hsz hX ht
section WRH
variable {p : Program} {l : Launch} {e : Env} {R : Room} {s : State} {m : MethodId} {args : Array Value} {below : List Frame} {meth : Method} {c : Code} {H : Heap} {locs : List Loc} {cells slots : Nat} {Q : State → Prop}
variable {cc : ByteArray} {pc : Nat} {ls : Array Slot} {st0 rest : List Value} {A : Nat → Prop} {g : wG} {μ : wMu} {post : Option Value → wMu → Prop} {mc ms : Nat}
theorem w_runSW {y : MethodName} {bytes : ByteArray} {maxL nL n index fr lo : Nat} {ret : Option FieldType} {own : String} {As : List Value} {hh : List (Nat × Nat × Nat × Nat)} (hexec : p.tables.exec = Jvm.exec) (hb : c.code = cc) (hml : c.maxLocals = nL) (hown : s.vm.findClass own = some m.cls) (hX : wX g A s H locs μ) (hM : wMetH l y bytes maxL ret hh fr mc ms lo g As μ H.size post)
    (hcode : Cond.codeWith y bytes maxL ret hh ∈ GW) (hini : Cond.initialized y.cls ∈ GW) (hlink : Cond.methodLink own index y ∈ GW) (hstat : Cond.static y ∈ GW) (hd : wNm y n) (hn : As.length = n)
    (hR : fr + 1 ≤ R.frames ∧ 8 + (maxL + 11) + lo ≤ R.locals) (hsize : ls.size = nL) (hstack : st0 = As.reverse ++ rest) (hW : (rest.map fun v => v.category).sum ≤ 8) (hdg : decode cc pc = .ok (.invokestatic index, 3)) (hf : cells + mc ≤ R.cells ∧ slots + ms ≤ R.slots) :
    va_Run p l e R s m args below meth c H locs cells slots mc ms (F0 m pc ls st0) rest (wQc g μ H.size post As.toArray) (wA μ H.size) := by
  have h1 : ∀ w ∈ [Cond.codeWith y bytes maxL ret hh], ∀ (a' : Array Value) (U : State), s.WarmedH U.vm → w.before a' U = true := fun w hw a' U hW => by
    rw [List.mem_singleton.mp hw]
    have h1 := (List.mem_filter.mp hcode).2
    exact tw_args h1 (tw_warm hW h1 (hX.1.2.1 _ hcode)) a'
  exact vx_runSW (Ts := GW) (n := n) ⟨hexec, hb, hml, hown, hX.ws args⟩ hM ⟨⟨rfl, rfl, hR.1, hR.2, h1, List.mem_cons_self⟩, hX.w hcode, hX.w hini, hd.1, hd.len, hX.w hlink, hX.w hstat⟩ ⟨wPc.blind _ _ _ _, fun U hU hW => wPc.of hX rfl hU hW⟩ rfl hn hsize hstack (lv_room hW) hdg hf
/-- the one cell of an array of one -/
theorem n_lst1 (hexec : p.tables.exec = Jvm.exec) (hb : c.code = cc) (hX : wX g A s H locs μ) {a : Nat} {w x : Int64} (he : μ a = some (cJ g w)) (hdg : decode cc pc = .ok (.lastore, 1))
    (kk : ∀ (H1 : Heap) (locs1 : List Loc), wX g A s H1 locs1 (va_up μ a (some (cJ g x))) → W p l e R s m args below meth c H1 locs1 cells slots Q (F0 m (pc + 1) ls rest)) : W p l e R s m args below meth c H locs cells slots Q (F0 m pc ls (.long x :: .int (nI 0) :: .ref a :: rest)) := by
  refine n_last hexec hb hX he (by decide) (by decide) hdg (fun H1 l1 h => kk H1 l1 ?_)
  obtain ⟨h1, h2, h3, h4, h5, h6⟩ := h
  refine ⟨h1, h2, h3, h4, fun q e' hq => ?_, fun q hq => ?_⟩
  · by_cases hqa : q = a
    · subst hqa
      rw [va_up_self] at hq
      cases hq
      have h7 := h5 q _ (va_up_self _ _ _)
      have e9 : vp_cell (gJ g) (1, .inr (.inl (vp_updL (fun _ => w) 0 x))) = vp_cell (gJ g) (1, .inr (.inl (fun _ => x))) := by
        rw [vp_cell_l, vp_cell_l]
        unfold arrV
        congr 2
        funext j
        have hj : j.val = 0 := by have := j.isLt; omega
        simp [vp_updL, hj]
      show H1[q]? = some (vp_cell (gJ g) (1, .inr (.inl (fun _ => x))))
      rw [← e9]
      exact h7
    · rw [va_up_ne _ _ hqa] at hq; exact h5 q e' (by rw [va_up_ne _ _ hqa]; exact hq)
  · by_cases hqa : q = a
    · subst hqa; exact h6 q (by rw [va_up_self]; exact Option.some_ne_none _)
    · rw [va_up_ne _ _ hqa] at hq; exact h6 q (by rw [va_up_ne _ _ hqa]; exact hq)
end WRH
theorem fD.rec9 {g : wG} {Λ σ : sSt} {w v : Int64} {μ μ' : wMu} (hF : fD g Λ (some w) σ μ) (hn : μ' (Λ 9 0) = some (cJ g v)) (ho : ∀ q, q ≠ Λ 9 0 → μ' q = μ q) : fD g Λ (some v) σ μ' := by
  obtain ⟨f1, ⟨m1, f2⟩, ⟨m2, f3⟩, f4, f5, f6, f7, ⟨t1, t2, t3, t4, f8⟩, ⟨u1, u2, u3, u4, u5, f9⟩, f10, f11⟩ := hF
  have f12 := f11 w rfl
  have hk : ∀ z e, μ z = some e → Nat.beq (kd e) 101 = false → μ' z = some e := fun z e h h1 => by rw [ho z (kd_nn h f12 (Nat.ne_of_beq_eq_false h1))]; exact h
  refine ⟨hk _ _ f1 rfl, ⟨m1, hk _ _ f2 rfl⟩, ⟨m2, hk _ _ f3 rfl⟩, ?_, ?_, fun i h => hk _ _ (f6 i h) rfl, fun i h => hk _ _ (f7 i h) rfl, ⟨t1, t2, t3, t4, hk _ _ f8 rfl⟩, ⟨u1, u2, u3, u4, u5, hk _ _ f9 rfl⟩, f10, fun v' h => by cases h; exact hn⟩
  · rcases f4 with h | ⟨f, h1, h2⟩
    · exact Or.inl h
    · exact Or.inr ⟨f, hk _ _ h1 rfl, h2⟩
  · rcases f5 with h | ⟨f, h1, h2⟩
    · exact Or.inl h
    · exact Or.inr ⟨f, hk _ _ h1 rfl, h2⟩
theorem fD.out9 {g : wG} {Λ σ : sSt} {w : Int64} {μ : wMu} (hF : fD g Λ (some w) σ μ) : μ (Λ 9 0) = some (cJ g w) := by
  obtain ⟨f1, f2, f3, f4, f5, f6, f7, f8, f9, f10, f11⟩ := hF
  exact f11 w rfl
