/-! THE START -/
theorem len0 {args : Array Value} {s : State} {t : Term} (h : (Term.length t).eval args s none [] s = some (.int 0)) : ∃ a cell, t.eval args s none [] s = some (.ref a) ∧ s.arrayAt? a = some cell ∧ cell.slots.size = 0 := by
  simp only [Term.eval, Option.bind_eq_bind] at h
  cases ht : t.eval args s none [] s with
  | none => simp [ht] at h
  | some x =>
    cases x <;> simp [ht] at h
    case ref a =>
      obtain ⟨cell, hcell, h⟩ := Option.bind_eq_some_iff.mp h
      by_cases hn : cell.slots.size < 2147483648
      · rw [if_pos hn] at h
        refine ⟨a, cell, rfl, hcell, ?_⟩
        have h2 : nI cell.slots.size = nI 0 := by
          have h3 := Option.some.inj h
          injection h3
        have h4 := congrArg Int32.toInt h2
        rw [nI_toInt hn, nI_toInt (by decide)] at h4
        omega
      · rw [if_neg hn] at h; cases h
theorem wE_start {p : Program} {s : State} {m : MethodId} {meth : Method} {c : Code} {b L : Nat} {xs : Nat → Int32} (hL : L ≤ 260) (C0 : lw_At p s m meth c b L xs) : ∃ g : wG, wE g s ∧ gB g = s.heap.size ∧ (gT g).1 = b := by
  obtain ⟨hx, hb, hr, hml, hown, hts, hX, hbl, hlocks, hgv⟩ := id C0
  have hq := flat_of_before _ hgv
  have hG : ∀ w ∈ GW, w.before #[Value.ref b] s = true := fun w h => hts w (List.mem_filter.mp h).1
  have hT : ∀ {w : Cond} (i : Nat), tables_1[i]? = some w → w.before #[Value.ref b] s = true := fun i h => hts _ (List.mem_append_right _ (List.mem_of_getElem? h))
  have hA : ∀ a : Nat, a < s.heap.size → ¬ (fun q : Nat => s.heap.size ≤ q) a := fun a ha => Nat.not_le.mpr ha
  obtain ⟨c0, i0, k0⟩ := u_known (C := RJx4a65c) (T := TJx4a65c) (N := 3) (n := 3) hG inJx4a65c (hG _ kw29)
  obtain ⟨c1, i1, k1⟩ := u_known (C := RX0) (T := TX0) (N := 6) (n := 6) hG inX0 (hG _ kw78)
  obtain ⟨c2, i2, k2⟩ := u_known (C := RX1) (T := TX1) (N := 4) (n := 4) hG inX1 (hG _ kw55)
  obtain ⟨c3, i3, k3⟩ := u_known (C := RX2) (T := TX2) (N := 7) (n := 7) hG inX2 (hG _ kw21)
  obtain ⟨c4, i4, k4⟩ := u_known (C := RX3) (T := TX3) (N := 5) (n := 5) hG inX3 (hG _ kw622)
  obtain ⟨cI, kI, pI, a1, a2, a3⟩ := Cond.arrayClass_spec (hG _ kw543)
  obtain ⟨pJ, cJ9, kJ, b1, b2, b3, b4, b5⟩ := arrayOverA_spec (hG _ kw522)
  obtain ⟨pO, cO9, kO, d1, d2, d3, d4, d5⟩ := Cond.arrayOver_spec (hG _ kw587)
  have hle := va_eqt (z := 0) (t := .length (.static "java/util/ArrayList" "DEFAULTCAPACITY_EMPTY_ELEMENTDATA" "[Ljava/lang/Object;")) (hq _ (by decide +kernel))
  obtain ⟨e9, cE, he, hat, hsz⟩ := len0 hle
  obtain ⟨hcE, -, -, -⟩ := State.arrayAt?_spec hat
  obtain ⟨hof, -⟩ := Cond.arrayOf_spec (ty := .object "java/lang/Object") (hq _ (by decide +kernel)) he hcE
  obtain ⟨s0, -, -, -, hs0, -⟩ := Cond.exactly_spec (hq (.exactly (.string "FairyDust" 253) "java/lang/String") (by decide +kernel))
  obtain ⟨s1, -, -, -, hs1, -⟩ := Cond.exactly_spec (hq (.exactly (.string "FairyDust" 246) "java/lang/String") (by decide +kernel))
  obtain ⟨s2, -, -, -, hs2, -⟩ := Cond.exactly_spec (hq (.exactly (.string "FairyDust" 249) "java/lang/String") (by decide +kernel))
  obtain ⟨s3, -, -, -, hs3, -⟩ := Cond.exactly_spec (hq (.exactly (.string "FairyDust" 46) "java/lang/String") (by decide +kernel))
  obtain ⟨s4, -, -, -, hs4, -⟩ := Cond.exactly_spec (hq (.exactly (.string "FairyDust" 59) "java/lang/String") (by decide +kernel))
  have hlt : e9 < s.heap.size := (Array.getElem?_eq_some_iff.mp hcE).1
  refine ⟨((fun k => match k with | 0 => c0 | 1 => c1 | 2 => c2 | 3 => c3 | _ => c4, fun k => match k with | 0 => i0 | 1 => i1 | 2 => i2 | 3 => i3 | _ => i4), (cI, cO9, cJ9), s.heap.size, e9, (fun k => match k with | 0 => s0 | 1 => s1 | 2 => s2 | 3 => s3 | _ => s4), (b, L, xs)), ⟨⟨?_, ?_⟩, ?_, ?_, ?_, ?_, ?_, ?_, hlt, Nat.le_refl _, hX, hbl, hL⟩, rfl, rfl⟩
  · intro k q h
    match k, h with
    | 0, h => cases h; exact k0
    | 1, h => cases h; exact k1
    | 2, h => cases h; exact k2
    | 3, h => cases h; exact k3
    | 4, h => cases h; exact k4
    | k + 5, h => simp [vwCl] at h
  · intro k q h
    match k, h with
    | 0, h => cases h; exact ⟨fun n z => ⟨(fun k h => by cases h), kI, a2, pI, a3⟩, a1⟩
    | 1, h => cases h; exact ⟨fun n z => ⟨(fun k h => by cases h), kO, d3, pO, d4⟩, kO, pO, d3, d4, d1, d5⟩
    | 2, h => cases h; exact ⟨fun n z => ⟨(fun k h => by cases h), kJ, b3, pJ, b4⟩, b5⟩
    | k + 3, h => simp [wTys] at h
  · exact fun w hw => tw_args0 (List.mem_filter.mp hw).2 (hG w hw)
  · exact ⟨vk_R.of (hT 239 (by decide +kernel)) hs0, vk_R.of (hT 338 (by decide +kernel)) hs1, vk_R.of (hT 183 (by decide +kernel)) hs2, vk_R.of (hT 536 (by decide +kernel)) hs3, vk_R.of (hT 600 (by decide +kernel)) hs4⟩
  · exact vx_Zqof (hT 169 (by decide +kernel)) (hT 8 (by decide +kernel)) (hq _ (by decide +kernel)) hA
  · exact vx_Zqof (hT 171 (by decide +kernel)) (hT 8 (by decide +kernel)) (hq _ (by decide +kernel)) hA
  · exact va_Zof (hT 41 (by decide +kernel)) (hT 4 (by decide +kernel)) he hA
  · exact ⟨cE, hcE, hof, hsz⟩
abbrev lwA (s : State) : Nat → Prop := fun q => s.heap.size ≤ q
set_option maxHeartbeats 4000000 in
set_option maxRecDepth 100000 in
/-- the law, from its entry -/
theorem whole_start {p : Program} {e : Env} {s : State} {m : MethodId} {below : List Frame} {meth : Method} {c : Code} (l : Launch) (hflags : l.flags = flags0) {b L : Nat} {xs : Nat → Int32} (hL : L ≤ 260) (C0 : lw_At p s m meth c b L xs) : W p l e room_1 s m #[Value.ref b] below meth c s.heap [] 0 0 (lw_Z below #[Value.ref b] s) (entryFrame m ([Value.ref b] : List Value).toArray 25) := by
  obtain ⟨hx, hb, hr, hml, hown, hts, hXs, hbl, hlocks, hgv⟩ := id C0
  obtain ⟨g, hE, hgB, hgT⟩ := wE_start hL C0
  have hd0 := Drawn.sameBut.refl s.drawn lw_cs
  refine W.base ?_
  have hown : (s.setDrawn s.drawn).vm.findClass "FairyDustLaw" = some m.cls := hown
  have hl := lv_entry ([.ref b]) (n := 25) (Nat.le_of_ble_eq_true rfl)
  rw [lg_entry_eq]
  generalize (lg_sl ([.ref b]) ++ List.replicate (25 - (lg_sl ([.ref b])).length) Slot.unset).toArray = ls at hl ⊢
  have hl : lv_has ls 25 [(0, .ref b)] := hl
  have hl : lv_has ls 25 [(0, .ref (gT g).1)] := by rw [hgT]; exact hl
  have hX : wX g (lwA s) (s.setDrawn s.drawn) s.heap [] (fun _ => none) := ⟨hE.next (A := lwA s) (H := s.heap) (locs := []) (fun q h => by rw [hgB]; exact h) va_S.rf rfl (State.WarmedH.refl _), fun q h => by rw [hgB]; exact h, fun q h => h, va_S.rf, fun q e h => (by cases h), fun q h => absurd rfl h⟩
  refine w_new (ci := 3) hx hb inX2 tyX2 tyX2_ok rfl hX hown kw20 kw21 kw1 dfX2 (Nat.le_of_ble_eq_true rfl) (Nat.le_of_ble_eq_true rfl) dL_law_0 (fun q1 H hq1 hX => ?_)
  obtain ⟨μ1, e1⟩ : ∃ z : wMu, z = va_up (fun _ => none) q1 (some (.inr (3, [.null, .null, .null, .null, .int 0, .int 0, .int 0]))) := ⟨_, rfl⟩
  rw [← e1] at hX
  have k1 : μ1 q1 = some (.inr (3, [.null, .null, .null, .null, .int 0, .int 0, .int 0])) := by rw [e1]; exact va_up_self _ _ _
  refine W.eq (g2 := F0 m 3 ls [.ref q1]) rfl ?_
  refine lv_dup hx hb dL_law_3 rfl ?_
  refine w_call (w_runI (n := 0) (As := []) (rest := [.ref q1]) hx hb hml hown hX (c_X2_init l g μ1 H.size k1) kw24 kw1 kw22 kw23 rfl wn_X2_init rfl ⟨Nat.le_of_ble_eq_true rfl, Nat.le_of_ble_eq_true rfl⟩ hl.1 rfl (Nat.le_of_ble_eq_true rfl) dL_law_4 ⟨Nat.le_of_ble_eq_true rfl, Nat.le_of_ble_eq_true rfl⟩) hX (fun r2 μ2 H locs q2 hX hz => ?_)
  obtain ⟨rfl, ⟨Λ, rfl, hF⟩, -⟩ := q2
  refine W.eq (g2 := F0 m 7 ls [.ref (Λ 0 0)]) rfl ?_
  refine lv_astore_n (lv' := [(1, .ref (Λ 0 0)), (0, .ref (gT g).1)]) hx hb dL_law_7 rfl hl (by decide) rfl (fun ls hl => ?_)
  refine lv_aload_n hx hb dL_law_8 rfl (lv_at hl 0 rfl) ?_
  refine lv_aload_n hx hb dL_law_9 rfl (lv_at hl 1 rfl) ?_
  refine w_call (w_runS (n := 2) (As := [.ref (Λ 0 0), .ref (gT g).1]) (rest := []) hx hb hml hown hX (c_L_build l g μ2 H.size hF) kw620 kw0 kw618 kw619 wn_L_build rfl ⟨Nat.le_of_ble_eq_true rfl, Nat.le_of_ble_eq_true rfl⟩ hl.1 rfl (Nat.le_of_ble_eq_true rfl) dL_law_10 ⟨Nat.le_of_ble_eq_true rfl, Nat.le_of_ble_eq_true rfl⟩) hX (fun r3 μ3 H locs q3 hX hz => ?_)
  obtain ⟨o2, i, rfl, hi, hW⟩ := q3
  refine W.eq (g2 := F0 m 13 ls [.ref o2]) rfl ?_
  refine lv_astore_n (lv' := [(2, .ref o2), (1, .ref (Λ 0 0)), (0, .ref (gT g).1)]) hx hb dL_law_13 rfl hl (by decide) rfl (fun ls hl => ?_)
  refine lv_aload_n hx hb dL_law_14 rfl (lv_at hl 0 rfl) ?_
  refine lv_ifnonnull (tgt := 20) hx hb dL_law_15 (by decide) ?_
  refine lv_iconst (v := nI 0) hx hb dL_law_20 (by decide) ?_
  refine lv_istore_n (lv' := [(3, .int (nI 0)), (2, .ref o2), (1, .ref (Λ 0 0)), (0, .ref (gT g).1)]) hx hb dL_law_21 rfl hl (by decide) rfl (fun ls hl => ?_)
  refine sl_main (g := g) (o1 := Λ 0 0) (o2 := o2) hx hb hml hown ?_ 8 0 i μ3 H locs ls _ _ (by omega) (by omega) (by omega) (Nat.le_of_ble_eq_true rfl) (Nat.le_of_ble_eq_true rfl) hW hX hl
  intro i t κ H locs ls cells slots hi hc hs hW hX hl
  refine lv_aload_n hx hb dL_law_944 rfl (lv_at hl 1 rfl) ?_
  refine lv_aload_n hx hb dL_law_945 rfl (lv_at hl 2 rfl) ?_
  have hrc : ∃ fs, κ o2 = some (.inr (4, fs)) := by
    obtain ⟨Λ', Ω', σ', τ', α, β, hκ, -, -, hS, -, hΩ, -⟩ := hW
    rw [hκ, ← hΩ]
    exact ⟨_, mU_r hS.1⟩
  obtain ⟨fs, hrc⟩ := hrc
  refine w_call (w_runV (n := 1) (As := [.ref (Λ 0 0)]) (rest := []) hx hb hml hown hX (c_X3_isSame l g κ H.size hW hi) kw486 kw7 kw483 kw484 kw485 wn_X3_isSame rfl hrc rfl ⟨Nat.le_of_ble_eq_true rfl, Nat.le_of_ble_eq_true rfl⟩ hl.1 rfl (Nat.le_of_ble_eq_true rfl) dL_law_946 ⟨(show cells + 0 ≤ 600130 by omega), (show slots + 0 ≤ 7301080 by omega)⟩) hX (fun r4 μ4 H locs q4 hX hz => ?_)
  subst q4
  refine W.eq (g2 := F0 m 949 ls [.int 1]) rfl ?_
  refine va_forget (fun q hq => hX.S.2.2 q hq) ?_
  refine W.widen (k := 600130) (n := 7301080) (by omega) (by omega) ?_
  exact lw_ret hd0 hx hb hr hlocks dL_law_949

