set_option maxHeartbeats 4000000 in
set_option maxRecDepth 100000 in
/-- the law, from its entry -/
theorem whole_start {p : Program} {e : Env} {s : State} {m : MethodId} {below : List Frame} {meth : Method} {c : Code} (l : Launch) (hflags : l.flags = flags0) {b L : Nat} {xs : Nat → Int32} (hL : L ≤ 2048) (C0 : lw_At p s m meth c b L xs) : W p l e room_1 s m #[Value.ref b] below meth c s.heap [] 0 0 (lw_Z below #[Value.ref b] s) (entryFrame m ([Value.ref b] : List Value).toArray 9) := by
  have hflt : l.stackTraces = false := by unfold Launch.stackTraces; rw [hflags]; decide +kernel
  obtain ⟨hx, hb, hr, hml, hown, hts, hXs, hbl, hlocks, hgv⟩ := id C0
  obtain ⟨g, hE, hgB⟩ := wE_start C0
  have hd0 := Drawn.sameBut.refl s.drawn lw_cs
  refine W.base ?_
  have hown : (s.setDrawn s.drawn).vm.findClass "FairyDustLaw" = some m.cls := hown
  have hl := lv_entry ([.ref b]) (n := 9) (Nat.le_of_ble_eq_true rfl)
  rw [lg_entry_eq]
  generalize (lg_sl ([.ref b]) ++ List.replicate (9 - (lg_sl ([.ref b])).length) Slot.unset).toArray = ls at hl ⊢
  have hl : lv_has ls 9 [(0, .ref b)] := hl
  have hX : wX g (lwA s) (s.setDrawn s.drawn) s.heap [] (fun _ => none) := ⟨hE.next (A := lwA s) (H := s.heap) (locs := []) (fun q h => by rw [hgB]; exact h) va_S.rf rfl (State.WarmedH.refl _), fun q h => by rw [hgB]; exact h, fun q h => h, va_S.rf, fun q e h => (by cases h), fun q h => absurd rfl h⟩
  refine w_new (ci := 3) hx hb inX2 tyX2 tyX2_ok rfl hX hown kw20 kw21 kw1 dfX2 (Nat.le_of_ble_eq_true rfl) (Nat.le_of_ble_eq_true rfl) dL_law_0 (fun q1 H hq1 hX => ?_)
  obtain ⟨μ1, e1⟩ : ∃ z : wMu, z = va_up (fun _ => none) q1 (some (.inr (3, [.null, .null, .null, .null, .int 0, .int 0, .int 0]))) := ⟨_, rfl⟩
  rw [← e1] at hX
  have k1 : μ1 q1 = some (.inr (3, [.null, .null, .null, .null, .int 0, .int 0, .int 0])) := by rw [e1]; exact va_up_self _ _ _
  refine W.eq (g2 := F0 m 3 ls [.ref q1]) rfl ?_
  refine lv_dup hx hb dL_law_3 rfl ?_
  refine w_call (w_runI (n := 0) (As := []) (rest := [.ref q1]) hx hb hml hown hX (c_X2_init l g μ1 H.size k1) kw24 kw1 kw22 kw23 rfl wn_X2_init rfl ⟨Nat.le_of_ble_eq_true rfl, Nat.le_of_ble_eq_true rfl⟩ hl.1 rfl (Nat.le_of_ble_eq_true rfl) dL_law_4 ⟨Nat.le_of_ble_eq_true rfl, Nat.le_of_ble_eq_true rfl⟩) hX (fun r2 μ2 H locs q2 hX hz => ?_)
  obtain ⟨rfl, ⟨Λ, hΛ, hF⟩, -⟩ := q2
  refine W.eq (g2 := F0 m 7 ls [.ref q1]) rfl ?_
  refine lv_astore_n (lv' := [(1, .ref q1), (0, .ref b)]) hx hb dL_law_7 rfl hl (by decide) rfl (fun ls hl => ?_)
  refine w_new (ci := 4) hx hb inX3 tyX3 tyX3_ok rfl hX hown kw623 kw624 kw7 dfX3 (Nat.le_of_ble_eq_true rfl) (Nat.le_of_ble_eq_true rfl) dL_law_8 (fun qm H hqm hX => ?_)
  obtain ⟨μ3, e3⟩ : ∃ z : wMu, z = va_up μ2 qm (some (.inr (4, [.int 0, .int 0, .int 0, .int 0, .int 0, .int 0, .null, .null, .null, .null, .null, .null, .null, .null, .null]))) := ⟨_, rfl⟩
  rw [← e3] at hX
  have k3 : μ3 qm = some (.inr (4, [.int 0, .int 0, .int 0, .int 0, .int 0, .int 0, .null, .null, .null, .null, .null, .null, .null, .null, .null])) := by rw [e3]; exact va_up_self _ _ _
  have nq : ∀ z e, μ2 z = some e → z ≠ qm := fun z e h c => by rw [c, hqm] at h; cases h
  have n3 : ∀ z e, μ2 z = some e → μ3 z = some e := fun z e h => by rw [e3, va_up_ne _ _ (nq z e h)]; exact h
  refine W.eq (g2 := F0 m 11 ls [.ref qm]) rfl ?_
  refine lv_dup hx hb dL_law_11 rfl ?_
  refine w_call (w_runI (n := 0) (As := []) (rest := [.ref qm]) hx hb hml hown hX (c_X3_init l g μ3 H.size k3) kw627 kw7 kw625 kw626 rfl wn_X3_init rfl ⟨Nat.le_of_ble_eq_true rfl, Nat.le_of_ble_eq_true rfl⟩ hl.1 rfl (Nat.le_of_ble_eq_true rfl) dL_law_12 ⟨Nat.le_of_ble_eq_true rfl, Nat.le_of_ble_eq_true rfl⟩) hX (fun r4 μ4 H locs q4 hX hz => ?_)
  obtain ⟨rfl, ⟨Ω, hΩ, hM⟩, hfr⟩ := q4
  have hF4 := hF.mono (fun z e h => hfr z e (nq z e h) (n3 z e h))
  refine W.eq (g2 := F0 m 15 ls [.ref qm]) rfl ?_
  refine lv_astore_n (lv' := [(2, .ref qm), (1, .ref q1), (0, .ref b)]) hx hb dL_law_15 rfl hl (by decide) rfl (fun ls hl => ?_)
  refine lv_iconst (v := nI 1) hx hb dL_law_16 (by decide) ?_
  refine n_newJ hx hb hX kw893 (by decide) (Nat.le_of_ble_eq_true rfl) (Nat.le_of_ble_eq_true rfl) dL_law_17 (fun qj H hqj hX => ?_)
  obtain ⟨μ5, e5⟩ : ∃ z : wMu, z = va_up μ4 qj (some (cJ g 0)) := ⟨_, rfl⟩
  have hX : wX g (lwA s) (s.setDrawn s.drawn) H locs μ5 := by rw [e5]; exact hX
  have k5 : μ5 qj = some (cJ g 0) := by rw [e5]; exact va_up_self _ _ _
  have n5 : ∀ z e, μ4 z = some e → μ5 z = some e := fun z e h => by rw [e5, va_up_ne _ _ (fun c => by rw [c, hqj] at h; cases h)]; exact h
  refine W.eq (g2 := F0 m 19 ls [.ref qj]) rfl ?_
  refine lv_astore_n (lv' := [(3, .ref qj), (2, .ref qm), (1, .ref q1), (0, .ref b)]) hx hb dL_law_19 rfl hl (by decide) rfl (fun ls hl => ?_)
  refine lv_iconst (v := nI 0) hx hb dL_law_20 (by decide) ?_
  refine lv_istore (lv' := [(4, .int (nI 0)), (3, .ref qj), (2, .ref qm), (1, .ref q1), (0, .ref b)]) hx hb dL_law_21 hl (by decide) rfl (fun ls hl => ?_)
  have hF5 := (hF4.mono n5).put9 k5
  have hM5 := hM.mono n5
  have hl : lv_has ls 9 [(4, .int (nI (4 * 0))), (3, .ref (up2 Λ 9 0 qj 9 0)), (2, .ref (Ω 0)), (1, .ref (up2 Λ 9 0 qj 0 0)), (0, .ref b)] := by
    rw [up2_self, up2_nf Λ (show (0 : Nat) ≠ 9 by omega), hΛ, hΩ]
    exact hl
  exact lw_loop hflt hL C0 512 0 s.drawn _ _ 0 0 (mC μ5) (mN μ5) H locs ls _ _ (by omega) (by omega) hd0 gd.zero hF5.flt hM5.flt (fun q h => mCN q h) (hX.sub (fun q e h => mC_s q e h)) (hX.sub (fun q e h => mN_s q e h)) (Nat.le_of_ble_eq_true rfl) (Nat.le_of_ble_eq_true rfl) hl
